/-! one switch takes what another has -/
def cpA (M : Mm) (d s n : Nat) : Mm := ms_A M d (va_cpy (mm_A M s) (mm_A M d) 0 0 n)
section CP
variable {K L : Nat → Nat} {M : Mm} {β : Type}
theorem cp_at {d s n k : Nat} (h : k < n) : mm_A (cpA M d s n) d k = mm_A M s k := by
  unfold cpA
  rw [A_A, if_pos rfl]
  show (if 0 ≤ k ∧ k < 0 + n then mm_A M s (0 + (k - 0)) else _) = _
  rw [if_pos (by omega), Nat.zero_add, Nat.sub_zero]
theorem cp_ne {d s n x : Nat} (h : x ≠ d) : mm_A (cpA M d s n) x = mm_A M x := by
  unfold cpA
  rw [A_A, if_neg h]
theorem cp_e {d s n x : Nat} (h : x ≠ d) : eqAt M (cpA M d s n) x := eqAt.A h
theorem rp_ok {a n m : Nat} (hk : K a = 13) (hl : L a = m) (hn : n ≤ m) (hm : m < 2 ^ 31) : rp K L (some a) 0 (nI n) = some a := by
  have h : K a = 13 ∧ ¬ (0 : Int32) < 0 ∧ ¬ nI n < 0 ∧ (0 : Int32).toNatClampNeg + (nI n).toNatClampNeg ≤ L a := ⟨hk, by decide, nI_pos (by omega), by rw [nI_clamp (by omega), hl]; show 0 + n ≤ m; omega⟩
  simp only [rp]
  rw [if_pos h]
theorem cp_step {d s n m : Nat} (hd : K d = 13) (hd' : L d = m) (hs : K s = 13) (hs' : L s = m) (hn : n ≤ m) (hm : m < 2 ^ 31) (G : Mm → Option β) : Option.bind (rp K L (some s) 0 (nI n)) (fun a5 => Option.bind (rp K L (some d) 0 (nI n)) (fun a7 => bn (ms_A M a7 (va_cpy (mm_A M a5) (mm_A M a7) (0 : Int32).toNatClampNeg (0 : Int32).toNatClampNeg (nI n).toNatClampNeg)) G)) = G (cpA M d s n) := by
  rw [rp_ok hs hs' hn hm, rp_ok hd hd' hn hm]
  simp only [Option.bind_some, bn_eq]
  rw [nI_clamp (by omega)]
  rfl
end CP
theorem ub {α : Type} {x : Option Unit} (h : x = some ()) (G : Unit → Option α) : Option.bind x G = G () := by rw [h]; rfl
theorem rcb {α : Type} {K : Nat → Nat} {a c : Nat} (h : K a = c) (G : Nat → Option α) : Option.bind (rc K (some a) c) G = G a := by rw [rc_ok h]; rfl
section TK
variable {K L : Nat → Nat} {M : Mm} {fu b0 b1 o : Nat} {S : Nat → Int32}
theorem tk6 (h1 : BS K L (mm_R M) (mm_C M) b1) (h0 : BS K L (mm_R M) (mm_C M) b0) (ap : b0 + 30 ≤ b1 ∨ b1 + 30 ≤ b0) (r : rRu M b0 S o) : ∃ M', f_X6_takeFrom K L (b1 + 1) (some (b0 + 1)) M = some M' ∧ mm_R M' = mm_R M ∧ mm_C M' = mm_C M ∧ (∀ x, (x < b1 + 1 ∨ b1 + 5 < x) → eqAt M M' x) ∧ rRu M' b1 S o := by
  obtain ⟨a1, a2, a3, a4, a5, a6, a7, a8, a9, a10, a11, a12, a13⟩ := h1.2.1
  obtain ⟨c1, c2, c3, c4, c5, c6, c7, c8, c9, c10, c11, c12, c13⟩ := h0.2.1
  refine ⟨cpA (cpA (cpA (cpA (ms_I M 192 (b1 + 1) (mm_I M 192 (b0 + 1))) (b1 + 2) (b0 + 2) 6) (b1 + 3) (b0 + 3) 6) (b1 + 4) (b0 + 4) 6) (b1 + 5) (b0 + 5) 6, ?_, rfl, rfl, fun x hx => ((((eqAt.I (by omega)).tr (cp_e (by omega))).tr (cp_e (by omega))).tr (cp_e (by omega))).tr (cp_e (by omega)), ?_⟩
  · have e : ∀ (T : Mm), mm_R T = mm_R M → mm_R T (32 * 6 + 1) (b1 + 1) = some (b1 + 2) ∧ mm_R T (32 * 6 + 2) (b1 + 1) = some (b1 + 3) ∧ mm_R T (32 * 6 + 3) (b1 + 1) = some (b1 + 4) ∧ mm_R T (32 * 6 + 4) (b1 + 1) = some (b1 + 5) ∧ mm_R T (32 * 6 + 1) (b0 + 1) = some (b0 + 2) ∧ mm_R T (32 * 6 + 2) (b0 + 1) = some (b0 + 3) ∧ mm_R T (32 * 6 + 3) (b0 + 1) = some (b0 + 4) ∧ mm_R T (32 * 6 + 4) (b0 + 1) = some (b0 + 5) := fun T hT => by rw [hT]; exact ⟨a2, a3, a4, a5, c2, c3, c4, c5⟩
    unfold f_X6_takeFrom
    rw [rc_ok c1]
    simp only [Option.bind_some]
    rw [bn_eq, (e (ms_I M (32 * 6 + 0) (b1 + 1) (mm_I M (32 * 6 + 0) (b0 + 1))) rfl).1, (e (ms_I M (32 * 6 + 0) (b1 + 1) (mm_I M (32 * 6 + 0) (b0 + 1))) rfl).2.2.2.2.1]
    refine (cp_step (n := 6) a6 a7 c6 c7 (by decide) (by decide) _).trans ?_
    generalize hT : cpA (ms_I M (32 * 6 + 0) (b1 + 1) (mm_I M (32 * 6 + 0) (b0 + 1))) (b1 + 2) (b0 + 2) 6 = T
    have rT : mm_R T = mm_R M := by rw [← hT]; rfl
    rw [(e T rT).2.1, (e T rT).2.2.2.2.2.1]
    refine (cp_step (n := 6) a8 a9 c8 c9 (by decide) (by decide) _).trans ?_
    rw [(e (cpA T (b1 + 3) (b0 + 3) 6) rT).2.2.1, (e (cpA T (b1 + 3) (b0 + 3) 6) rT).2.2.2.2.2.2.1]
    refine (cp_step (n := 6) a10 a11 c10 c11 (by decide) (by decide) _).trans ?_
    rw [(e (cpA (cpA T (b1 + 3) (b0 + 3) 6) (b1 + 4) (b0 + 4) 6) rT).2.2.2.1, (e (cpA (cpA T (b1 + 3) (b0 + 3) 6) (b1 + 4) (b0 + 4) 6) rT).2.2.2.2.2.2.2]
    refine (cp_step (n := 6) a12 a13 c12 c13 (by decide) (by decide) _).trans ?_
    rw [← hT]
  · obtain ⟨k, k1, k2, k3, k4⟩ := r
    refine ⟨k, k1, k2, ?_, fun i hi => ?_⟩
    · show mm_I (ms_I M 192 (b1 + 1) (mm_I M 192 (b0 + 1))) 192 (b1 + 1) = nI k
      rw [I_I, if_pos ⟨rfl, rfl⟩]; exact k3
    · rw [cp_ne (show b1 + 2 ≠ b1 + 5 by omega), cp_ne (show b1 + 2 ≠ b1 + 4 by omega), cp_ne (show b1 + 2 ≠ b1 + 3 by omega), cp_at (by omega), A_I, cp_ne (show b1 + 3 ≠ b1 + 5 by omega), cp_ne (show b1 + 3 ≠ b1 + 4 by omega), cp_at (by omega), cp_ne (by omega), A_I, cp_ne (show b1 + 4 ≠ b1 + 5 by omega), cp_at (by omega), cp_ne (by omega), cp_ne (by omega), A_I, cp_at (by omega), cp_ne (by omega), cp_ne (by omega), cp_ne (by omega), A_I]
      exact k4 i hi
theorem tk7 (h1 : BS K L (mm_R M) (mm_C M) b1) (h0 : BS K L (mm_R M) (mm_C M) b0) (ap : b0 + 30 ≤ b1 ∨ b1 + 30 ≤ b0) (r : rSh M b0 S o) : ∃ M', f_X7_takeFrom K L (b1 + 6) (some (b0 + 6)) M = some M' ∧ mm_R M' = mm_R M ∧ mm_C M' = mm_C M ∧ (∀ x, (x < b1 + 7 ∨ b1 + 8 < x) → eqAt M M' x) ∧ rSh M' b1 S o := by
  obtain ⟨a1, a2, a3, a4, a5, a6, a7⟩ := h1.2.2.1
  obtain ⟨c1, c2, c3, c4, c5, c6, c7⟩ := h0.2.2.1
  refine ⟨cpA (cpA M (b1 + 7) (b0 + 7) 8) (b1 + 8) (b0 + 8) 8, ?_, rfl, rfl, fun x hx => (cp_e (by omega)).tr (cp_e (by omega)), ?_⟩
  · unfold f_X7_takeFrom
    rw [rc_ok c1]
    simp only [Option.bind_some]
    rw [show mm_R M (32 * 7 + 0) (b1 + 6) = _ from a2, show mm_R M (32 * 7 + 0) (b0 + 6) = _ from c2]
    refine (cp_step (n := 8) a4 a5 c4 c5 (by decide) (by decide) _).trans ?_
    rw [show mm_R (cpA M (b1 + 7) (b0 + 7) 8) (32 * 7 + 1) (b1 + 6) = _ from a3, show mm_R (cpA M (b1 + 7) (b0 + 7) 8) (32 * 7 + 1) (b0 + 6) = _ from c3]
    exact cp_step (n := 8) a6 a7 c6 c7 (by decide) (by decide) _
  · intro w h1 h2
    rw [cp_ne (show b1 + 7 ≠ b1 + 8 by omega), cp_at (by omega), cp_at (by omega), cp_ne (by omega)]
    exact r w h1 h2
theorem tk3 (h1 : BS K L (mm_R M) (mm_C M) b1) (h0 : BS K L (mm_R M) (mm_C M) b0) (ap : b0 + 30 ≤ b1 ∨ b1 + 30 ≤ b0) (r : rLa M b0 S o) : ∃ M', f_X3_takeFrom K L (b1 + 9) (some (b0 + 9)) M = some M' ∧ mm_R M' = mm_R M ∧ mm_C M' = mm_C M ∧ (∀ x, (x < b1 + 9 ∨ b1 + 10 < x) → eqAt M M' x) ∧ rLa M' b1 S o := by
  obtain ⟨a1, a2, a3, a4⟩ := h1.2.2.2.1
  obtain ⟨c1, c2, c3, c4⟩ := h0.2.2.2.1
  refine ⟨cpA (ms_I (ms_I M 97 (b1 + 9) (mm_I M 97 (b0 + 9))) 98 (b1 + 9) (mm_I M 98 (b0 + 9))) (b1 + 10) (b0 + 10) 20, ?_, rfl, rfl, fun x hx => ((eqAt.I (by omega)).tr (eqAt.I (by omega))).tr (cp_e (by omega)), ?_⟩
  · unfold f_X3_takeFrom
    rw [rc_ok c1]
    simp only [Option.bind_some]
    rw [bn_eq, bn_eq, I_I, if_neg (by omega)]
    rw [show mm_R (ms_I (ms_I M (32 * 3 + 1) (b1 + 9) (mm_I M (32 * 3 + 1) (b0 + 9))) (32 * 3 + 2) (b1 + 9) (mm_I M (32 * 3 + 2) (b0 + 9))) (32 * 3 + 0) (b1 + 9) = _ from a2, show mm_R (ms_I (ms_I M (32 * 3 + 1) (b1 + 9) (mm_I M (32 * 3 + 1) (b0 + 9))) (32 * 3 + 2) (b1 + 9) (mm_I M (32 * 3 + 2) (b0 + 9))) (32 * 3 + 0) (b0 + 9) = _ from c2]
    exact cp_step (n := 20) a3 a4 c3 c4 (by decide) (by decide) _
  · obtain ⟨k, z, l1, l2, l3, l4, l5, l6, l7, l8⟩ := r
    refine ⟨k, z, l1, l2, l3, l4, l5, ?_, ?_, fun i hi => ?_⟩
    · show mm_I (ms_I (ms_I M 97 (b1 + 9) (mm_I M 97 (b0 + 9))) 98 (b1 + 9) (mm_I M 98 (b0 + 9))) 97 (b1 + 9) = _
      rw [I_I, if_neg (by omega), I_I, if_pos ⟨rfl, rfl⟩]; exact l6
    · show mm_I (ms_I (ms_I M 97 (b1 + 9) (mm_I M 97 (b0 + 9))) 98 (b1 + 9) (mm_I M 98 (b0 + 9))) 98 (b1 + 9) = _
      rw [I_I, if_pos ⟨rfl, rfl⟩]; exact l7
    · rw [cp_at (by omega)]
      exact l8 i hi
theorem tk0 (h1 : BS K L (mm_R M) (mm_C M) b1) (h0 : BS K L (mm_R M) (mm_C M) b0) (ap : b0 + 30 ≤ b1 ∨ b1 + 30 ≤ b0) (r : rBu M b0 S o) : ∃ M', f_X0_takeFrom K L (b1 + 11) (some (b0 + 11)) M = some M' ∧ mm_R M' = mm_R M ∧ mm_C M' = mm_C M ∧ (∀ x, x ≠ b1 + 11 → eqAt M M' x) ∧ rBu M' b1 S o := by
  obtain ⟨r0, r1, r2, r3, r4, r5, r6, r7, r8, r9, r10, r11⟩ := r
  have hz : zb (mm_I M 3 (b0 + 11)) = some () := zb_ok (by rw [r3]; exact r11)
  have ne : ¬ b0 + 11 = b1 + 11 := by omega
  refine ⟨ms_I (ms_I (ms_I (ms_I (ms_I (ms_I (ms_I M 0 (b1 + 11) (mm_I M 0 (b0 + 11))) 1 (b1 + 11) (mm_I M 1 (b0 + 11))) 2 (b1 + 11) (mm_I M 2 (b0 + 11))) 3 (b1 + 11) (mm_I M 3 (b0 + 11))) 4 (b1 + 11) (mm_I M 4 (b0 + 11))) 5 (b1 + 11) (mm_I M 5 (b0 + 11))) 6 (b1 + 11) (mm_I M 6 (b0 + 11)), ?_, rfl, rfl, fun x hx => ((((((eqAt.I hx).tr (eqAt.I hx)).tr (eqAt.I hx)).tr (eqAt.I hx)).tr (eqAt.I hx)).tr (eqAt.I hx)).tr (eqAt.I hx), ?_⟩
  · unfold f_X0_takeFrom f_X0_set
    rw [rc_ok h0.2.2.2.2.1]
    simp only [Option.bind_some, bn_eq, show zb (mm_I M (32 * 0 + 3) (b0 + 11)) = some () from hz, I_I]
    simp [ne]
  · unfold rBu
    simp only [I_I]
    simp only [and_true]
    refine ⟨by simpa using r0, by simpa using r1, by simpa using r2, by simpa using r3, by simpa using r4, by simpa using r5, by simpa using r6, r7, r8, r9, r10, r11⟩
theorem tk10 (h1 : BS K L (mm_R M) (mm_C M) b1) (h0 : BS K L (mm_R M) (mm_C M) b0) (ap : b0 + 30 ≤ b1 ∨ b1 + 30 ≤ b0) (r : rTr M b0 S o) : ∃ M', f_X10_takeFrom K L (b1 + 12) (some (b0 + 12)) M = some M' ∧ mm_R M' = mm_R M ∧ mm_C M' = mm_C M ∧ (∀ x, x ≠ b1 + 12 → eqAt M M' x) ∧ rTr M' b1 S o := by
  have ne : ¬ b0 + 12 = b1 + 12 := by omega
  obtain ⟨M1, hM1⟩ : ∃ M1, M1 = mt10 M (b1 + 12) (mm_I M 320 (b0 + 12)) (mm_I M 321 (b0 + 12)) (mm_I M 322 (b0 + 12)) (mm_I M 323 (b0 + 12)) := ⟨_, rfl⟩
  have e1 : ∀ x, mm_I M1 x (b0 + 12) = mm_I M x (b0 + 12) := fun x => by rw [hM1]; exact (mt10_e ne).1 x
  refine ⟨ms_I (ms_I (ms_I (ms_I (ms_I (ms_I (ms_I M1 324 (b1 + 12) (mm_I M 324 (b0 + 12))) 325 (b1 + 12) (mm_I M 325 (b0 + 12))) 326 (b1 + 12) (mm_I M 326 (b0 + 12))) 327 (b1 + 12) (mm_I M 327 (b0 + 12))) 328 (b1 + 12) (mm_I M 328 (b0 + 12))) 329 (b1 + 12) (mm_I M 329 (b0 + 12))) 330 (b1 + 12) (mm_I M 330 (b0 + 12)), ?_, by rw [hM1]; rfl, by rw [hM1]; rfl, fun x hx => ?_, fun j hj => ?_, r.2⟩
  · unfold f_X10_takeFrom
    rw [rc_ok h0.2.2.2.2.2.1]
    simp only [Option.bind_some, begin10_eq]
    rw [show mt10 M (b1 + 12) (mm_I M (32 * 10 + 0) (b0 + 12)) (mm_I M (32 * 10 + 1) (b0 + 12)) (mm_I M (32 * 10 + 2) (b0 + 12)) (mm_I M (32 * 10 + 3) (b0 + 12)) = M1 from hM1.symm]
    simp only [f_X10_setLook, bn_eq, Option.bind_some, I_I]
    simp [ne, e1]
  · have : eqAt M M1 x := by rw [hM1]; exact mt10_e hx
    exact ((((((this.tr (eqAt.I hx)).tr (eqAt.I hx)).tr (eqAt.I hx)).tr (eqAt.I hx)).tr (eqAt.I hx)).tr (eqAt.I hx)).tr (eqAt.I hx)
  · rw [← r.1 j hj, hM1]
    unfold mt10
    simp only [I_I]
    rcases (show j = 0 ∨ j = 1 ∨ j = 2 ∨ j = 3 ∨ j = 4 ∨ j = 5 ∨ j = 6 ∨ j = 7 ∨ j = 8 ∨ j = 9 ∨ j = 10 by omega) with rfl | rfl | rfl | rfl | rfl | rfl | rfl | rfl | rfl | rfl | rfl <;> simp
theorem tk2a {w e : Nat} {T : Mm} (hw : w < 4) (h1 : BS K L (mm_R M) (mm_C M) b1) (h0 : BS K L (mm_R M) (mm_C M) b0) (ap : b0 + 30 ≤ b1 ∨ b1 + 30 ≤ b0) (r1 : mm_I M 64 (b0 + 14 + 4 * w) = 0 ∨ mm_I M 64 (b0 + 14 + 4 * w) = 1) (r3 : e ≤ 240) (r4 : mm_I M 65 (b0 + 14 + 4 * w) = nI e) (hT : T = ms_I (ms_I M 64 (b1 + 14 + 4 * w) (mm_I M 64 (b0 + 14 + 4 * w))) 65 (b1 + 14 + 4 * w) (nI e)) (rT : mm_R T = mm_R M) (i65 : mm_I T 65 (b1 + 14 + 4 * w) = nI e) : f_X2_takeFrom K L (b1 + 14 + 4 * w) (some (b0 + 14 + 4 * w)) M = some (cpA (cpA (cpA T (b1 + 15 + 4 * w) (b0 + 15 + 4 * w) e) (b1 + 16 + 4 * w) (b0 + 16 + 4 * w) e) (b1 + 17 + 4 * w) (b0 + 17 + 4 * w) e) := by
  obtain ⟨-, a2, a3, a4, a5, a6, a7, a8, a9, a10, a11⟩ := h1.2.2.2.2.2.2.2.2 w hw
  obtain ⟨-, c2, c3, c4, c5, c6, c7, c8, c9, c10, c11⟩ := h0.2.2.2.2.2.2.2.2 w hw
  obtain ⟨x1, hx1⟩ : ∃ x1, x1 = b1 + 14 + 4 * w := ⟨_, rfl⟩
  obtain ⟨x0, hx0⟩ : ∃ x0, x0 = b0 + 14 + 4 * w := ⟨_, rfl⟩
  obtain ⟨y1, hy1⟩ : ∃ y1, y1 = b1 + 15 + 4 * w := ⟨_, rfl⟩
  obtain ⟨y0, hy0⟩ : ∃ y0, y0 = b0 + 15 + 4 * w := ⟨_, rfl⟩
  obtain ⟨z1, hz1⟩ : ∃ z1, z1 = b1 + 16 + 4 * w := ⟨_, rfl⟩
  obtain ⟨z0, hz0⟩ : ∃ z0, z0 = b0 + 16 + 4 * w := ⟨_, rfl⟩
  obtain ⟨u1, hu1⟩ : ∃ u1, u1 = b1 + 17 + 4 * w := ⟨_, rfl⟩
  obtain ⟨u0, hu0⟩ : ∃ u0, u0 = b0 + 17 + 4 * w := ⟨_, rfl⟩
  rw [← hx1, ← hy1] at a3
  rw [← hx1, ← hz1] at a4
  rw [← hx1, ← hu1] at a5
  rw [← hx0, ← hy0] at c3
  rw [← hx0, ← hz0] at c4
  rw [← hx0, ← hu0] at c5
  rw [← hx1] at a2 hT i65
  rw [← hx0] at c2 hT r1 r4
  rw [← hy1] at a6 a7
  rw [← hz1] at a8 a9
  rw [← hu1] at a10 a11
  rw [← hy0] at c6 c7
  rw [← hz0] at c8 c9
  rw [← hu0] at c10 c11
  rw [← hx1, ← hx0, ← hy1, ← hy0, ← hz1, ← hz0, ← hu1, ← hu0]
  have ne : ¬ x0 = x1 := by omega
  clear hx1 hx0 hy1 hy0 hz1 hz0 hu1 hu0
  have hz : zb (mm_I M (32 * 2 + 0) x0) = some () := zb_ok r1
  have e1 : mm_R T (32 * 2 + 2) x0 = some y0 ∧ mm_R T (32 * 2 + 2) x1 = some y1 ∧ mm_R T (32 * 2 + 3) x0 = some z0 ∧ mm_R T (32 * 2 + 3) x1 = some z1 ∧ mm_R T (32 * 2 + 4) x0 = some u0 ∧ mm_R T (32 * 2 + 4) x1 = some u1 := by rw [rT]; exact ⟨c3, a3, c4, a4, c5, a5⟩
  have i65' : mm_I T (32 * 2 + 1) x1 = nI e := i65
  have r4' : mm_I M (32 * 2 + 1) x0 = nI e := r4
  have hT' : ms_I (ms_I M (32 * 2 + 0) x1 (mm_I M (32 * 2 + 0) x0)) (32 * 2 + 1) x1 (nI e) = T := hT.symm
  unfold f_X2_takeFrom
  refine (rcb (a := x0) (c := 2) c2 _).trans ?_
  refine (ub hz _).trans ?_
  rw [bn_eq, bn_eq, I_I, if_neg (fun q => ne q.2), r4', hT', i65', e1.1, e1.2.1, cp_step (n := e) a6 a7 c6 c7 r3 (by decide)]
  rw [show mm_I (cpA T y1 y0 e) (32 * 2 + 1) x1 = nI e from i65', show mm_R (cpA T y1 y0 e) (32 * 2 + 3) x0 = some z0 from e1.2.2.1, show mm_R (cpA T y1 y0 e) (32 * 2 + 3) x1 = some z1 from e1.2.2.2.1, cp_step (n := e) a8 a9 c8 c9 r3 (by decide)]
  rw [show mm_I (cpA (cpA T y1 y0 e) z1 z0 e) (32 * 2 + 1) x1 = nI e from i65', show mm_R (cpA (cpA T y1 y0 e) z1 z0 e) (32 * 2 + 4) x0 = some u0 from e1.2.2.2.2.1, show mm_R (cpA (cpA T y1 y0 e) z1 z0 e) (32 * 2 + 4) x1 = some u1 from e1.2.2.2.2.2, cp_step (n := e) a10 a11 c10 c11 r3 (by decide)]
theorem tk2 {w : Nat} (hw : w < 4) (h1 : BS K L (mm_R M) (mm_C M) b1) (h0 : BS K L (mm_R M) (mm_C M) b0) (ap : b0 + 30 ≤ b1 ∨ b1 + 30 ≤ b0) (r : rCt M b0 S o w) : ∃ M', f_X2_takeFrom K L (b1 + 14 + 4 * w) (some (b0 + 14 + 4 * w)) M = some M' ∧ mm_R M' = mm_R M ∧ mm_C M' = mm_C M ∧ (∀ x, (x < b1 + 14 + 4 * w ∨ b1 + 17 + 4 * w < x) → eqAt M M' x) ∧ rCt M' b1 S o w := by
  obtain ⟨-, a2, a3, a4, a5, a6, a7, a8, a9, a10, a11⟩ := h1.2.2.2.2.2.2.2.2 w hw
  obtain ⟨-, c2, c3, c4, c5, c6, c7, c8, c9, c10, c11⟩ := h0.2.2.2.2.2.2.2.2 w hw
  obtain ⟨r1, r2, e, r3, r4, r5⟩ := r
  obtain ⟨T, hT⟩ : ∃ T, T = ms_I (ms_I M 64 (b1 + 14 + 4 * w) (mm_I M 64 (b0 + 14 + 4 * w))) 65 (b1 + 14 + 4 * w) (nI e) := ⟨_, rfl⟩
  have rT : mm_R T = mm_R M := by rw [hT]; rfl
  have i65 : mm_I T 65 (b1 + 14 + 4 * w) = nI e := by rw [hT, I_I, if_pos ⟨rfl, rfl⟩]
  have i64 : mm_I T 64 (b1 + 14 + 4 * w) = mm_I M 64 (b0 + 14 + 4 * w) := by rw [hT, I_I, if_neg (by omega), I_I, if_pos ⟨rfl, rfl⟩]
  have aT : mm_A T = mm_A M := by rw [hT]; rfl
  refine ⟨cpA (cpA (cpA T (b1 + 15 + 4 * w) (b0 + 15 + 4 * w) e) (b1 + 16 + 4 * w) (b0 + 16 + 4 * w) e) (b1 + 17 + 4 * w) (b0 + 17 + 4 * w) e, ?_, rT, by rw [hT]; rfl, fun x hx => ?_, ?_⟩
  · exact tk2a hw h1 h0 ap (by rw [r1]; exact r2) r3 r4 hT rT i65
  · have : eqAt M T x := by rw [hT]; exact (eqAt.I (by omega)).tr (eqAt.I (by omega))
    exact ((this.tr (cp_e (by omega))).tr (cp_e (by omega))).tr (cp_e (by omega))
  · refine ⟨i64.trans r1, r2, e, r3, i65, fun m hm => ?_⟩
    have v15 : m < e → mm_A (cpA (cpA (cpA T (b1 + 15 + 4 * w) (b0 + 15 + 4 * w) e) (b1 + 16 + 4 * w) (b0 + 16 + 4 * w) e) (b1 + 17 + 4 * w) (b0 + 17 + 4 * w) e) (b1 + 15 + 4 * w) m = mm_A M (b0 + 15 + 4 * w) m := fun h => by rw [cp_ne (by omega), cp_ne (by omega), cp_at h, aT]
    have v16 : m < e → mm_A (cpA (cpA (cpA T (b1 + 15 + 4 * w) (b0 + 15 + 4 * w) e) (b1 + 16 + 4 * w) (b0 + 16 + 4 * w) e) (b1 + 17 + 4 * w) (b0 + 17 + 4 * w) e) (b1 + 16 + 4 * w) m = mm_A M (b0 + 16 + 4 * w) m := fun h => by rw [cp_ne (by omega), cp_at h, cp_ne (by omega), aT]
    have v17 : m < e → mm_A (cpA (cpA (cpA T (b1 + 15 + 4 * w) (b0 + 15 + 4 * w) e) (b1 + 16 + 4 * w) (b0 + 16 + 4 * w) e) (b1 + 17 + 4 * w) (b0 + 17 + 4 * w) e) (b1 + 17 + 4 * w) m = mm_A M (b0 + 17 + 4 * w) m := fun h => by rw [cp_at h, cp_ne (by omega), cp_ne (by omega), aT]
    rcases r5 m hm with ⟨q1, q2, q3, q4, q5⟩ | ⟨q1, q2, q3, q4, q5, q6⟩
    · exact Or.inl ⟨q1, q2, q3, q4, fun h => (v15 h).trans (q5 h)⟩
    · exact Or.inr ⟨q1, q2, (v15 q2).trans q3, (v16 q2).trans q4, (v17 q2).trans q5, q6⟩
end TK
