/-! a switch, a place takes what another has -/
theorem sb {α β : Type} {x : Option α} {a : α} (h : x = some a) (G : α → Option β) : Option.bind x G = G a := by rw [h]; rfl
section TS
variable {K L : Nat → Nat} {M : Mm} {fu b0 b1 o : Nat} {S : Nat → Int32}
theorem tk9 (h1 : BS K L (mm_R M) (mm_C M) b1) (h0 : BS K L (mm_R M) (mm_C M) b0) (ap : b0 + 30 ≤ b1 ∨ b1 + 30 ≤ b0) (hfu : 5000 ≤ fu) (r : rAll M b0 S o) (h47 : S (o + 47) = 0 ∨ S (o + 47) = 1) : ∃ M', f_X9_takeFrom K L fu b1 (some b0) M = some M' ∧ mm_R M' = mm_R M ∧ mm_C M' = mm_C M ∧ (∀ x, (x < b1 ∨ b1 + 30 ≤ x) → eqAt M M' x) ∧ rAll M' b1 S o := by
  obtain ⟨T1, hT1⟩ : ∃ T, T = ms_I M (32 * 9 + 0) b1 (mm_I M (32 * 9 + 0) b0) := ⟨_, rfl⟩
  obtain ⟨T2, hT2⟩ : ∃ T, T = ms_I T1 (32 * 9 + 1) b1 (mm_I T1 (32 * 9 + 1) b0) := ⟨_, rfl⟩
  obtain ⟨T3, hT3⟩ : ∃ T, T = ms_I T2 (32 * 9 + 2) b1 (mm_I T2 (32 * 9 + 2) b0) := ⟨_, rfl⟩
  have e3 : ∀ x, x ≠ b1 → eqAt M T3 x := fun x hx => by rw [hT3, hT2, hT1]; exact ((eqAt.I hx).tr (eqAt.I hx)).tr (eqAt.I hx)
  have r3 : mm_R T3 = mm_R M := by rw [hT3, hT2, hT1]; rfl
  have c3 : mm_C T3 = mm_C M := by rw [hT3, hT2, hT1]; rfl
  have ne : ¬ b0 = b1 := by omega
  have i3 : mm_I T3 288 b1 = mm_I M 288 b0 ∧ mm_I T3 289 b1 = mm_I M 289 b0 ∧ mm_I T3 290 b1 = mm_I M 290 b0 := by
    have a1 : ∀ x, mm_I T1 x b0 = mm_I M x b0 := fun x => by rw [hT1, I_I, if_neg (fun q => ne q.2)]
    have a2 : ∀ x, mm_I T2 x b0 = mm_I M x b0 := fun x => by rw [hT2, I_I, if_neg (fun q => ne q.2), a1]
    rw [hT3, I_I, if_neg (by omega), I_I, if_neg (by omega), I_I, if_pos ⟨rfl, rfl⟩, a2, hT2, I_I, if_neg (by omega), I_I, if_pos ⟨rfl, rfl⟩, a1, hT1, I_I, if_pos ⟨rfl, rfl⟩]
    exact ⟨rfl, rfl, rfl⟩
  have bs : ∀ T, mm_R T = mm_R M → mm_C T = mm_C M → BS K L (mm_R T) (mm_C T) b1 ∧ BS K L (mm_R T) (mm_C T) b0 := fun T e1 e2 => by rw [e1, e2]; exact ⟨h1, h0⟩
  obtain ⟨T6, f6, r6, c6, e6, q6⟩ := tk6 (bs T3 r3 c3).1 (bs T3 r3 c3).2 ap (r.2.1.fr (S := S) (fun c h1 h2 => e3 c (by omega)) (fun _ _ _ => rfl))
  have r6 := r6.trans r3
  have c6 := c6.trans c3
  have e6' : ∀ x, (x < b1 ∨ b1 + 5 < x) → eqAt M T6 x := fun x hx => (e3 x (by omega)).tr (e6 x (by omega))
  obtain ⟨T7, f7, r7, c7, e7, q7⟩ := tk7 (bs T6 r6 c6).1 (bs T6 r6 c6).2 ap (r.2.2.1.fr (S := S) (fun c h1 h2 => e6' c (by omega)) (fun _ _ _ => rfl))
  have r7 := r7.trans r6
  have c7 := c7.trans c6
  have e7' : ∀ x, (x < b1 ∨ b1 + 8 < x) → eqAt M T7 x := fun x hx => (e6' x (by omega)).tr (e7 x (by omega))
  obtain ⟨U1, hU1⟩ : ∃ T, T = ms_I (ms_I T7 (32 * 9 + 5) b1 (mm_I T7 (32 * 9 + 5) b0)) (32 * 9 + 6) b1 (mm_I T7 (32 * 9 + 6) b0) := ⟨_, rfl⟩
  obtain ⟨U2, hU2⟩ : ∃ T, T = ms_I U1 (32 * 9 + 7) b1 (mm_I U1 (32 * 9 + 7) b0) := ⟨_, rfl⟩
  obtain ⟨U3, hU3⟩ : ∃ T, T = ms_I U2 (32 * 9 + 8) b1 (mm_I U2 (32 * 9 + 8) b0) := ⟨_, rfl⟩
  have b7 : ∀ x, mm_I T7 x b0 = mm_I M x b0 := fun x => (e7' b0 (by omega)).1 x
  have d1 : ∀ x, mm_I U1 x b0 = mm_I M x b0 := fun x => by rw [hU1, I_I, if_neg (fun q => ne q.2), I_I, if_neg (fun q => ne q.2), b7]
  have d2 : ∀ x, mm_I U2 x b0 = mm_I M x b0 := fun x => by rw [hU2, I_I, if_neg (fun q => ne q.2), d1]
  have eU : ∀ x, x ≠ b1 → eqAt T7 U3 x := fun x hx => by rw [hU3, hU2, hU1]; exact (((eqAt.I hx).tr (eqAt.I hx)).tr (eqAt.I hx)).tr (eqAt.I hx)
  have rU : mm_R U3 = mm_R M := by rw [← r7, hU3, hU2, hU1]; rfl
  have cU : mm_C U3 = mm_C M := by rw [← c7, hU3, hU2, hU1]; rfl
  have r2U : mm_R U2 = mm_R M := by rw [← r7, hU2, hU1]; rfl
  have i7 : ∀ x, mm_I T7 x b1 = mm_I T3 x b1 := fun x => ((e6 b1 (by omega)).tr (e7 b1 (by omega))).1 x
  have iU : mm_I U3 288 b1 = mm_I M 288 b0 ∧ mm_I U3 289 b1 = mm_I M 289 b0 ∧ mm_I U3 290 b1 = mm_I M 290 b0 ∧ mm_I U3 293 b1 = mm_I M 293 b0 ∧ mm_I U3 294 b1 = mm_I M 294 b0 ∧ mm_I U3 295 b1 = mm_I M 295 b0 ∧ mm_I U3 296 b1 = mm_I M 296 b0 := by
    have k1 : ∀ x, x ≠ 295 → x ≠ 296 → mm_I U3 x b1 = mm_I U1 x b1 := fun x g1 g2 => by rw [hU3, I_I, if_neg (by omega), hU2, I_I, if_neg (by omega)]
    have k2 : ∀ x, x ≠ 293 → x ≠ 294 → mm_I U1 x b1 = mm_I T3 x b1 := fun x g1 g2 => by rw [hU1, I_I, if_neg (by omega), I_I, if_neg (by omega), i7]
    refine ⟨?_, ?_, ?_, ?_, ?_, ?_, ?_⟩
    · rw [k1 _ (by decide) (by decide), k2 _ (by decide) (by decide)]; exact i3.1
    · rw [k1 _ (by decide) (by decide), k2 _ (by decide) (by decide)]; exact i3.2.1
    · rw [k1 _ (by decide) (by decide), k2 _ (by decide) (by decide)]; exact i3.2.2
    · rw [k1 _ (by decide) (by decide), hU1, I_I, if_neg (by omega), I_I, if_pos ⟨rfl, rfl⟩, b7]
    · rw [k1 _ (by decide) (by decide), hU1, I_I, if_pos ⟨rfl, rfl⟩, b7]
    · rw [hU3, I_I, if_neg (by omega), hU2, I_I, if_pos ⟨rfl, rfl⟩, d1]
    · rw [hU3, I_I, if_pos ⟨rfl, rfl⟩, d2]
  have eU' : ∀ x, (x < b1 ∨ b1 + 8 < x) → eqAt M U3 x := fun x hx => (e7' x hx).tr (eU x (by omega))
  obtain ⟨T9, f9, r9, c9, e9, q9⟩ := tk3 (bs U3 rU cU).1 (bs U3 rU cU).2 ap (r.2.2.2.1.fr (S := S) (fun c h1 h2 => eU' c (by omega)) (fun _ _ _ => rfl))
  have r9 := r9.trans rU
  have c9 := c9.trans cU
  have e9' : ∀ x, (x < b1 ∨ b1 + 10 < x) → eqAt M T9 x := fun x hx => (eU' x (by omega)).tr (e9 x (by omega))
  obtain ⟨TA, fA, rA, cA, eA, qA'⟩ := tk0 (bs T9 r9 c9).1 (bs T9 r9 c9).2 ap (r.2.2.2.2.1.fr (S := S) (e9' _ (by omega)) (fun _ _ _ => rfl))
  have rA := rA.trans r9
  have cA := cA.trans c9
  have eA' : ∀ x, (x < b1 ∨ b1 + 11 < x) → eqAt M TA x := fun x hx => (e9' x (by omega)).tr (eA x (by omega))
  obtain ⟨TB, fB, rB, cB, eB, qB⟩ := tk10 (bs TA rA cA).1 (bs TA rA cA).2 ap (r.2.2.2.2.2.1.fr (S := S) (eA' _ (by omega)) (fun _ _ _ => rfl))
  have rB := rB.trans rA
  have cB := cB.trans cA
  have eB' : ∀ x, (x < b1 ∨ b1 + 12 < x) → eqAt M TB x := fun x hx => (eA' x (by omega)).tr (eB x (by omega))
  obtain ⟨W0, g0, rW0, cW0, eW0, qW0⟩ := tk2 (w := 0) (by decide) (bs TB rB cB).1 (bs TB rB cB).2 ap ((r.ct (w := 0) (by decide)).fr (S := S) (fun c h1 h2 => eB' c (by omega)) (fun _ _ => rfl))
  have rW0 := rW0.trans rB
  have cW0 := cW0.trans cB
  have eW0' : ∀ x, (x < b1 ∨ b1 + 17 < x) → eqAt M W0 x := fun x hx => (eB' x (by omega)).tr (eW0 x (by omega))
  obtain ⟨W1, g1, rW1, cW1, eW1, qW1⟩ := tk2 (w := 1) (by decide) (bs W0 rW0 cW0).1 (bs W0 rW0 cW0).2 ap ((r.ct (w := 1) (by decide)).fr (S := S) (fun c h1 h2 => eW0' c (by omega)) (fun _ _ => rfl))
  have rW1 := rW1.trans rW0
  have cW1 := cW1.trans cW0
  have eW1' : ∀ x, (x < b1 ∨ b1 + 21 < x) → eqAt M W1 x := fun x hx => (eW0' x (by omega)).tr (eW1 x (by omega))
  obtain ⟨W2, g2, rW2, cW2, eW2, qW2⟩ := tk2 (w := 2) (by decide) (bs W1 rW1 cW1).1 (bs W1 rW1 cW1).2 ap ((r.ct (w := 2) (by decide)).fr (S := S) (fun c h1 h2 => eW1' c (by omega)) (fun _ _ => rfl))
  have rW2 := rW2.trans rW1
  have cW2 := cW2.trans cW1
  have eW2' : ∀ x, (x < b1 ∨ b1 + 25 < x) → eqAt M W2 x := fun x hx => (eW1' x (by omega)).tr (eW2 x (by omega))
  obtain ⟨W3, g3, rW3, cW3, eW3, qW3⟩ := tk2 (w := 3) (by decide) (bs W2 rW2 cW2).1 (bs W2 rW2 cW2).2 ap ((r.ct (w := 3) (by decide)).fr (S := S) (fun c h1 h2 => eW2' c (by omega)) (fun _ _ => rfl))
  have rW3 := rW3.trans rW2
  have cW3 := cW3.trans cW2
  have k3 : ∀ x, x < b1 + 26 → eqAt W2 W3 x := fun x hx => eW3 x (by omega)
  have k2 : ∀ x, x < b1 + 22 → eqAt W1 W3 x := fun x hx => (eW2 x (by omega)).tr (k3 x (by omega))
  have k1 : ∀ x, x < b1 + 18 → eqAt W0 W3 x := fun x hx => (eW1 x (by omega)).tr (k2 x (by omega))
  have k0 : ∀ x, x < b1 + 14 → eqAt TB W3 x := fun x hx => (eW0 x (by omega)).tr (k1 x (by omega))
  have kB : ∀ x, x < b1 + 12 → eqAt TA W3 x := fun x hx => (eB x (by omega)).tr (k0 x (by omega))
  have kA : ∀ x, x < b1 + 11 → eqAt T9 W3 x := fun x hx => (eA x (by omega)).tr (kB x (by omega))
  have k9 : ∀ x, x < b1 + 9 → eqAt U3 W3 x := fun x hx => (e9 x (by omega)).tr (kA x (by omega))
  have k7 : ∀ x, x < b1 + 9 → x ≠ b1 → eqAt T7 W3 x := fun x hx hy => (eU x hy).tr (k9 x hx)
  have k6 : ∀ x, x < b1 + 7 → x ≠ b1 → eqAt T6 W3 x := fun x hx hy => (e7 x (by omega)).tr (k7 x (by omega) hy)
  refine ⟨W3, ?_, rW3, cW3, fun x hx => (eW2' x (by omega)).tr (eW3 x (by omega)), ?_, q6.fr (fun c h1 h2 => k6 c (by omega) (by omega)) (fun _ _ _ => rfl), q7.fr (fun c h1 h2 => k7 c (by omega) (by omega)) (fun _ _ _ => rfl), q9.fr (fun c h1 h2 => kA c (by omega)) (fun _ _ _ => rfl), qA'.fr (kB _ (by omega)) (fun _ _ _ => rfl), qB.fr (k0 _ (by omega)) (fun _ _ _ => rfl), qW0.fr (fun c h1 h2 => k1 c (by omega)) (fun _ _ => rfl), qW1.fr (fun c h1 h2 => k2 c (by omega)) (fun _ _ => rfl), qW2.fr (fun c h1 h2 => k3 c (by omega)) (fun _ _ => rfl), qW3⟩
  · obtain ⟨f, rfl⟩ : ∃ f', fu = f' + 5 := ⟨fu - 5, by omega⟩
    have st : ∀ (q w : Nat) (T T' : Mm), w < 4 → mm_R T = mm_R M → mm_C T = mm_C M → f_X2_takeFrom K L (b1 + 14 + 4 * w) (some (b0 + 14 + 4 * w)) T = some T' → f_X9_takeFrom_109 K L (f + 5) b1 (q + 1) (some b0) (nI w) T = f_X9_takeFrom_109 K L (f + 5) b1 q (some b0) (nI (w + 1)) T' := by
      intro q w T T' hw hr hc hf
      show f_X9_takeFrom_109b K L (f + 5) (f_X9_takeFrom_109 K L (f + 5) b1 q) b1 (some b0) (nI w) T = _
      unfold f_X9_takeFrom_109b
      rw [if_neg (show ¬ (4 : Int32) ≤ nI w by rw [t_le, nI_toInt (by omega), show (4 : Int32).toInt = 4 from rfl]; omega), hr, show mm_R M (32 * 9 + 12) b1 = _ from h1.1.2.2.2.2.2.2, rx_ok h1.2.2.2.2.2.2.1 h1.2.2.2.2.2.2.2.1 hw (by decide)]
      simp only [Option.bind_some, rc_ok h0.1.1, show mm_R M (32 * 9 + 12) b0 = _ from h0.1.2.2.2.2.2.2, rx_ok h0.2.2.2.2.2.2.1 h0.2.2.2.2.2.2.2.1 hw (show 4 < 2 ^ 31 by decide), nI_clamp (show w < 2 ^ 31 by omega), hc, (h1.2.2.2.2.2.2.2.2 w hw).1, (h0.2.2.2.2.2.2.2.2 w hw).1, rc_ok (h1.2.2.2.2.2.2.2.2 w hw).2.1, hf, nI_1]
    have e109 : f_X9_takeFrom_109 K L (f + 5) b1 (f + 5) (some b0) 0 TB = some W3 := by
      rw [show f_X9_takeFrom_109 K L (f + 5) b1 (f + 5) (some b0) 0 TB = _ from st (f + 4) 0 TB W0 (by decide) rB cB g0, st (f + 3) (0 + 1) W0 W1 (by decide) rW0 cW0 g1, st (f + 2) (0 + 1 + 1) W1 W2 (by decide) rW1 cW1 g2, st (f + 1) (0 + 1 + 1 + 1) W2 W3 (by decide) rW2 cW2 g3]
      show f_X9_takeFrom_109b K L (f + 5) (f_X9_takeFrom_109 K L (f + 5) b1 f) b1 (some b0) (nI 4) W3 = _
      unfold f_X9_takeFrom_109b
      rw [if_pos (by decide)]
    have z47 : zb (mm_I U2 (32 * 9 + 8) b0) = some () := zb_ok (by rw [d2, show mm_I M (32 * 9 + 8) b0 = _ from r.1.2.2.2.2.2.2]; exact h47)
    unfold f_X9_takeFrom
    refine (rcb h0.1.1 _).trans ?_
    rw [bn_eq, bn_eq, bn_eq, ← hT1, ← hT2, ← hT3, r3, show mm_R M (32 * 9 + 3) b1 = some (b1 + 1) from h1.1.2.1, show mm_R M (32 * 9 + 3) b0 = some (b0 + 1) from h0.1.2.1]
    refine (rcb h1.2.1.1 _).trans ?_
    rw [f6]
    show Option.bind (rc K (mm_R T6 (32 * 9 + 4) b1) 7) _ = _
    rw [r6, show mm_R M (32 * 9 + 4) b1 = some (b1 + 6) from h1.1.2.2.1, show mm_R M (32 * 9 + 4) b0 = some (b0 + 6) from h0.1.2.2.1]
    refine (rcb h1.2.2.1.1 _).trans ?_
    refine (sb f7 _).trans ?_
    refine (sb (show f_X9_hangOn K L b1 (mm_I T7 (32 * 9 + 5) b0) (mm_I T7 (32 * 9 + 6) b0) T7 = some U1 by rw [hU1]; rfl) _).trans ?_
    rw [← hU2, bn_eq]
    refine (ub z47 _).trans ?_
    rw [← hU3, bn_eq, rU, show mm_R M (32 * 9 + 9) b1 = some (b1 + 9) from h1.1.2.2.2.1, show mm_R M (32 * 9 + 9) b0 = some (b0 + 9) from h0.1.2.2.2.1]
    refine (rcb h1.2.2.2.1.1 _).trans ?_
    rw [f9]
    show Option.bind (rc K (mm_R T9 (32 * 9 + 10) b1) 0) _ = _
    rw [r9, show mm_R M (32 * 9 + 10) b1 = some (b1 + 11) from h1.1.2.2.2.2.1, show mm_R M (32 * 9 + 10) b0 = some (b0 + 11) from h0.1.2.2.2.2.1]
    refine (rcb h1.2.2.2.2.1 _).trans ?_
    rw [fA]
    show Option.bind (rc K (mm_R TA (32 * 9 + 11) b1) 10) _ = _
    rw [rA, show mm_R M (32 * 9 + 11) b1 = some (b1 + 12) from h1.1.2.2.2.2.2.1, show mm_R M (32 * 9 + 11) b0 = some (b0 + 12) from h0.1.2.2.2.2.2.1]
    refine (rcb h1.2.2.2.2.2.1 _).trans ?_
    rw [fB]
    exact e109
  · have eb := k9 b1 (by omega)
    obtain ⟨s1, s2, s3, s4, s5, s6, s7⟩ := r.1
    unfold rSw
    rw [eb.1, eb.1, eb.1, eb.1, eb.1, eb.1, eb.1, iU.1, iU.2.1, iU.2.2.1, iU.2.2.2.1, iU.2.2.2.2.1, iU.2.2.2.2.2.1, iU.2.2.2.2.2.2]
    exact ⟨s1, s2, s3, s4, s5, s6, s7⟩
end TS
section TP
variable {B n : Nat} {K L : Nat → Nat} {M : Mm} {fu : Nat}
/-- one place takes what another holds -/
theorem take_step {T : Nat → (Nat → Int32) × Nat × Int64} {q0 q1 : Nat} (hfu : 5000 ≤ fu) (g : Sg B n K L (mm_R M) (mm_C M)) (hT : ∀ q, q < 32 → PR M (qA B q) (T q).1 (T q).2.1 (T q).2.2) (h0 : q0 < 32) (h1 : q1 < 32) (hne : q0 ≠ q1) : ∃ n' K' L' M', f_X4_takeFrom B fu n (qA B q1) (some (qA B q0)) K L M = some (n', K', L', M') ∧ n ≤ n' ∧ Sg B n' K' L' (mm_R M') (mm_C M') ∧ (∀ a, a < B + 55 → K' a = K a ∧ L' a = L a ∧ (a ≠ qA B q1 → eqAt M M' a)) ∧ (∀ q, q < 32 → PR M' (qA B q) (if q = q1 then (T q0) else T q).1 (if q = q1 then (T q0) else T q).2.1 (if q = q1 then (T q0) else T q).2.2) := by
  have hA0 := qA_lt (B := B) h0
  have hA1 := qA_lt (B := B) h1
  have hAne : qA B q0 ≠ qA B q1 := fun e => hne (qA_inj h0 h1 e)
  have hn : 55 ≤ n := by have := g.2.2.1; omega
  obtain ⟨ha, ia1, ia2, -, -, -⟩ := hT q1 h1
  have hce := clear_eq (K := K) (L := L) (hT q1 h1) ia2 ia1
  obtain ⟨hh, i1, i2, i3, i4, i5⟩ := hT q0 h0
  obtain ⟨N1, hN1⟩ : ∃ N, N = ms_I (ckM M (qA B q1)) (32 * 4 + 1) (qA B q1) (mm_I (ckM M (qA B q1)) (32 * 4 + 1) (qA B q0)) := ⟨_, rfl⟩
  obtain ⟨N2, hN2⟩ : ∃ N, N = ms_J N1 (32 * 4 + 2) (qA B q1) (mm_J N1 (32 * 4 + 2) (qA B q0)) := ⟨_, rfl⟩
  have eN : ∀ a, a ≠ qA B q1 → eqAt M N2 a := fun a h => by rw [hN2, hN1]; exact ((ckM_e h).tr (eqAt.I h)).tr (eqAt.J h)
  have i129 : mm_I N2 129 (qA B q1) = mm_I M 129 (qA B q0) := by
    rw [hN2, I_J, hN1, I_I, if_pos ⟨rfl, rfl⟩]
    exact (ckM_e hAne).1 129
  have j130 : mm_J N2 130 (qA B q1) = mm_J M 130 (qA B q0) := by
    rw [hN2, J_J, if_pos ⟨rfl, rfl⟩, hN1, J_I]
    exact (ckM_e hAne).2.1 130
  have hR : ∀ x a, x ≠ 128 → mm_R N2 x a = mm_R M x a := fun x a h => by rw [hN2, hN1]; exact ckM_R h
  have r128 : mm_R N2 128 (qA B q1) = none := by
    rw [hN2, hN1]
    show (if 128 = 128 ∧ qA B q1 = qA B q1 then none else _) = none
    rw [if_pos ⟨rfl, rfl⟩]
  have r128' : mm_R N2 128 (qA B q0) = mm_R M 128 (qA B q0) := (eN _ hAne).2.2.1 128
  have cN : mm_C N2 = mm_C M := by rw [hN2, hN1]; rfl
  have gN : Sg B n K L (mm_R N2) (mm_C N2) := by rw [cN]; exact g.cg hR
  have hk0 : K (qA B q0) = 4 := qK g.2.1 h0
  have hz : zb (mm_I (ckM M (qA B q1)) (32 * 4 + 1) (qA B q0)) = some () := by
    apply zb_ok
    rw [show mm_I (ckM M (qA B q1)) (32 * 4 + 1) (qA B q0) = mm_I M 129 (qA B q0) from (ckM_e hAne).1 129]
    by_cases x0 : hh = 0
    · exact Or.inl (i3 x0).2
    · by_cases x6 : hh = 6
      · exact Or.inr (i4 x6).2.1
      · exact Or.inl (i5 (by omega) (by omega)).1
  have hf : f_X4_takeFrom B fu n (qA B q1) (some (qA B q0)) K L M = if mm_R N2 (32 * 4 + 0) (qA B q0) = none then some (n, K, L, N2) else Option.bind (f_X4_spareSwitch B fu n (qA B q1) K L N2) (fun x12 => Option.bind (mon n x12.2.1) (fun u14 => bn (x12.1) (fun x16 => Option.bind (rc x12.2.2.1 (some (qA B q0)) 4) (fun a18 => Option.bind (rc x12.2.2.1 x16 9) (fun a20 => Option.bind (f_X9_takeFrom x12.2.2.1 x12.2.2.2.1 fu a20 (mm_R x12.2.2.2.2 (32 * 4 + 0) a18) x12.2.2.2.2) (fun x22 => Option.bind (rc x12.2.2.1 (some (qA B q1)) 4) (fun a24 => bn (ms_R x22 (32 * 4 + 0) a24 x16) (fun M26 => some (x12.2.1, x12.2.2.1, x12.2.2.2.1, M26))))))))) := by
    unfold f_X4_takeFrom
    rw [hce]
    show Option.bind (rc K (some (qA B q0)) 4) _ = _
    refine (rcb hk0 _).trans ?_
    refine (ub hz _).trans ?_
    rw [hN2, hN1, bn_eq, bn_eq]
  rw [show mm_R N2 (32 * 4 + 0) (qA B q0) = mm_R M 128 (qA B q0) from r128'] at hf
  -- other places keep
  have keep : ∀ (M' : Mm) q, q < 32 → q ≠ q1 → eqAt N2 M' (qA B q) → (∀ b, mm_R M 131 (qA B q) = some b → ∀ c, b ≤ c → c < b + 30 → eqAt N2 M' c) → PR M' (qA B q) (T q).1 (T q).2.1 (T q).2.2 := by
    intro M' q hq hx e1 e2
    have hA := qA_lt (B := B) hq
    refine (hT q hq).fr ((eN _ (fun e => hx (qA_inj hq h1 e))).tr e1) (fun b hb c c1 c2 => ?_) (fun _ _ => rfl) rfl
    have := (g.blk hq hb).1
    exact (eN c (by omega)).tr (e2 b hb c c1 c2)
  by_cases hsw : hh = 0 ∨ hh = 6
  · have hnone : mm_R M 128 (qA B q0) = none := by
      rcases hsw with x | x
      · exact (i3 x).1
      · exact (i4 x).1
    rw [if_pos hnone] at hf
    refine ⟨n, K, L, N2, hf, Nat.le_refl _, gN, fun a ha => ⟨rfl, rfl, fun h => eN a h⟩, fun q hq => ?_⟩
    by_cases x : q = q1
    · subst x
      rw [if_pos rfl]
      refine ⟨hh, i1, i2, fun e => ⟨r128, i129.trans (i3 e).2⟩, fun e => ⟨r128, i129.trans (i4 e).2.1, j130.trans (i4 e).2.2⟩, fun e1 e2 => by omega⟩
    · rw [if_neg x]
      exact keep N2 q hq x (eqAt.rf _ _) (fun _ _ _ _ _ => eqAt.rf _ _)
  · obtain ⟨j1, j2, b0, j3, j4, j5⟩ := i5 (by omega) (by omega)
    rw [if_neg (by rw [j3]; simp)] at hf
    obtain ⟨b1, n', K', L', N3, s1, s2, s3, s4, s5, s6, s7, s8, s9⟩ := spare_spec (fu := fu) gN h1
    have hb1 := s3.blk h1 s4
    have hb0m := g.blk h0 j4
    have ap := s9 q0 b0 h0 hne (by rw [hR _ _ (by decide)]; exact j4)
    have h131 : mm_R N3 131 (qA B q0) = some b0 := by
      rw [((s5 _ (by omega)).2.2 hAne).2.2.1, hR _ _ (by decide)]; exact j4
    have hb0 := s3.blk h0 h131
    have r0 : rAll N3 b0 (T q0).1 (T q0).2.1 := j5.fr (fun c c1 c2 => (eN c (by omega)).tr ((s5 c (by omega)).2.2 (by omega))) (fun _ _ => rfl)
    obtain ⟨N4, f4, r4, c4, e4, q4⟩ := tk9 (fu := fu) hb1.2.2 hb0.2.2 ap.2 hfu r0 j2.2.2.2.2.1
    have hk0' : K' (qA B q0) = 4 := qK s3.2.1 h0
    have hk1' : K' (qA B q1) = 4 := qK s3.2.1 h1
    refine ⟨n', K', L', ms_R N4 128 (qA B q1) (some b1), ?_, s2, ?_, fun a ha => ⟨(s5 a (by omega)).1, (s5 a (by omega)).2.1, fun hx => (((eN a hx).tr ((s5 a (by omega)).2.2 hx)).tr (e4 a (by omega))).tr (eqAt.R hx)⟩, fun q hq => ?_⟩
    · rw [hf, s1]
      show Option.bind (mon n n') _ = _
      refine (ub (show mon n n' = some () by unfold mon; rw [if_pos s2]) _).trans ?_
      rw [bn_eq]
      show Option.bind (rc K' (some (qA B q0)) 4) _ = _
      refine (rcb hk0' _).trans ?_
      refine (rcb hb1.2.2.1.1 _).trans ?_
      show Option.bind (f_X9_takeFrom K' L' fu b1 (mm_R N3 (32 * 4 + 0) (qA B q0)) N3) _ = _
      rw [show mm_R N3 (32 * 4 + 0) (qA B q0) = some b0 by show mm_R N3 128 (qA B q0) = some b0; rw [((s5 _ (by omega)).2.2 hAne).2.2.1, r128']; exact j3, f4]
      show Option.bind (rc K' (some (qA B q1)) 4) _ = _
      refine (rcb hk1' _).trans ?_
      rfl
    · rw [C_R, c4]
      exact s3.cg (fun x a hx => by rw [R_R, if_neg (fun y => hx y.1), r4])
    · by_cases x : q = q1
      · subst x
        rw [if_pos rfl]
        refine ⟨hh, i1, i2, fun e => by omega, fun e => by omega, fun _ _ => ⟨?_, j2, b1, ?_, ?_, ?_⟩⟩
        · rw [I_R, (e4 _ (by omega)).1, s6, i129]; exact j1
        · rw [R_R, if_pos ⟨rfl, rfl⟩]
        · rw [R_R, if_neg (by omega), r4]; exact s4
        · exact q4.fr (fun c c1 c2 => eqAt.R (by omega)) (fun _ _ => rfl)
      · rw [if_neg x]
        have hA := qA_lt (B := B) hq
        have hx := fun e => x (qA_inj (B := B) hq h1 e)
        refine keep _ q hq x ((((s5 _ (by omega)).2.2 hx).tr (e4 _ (by omega))).tr (eqAt.R hx)) (fun b hb c k1 k2 => ?_)
        have := s9 q b hq x (by rw [hR _ _ (by decide)]; exact hb)
        have := (g.blk hq hb).1
        exact (((s5 c (by omega)).2.2 (by omega)).tr (e4 c (by omega))).tr (eqAt.R (by omega))
end TP
