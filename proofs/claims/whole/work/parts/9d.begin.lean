/-! a new block; a switch begins -/
section SN
variable {B n q0 : Nat} {K L K' L' : Nat → Nat} {R R' C C' : Nat → Nat → Option Nat}
theorem qA_lt {q : Nat} (hq : q < 32) : B + 3 ≤ qA B q ∧ qA B q < B + 37 := by
  unfold qA
  split <;> omega
theorem qA_inj {q q' : Nat} (hq : q < 32) (hq' : q' < 32) (h : qA B q = qA B q') : q = q' := by
  unfold qA at h
  split at h <;> split at h <;> omega
theorem qc_new (hq : q0 < 32) (h0 : R 131 (qA B q0) = none) (h1 : ¬ R' 131 (qA B q0) = none) (h : ∀ q, q < 32 → q ≠ q0 → (R' 131 (qA B q) = none ↔ R 131 (qA B q) = none)) : ∀ q, q ≤ 32 → qc R' B q = qc R B q + (if q0 < q then 1 else 0) := by
  intro q
  induction q with
  | zero => intro _; rfl
  | succ q ih =>
    intro hq'
    show qc R' B q + (if R' 131 (qA B q) = none then 0 else 1) = qc R B q + (if R 131 (qA B q) = none then 0 else 1) + (if q0 < q + 1 then 1 else 0)
    rw [ih (by omega)]
    by_cases e : q = q0
    · subst e
      rw [if_neg h1, if_pos h0, if_neg (by omega), if_pos (by omega)]
    · by_cases x : R 131 (qA B q) = none
      · rw [if_pos x, if_pos ((h q (by omega) e).mpr x)]
        by_cases y : q0 < q
        · rw [if_pos y, if_pos (by omega)]
        · rw [if_neg y, if_neg (by omega)]
      · rw [if_neg x, if_neg (fun y => x ((h q (by omega) e).mp y))]
        by_cases y : q0 < q
        · rw [if_pos y, if_pos (by omega)]
          try omega
        · rw [if_neg y, if_neg (by omega)]
theorem Sg.new (h : Sg B n K L R C) (hq : q0 < 32) (hn : R 131 (qA B q0) = none) (hK : ∀ a, a < B + n → K' a = K a ∧ L' a = L a) (hR : ∀ x a, a < B + n → x ≠ 128 → (x ≠ 131 ∨ a ≠ qA B q0) → R' x a = R x a) (h131 : R' 131 (qA B q0) = some (B + n)) (hC : ∀ a, a < B + n → C' a = C a) (hb : BS K' L' R' C' (B + n)) : Sg B (n + 30) K' L' R' C' := by
  have hs := h
  obtain ⟨h1, h2, h3, j, h4, h5⟩ := h
  have e : ∀ q, q < 32 → q ≠ q0 → R' 131 (qA B q) = R 131 (qA B q) := fun q h1 h2 => hR 131 _ (by have := qA_lt (B := B) h1; omega) (by decide) (Or.inr (fun x => h2 (qA_inj h1 hq x)))
  have hqc := qc_new (R := R) (R' := R') (B := B) hq hn (by rw [h131]; simp) (fun q h1 h2 => by rw [e q h1 h2]) 32 (Nat.le_refl _)
  rw [if_pos hq] at hqc
  refine ⟨h1.cg (fun a ha => hK a (by omega)) (fun x a ha h h' => hR x a (by omega) h (Or.inl h')), h2.cg (fun a ha => hK a (by omega)) (fun x a ha h h' => hR x a (by omega) h (Or.inl h')) (fun a ha => hC a (by omega)), by rw [hqc]; omega, fun q => if q = q0 then qc R B 32 else j q, fun q b hq' hb' => ?_, fun q q' b b' hq' hq'' hb hb' hj => ?_⟩
  · dsimp only
    by_cases x : q = q0
    · subst x
      rw [h131] at hb'
      cases hb'
      rw [if_pos rfl]
      exact ⟨by omega, by omega, hb⟩
    · rw [e q hq' x] at hb'
      rw [if_neg x]
      obtain ⟨i1, i2, i3⟩ := h4 q b hq' hb'
      have hl := hs.blk hq' hb'
      exact ⟨i1, by omega, i3.cg (fun a _ _ => hK a (by omega)) (fun x a _ _ h h' => hR x a (by omega) h (Or.inl h')) (fun a _ _ => hC a (by omega))⟩
  · dsimp only at hj
    by_cases x : q = q0
    · by_cases y : q' = q0
      · omega
      · rw [if_pos x, if_neg y] at hj
        rw [e q' hq'' y] at hb'
        have := (h4 q' b' hq'' hb').2.1
        omega
    · by_cases y : q' = q0
      · rw [if_neg x, if_pos y] at hj
        rw [e q hq' x] at hb
        have := (h4 q b hq' hb).2.1
        omega
      · rw [if_neg x, if_neg y] at hj
        rw [e q hq' x] at hb
        rw [e q' hq'' y] at hb'
        exact h5 q q' b b' hq' hq'' hb hb' hj
end SN
section BG
variable {K L : Nat → Nat} {M : Mm} {fu b : Nat}
def r2M (M : Mm) (a : Nat) : Mm := ms_I (ms_I M 64 a 1) 65 a 0
theorem begin_spec (h : BS K L (mm_R M) (mm_C M) b) (hfu : 5000 ≤ fu) (k a c : Int32) : ∃ M', f_X9_begin K L fu b k a c M = some M' ∧ mm_R M' = mm_R M ∧ mm_C M' = mm_C M ∧ (∀ x, (x < b ∨ b + 30 ≤ x) → eqAt M M' x) ∧ ∀ (S : Nat → Int32) (o : Nat), S o = k + 1 → S (o + 1) = a → S (o + 2) = c → (∀ j, 3 ≤ j → j < 3940 → S (o + j) = clr j) → rAll M' b S o := by
  obtain ⟨h1, h2, h3, h4, h5, h6, h7, h8, h9⟩ := id h
  have hfe : ∀ (M : Mm), mm_R M 224 (b + 6) = some (b + 7) → mm_R M 225 (b + 6) = some (b + 8) → f_X7_begin K L fu (b + 6) M = some (ms_A (ms_A M (b + 7) (fun j => if j < 8 then 0 else mm_A M (b + 7) j)) (b + 8) (fun j => if j < 8 then 0 else mm_A M (b + 8) j)) := by
    intro M e1 e2
    unfold f_X7_begin
    rw [show mm_R M (32 * 7 + 0) (b + 6) = _ from e1, fill_eq h3.2.2.2.1 h3.2.2.2.2.1 (by decide) (by omega)]
    simp only [Option.bind_some, R_A]
    rw [show mm_R M (32 * 7 + 1) (b + 6) = _ from e2, fill_eq h3.2.2.2.2.2.1 h3.2.2.2.2.2.2 (by decide) (by omega), A_A, if_neg (by omega)]
    rfl
  have z0 : zb 0 = some () := zb_ok (Or.inl rfl)
  have z1 : zb 1 = some () := zb_ok (Or.inr rfl)
  obtain ⟨M5, hM5⟩ : ∃ M5, M5 = ms_I (ms_I (ms_I (ms_I (ms_A (ms_A (ms_I (ms_I (ms_I (ms_I M 288 b k) 289 b a) 290 b c) 192 (b + 1) 0) (b + 7) (fun j => if j < 8 then 0 else mm_A M (b + 7) j)) (b + 8) (fun j => if j < 8 then 0 else mm_A M (b + 8) j)) 293 b (-1)) 294 b 0) 295 b 0) 296 b 0 := ⟨_, rfl⟩
  obtain ⟨M7, hM7⟩ : ∃ M7, M7 = ms_I (ms_I (ms_I (ms_I (ms_I (ms_I (ms_I (ms_I (ms_I M5 97 (b + 9) (-1)) 98 (b + 9) (-1)) 0 (b + 11) 1) 1 (b + 11) 0) 2 (b + 11) 10000) 3 (b + 11) 0) 4 (b + 11) 0) 5 (b + 11) 0) 6 (b + 11) 0 := ⟨_, rfl⟩
  have r5 : mm_R M5 = mm_R M := by rw [hM5]; rfl
  have r7 : mm_R M7 = mm_R M := by rw [hM7]; exact r5
  have c7 : mm_C M7 = mm_C M := by rw [hM7, hM5]; rfl
  obtain ⟨M8, hM8⟩ : ∃ M8, M8 = mt10 M7 (b + 12) 0 1 500 1 := ⟨_, rfl⟩
  have r8 : mm_R M8 = mm_R M := by rw [hM8]; exact r7
  have c8 : mm_C M8 = mm_C M := by rw [hM8]; exact c7
  refine ⟨r2M (r2M (r2M (r2M M8 (b + 14 + 4 * 0)) (b + 14 + 4 * 1)) (b + 14 + 4 * 2)) (b + 14 + 4 * 3), ?_, r8, c8, fun x hx => ?_, fun S o s0 s1 s2 sj => ?_⟩
  · obtain ⟨f, rfl⟩ : ∃ f', fu = f' + 5 := ⟨fu - 5, by omega⟩
    have st : ∀ (q w : Nat) (T : Mm), w < 4 → mm_R T = mm_R M → mm_C T = mm_C M → f_X9_begin_75 K L (f + 5) b (q + 1) (nI w) T = f_X9_begin_75 K L (f + 5) b q (nI (w + 1)) (r2M T (b + 14 + 4 * w)) := by
      intro q w T hw hr hc
      show f_X9_begin_75b K L (f + 5) (f_X9_begin_75 K L (f + 5) b q) b (nI w) T = _
      unfold f_X9_begin_75b
      rw [if_neg (show ¬ (4 : Int32) ≤ nI w by rw [t_le, nI_toInt (by omega), show (4 : Int32).toInt = 4 from rfl]; omega), hr, show mm_R M (32 * 9 + 12) b = _ from h1.2.2.2.2.2.2, rx_ok h7 h8 hw (by decide)]
      simp only [Option.bind_some, nI_clamp (show w < 2 ^ 31 by omega), hc, (h9 w hw).1, rc_ok (h9 w hw).2.1, f_X2_begin, z1, bn_eq, nI_1]
      rfl
    have e75 : f_X9_begin_75 K L (f + 5) b (f + 5) 0 M8 = some (r2M (r2M (r2M (r2M M8 (b + 14 + 4 * 0)) (b + 14 + 4 * 1)) (b + 14 + 4 * 2)) (b + 14 + 4 * 3)) := by
      rw [show f_X9_begin_75 K L (f + 5) b (f + 5) 0 M8 = _ from st (f + 4) 0 M8 (by decide) r8 c8, st (f + 3) (0 + 1) (r2M M8 (b + 14 + 4 * 0)) (by decide) r8 c8, st (f + 2) (0 + 1 + 1) (r2M (r2M M8 (b + 14 + 4 * 0)) (b + 14 + 4 * 1)) (by decide) r8 c8, st (f + 1) (0 + 1 + 1 + 1) (r2M (r2M (r2M M8 (b + 14 + 4 * 0)) (b + 14 + 4 * 1)) (b + 14 + 4 * 2)) (by decide) r8 c8]
      show f_X9_begin_75b K L (f + 5) (f_X9_begin_75 K L (f + 5) b f) b (nI 4) _ = _
      unfold f_X9_begin_75b
      rw [if_pos (by decide)]
    unfold f_X9_begin
    simp only [bn_eq, R_I, show mm_R M (32 * 9 + 3) b = _ from h1.2.1, rc_ok h2.1, Option.bind_some, f_X6_begin, show mm_R M (32 * 9 + 4) b = _ from h1.2.2.1, rc_ok h3.1]
    rw [hfe (ms_I (ms_I (ms_I (ms_I M (32 * 9 + 0) b k) (32 * 9 + 1) b a) (32 * 9 + 2) b c) (32 * 6 + 0) (b + 1) 0) h3.2.1 h3.2.2.1]
    simp only [Option.bind_some, bn_eq, R_I, R_A, f_X9_hangOn, show mm_R M (32 * 9 + 9) b = _ from h1.2.2.2.1, rc_ok h4.1, f_X3_begin, show mm_R M (32 * 9 + 10) b = _ from h1.2.2.2.2.1, rc_ok h5, f_X0_begin, f_X0_set, z0, show mm_R M (32 * 9 + 11) b = _ from h1.2.2.2.2.2.1, rc_ok h6, begin10_eq]
    rw [← e75, hM8, hM7, hM5]
    rfl
  · have e5 : eqAt M M5 x := by
      rw [hM5]
      exact (((((((((eqAt.I (by omega)).tr (eqAt.I (by omega))).tr (eqAt.I (by omega))).tr (eqAt.I (by omega))).tr (eqAt.A (by omega))).tr (eqAt.A (by omega))).tr (eqAt.I (by omega))).tr (eqAt.I (by omega))).tr (eqAt.I (by omega))).tr (eqAt.I (by omega))
    have e7 : eqAt M5 M7 x := by
      rw [hM7]
      exact ((((((((eqAt.I (by omega)).tr (eqAt.I (by omega))).tr (eqAt.I (by omega))).tr (eqAt.I (by omega))).tr (eqAt.I (by omega))).tr (eqAt.I (by omega))).tr (eqAt.I (by omega))).tr (eqAt.I (by omega))).tr (eqAt.I (by omega))
    have e8 : eqAt M7 M8 x := by rw [hM8]; exact mt10_e (by omega)
    have e2 : ∀ (T : Mm) (y : Nat), x ≠ y → eqAt T (r2M T y) x := fun T y hy => (eqAt.I hy).tr (eqAt.I hy)
    exact ((((((e5.tr e7).tr e8).tr (e2 _ _ (by omega))).tr (e2 _ _ (by omega))).tr (e2 _ _ (by omega))).tr (e2 _ _ (by omega)))
  · have e2 : ∀ (T : Mm) (y x : Nat), x ≠ y → eqAt T (r2M T y) x := fun T y x hy => (eqAt.I hy).tr (eqAt.I hy)
    have e8 : ∀ x, (x < b + 14 ∨ b + 30 ≤ x) → eqAt M8 (r2M (r2M (r2M (r2M M8 (b + 14 + 4 * 0)) (b + 14 + 4 * 1)) (b + 14 + 4 * 2)) (b + 14 + 4 * 3)) x := fun x hx => (((e2 _ _ x (by omega)).tr (e2 _ _ x (by omega))).tr (e2 _ _ x (by omega))).tr (e2 _ _ x (by omega))
    have e7 : ∀ x, x ≠ b + 12 → eqAt M7 M8 x := fun x hx => by rw [hM8]; exact mt10_e hx
    have e5 : ∀ x, x ≠ b + 9 → x ≠ b + 11 → eqAt M5 M7 x := by
      intro x hx hy
      rw [hM7]
      exact ((((((((eqAt.I (by omega)).tr (eqAt.I (by omega))).tr (eqAt.I (by omega))).tr (eqAt.I (by omega))).tr (eqAt.I (by omega))).tr (eqAt.I (by omega))).tr (eqAt.I (by omega))).tr (eqAt.I (by omega))).tr (eqAt.I (by omega))
    have e5' : ∀ x, x < b + 9 → eqAt M5 (r2M (r2M (r2M (r2M M8 (b + 14 + 4 * 0)) (b + 14 + 4 * 1)) (b + 14 + 4 * 2)) (b + 14 + 4 * 3)) x := fun x hx => ((e5 x (by omega) (by omega)).tr (e7 x (by omega))).tr (e8 x (by omega))
    have ct : ∀ w, w < 4 → rCt (r2M (r2M (r2M (r2M M8 (b + 14 + 4 * 0)) (b + 14 + 4 * 1)) (b + 14 + 4 * 2)) (b + 14 + 4 * 3)) b S o w := by
      intro w hw
      have i64 : mm_I (r2M (r2M (r2M (r2M M8 (b + 14 + 4 * 0)) (b + 14 + 4 * 1)) (b + 14 + 4 * 2)) (b + 14 + 4 * 3)) 64 (b + 14 + 4 * w) = 1 ∧ mm_I (r2M (r2M (r2M (r2M M8 (b + 14 + 4 * 0)) (b + 14 + 4 * 1)) (b + 14 + 4 * 2)) (b + 14 + 4 * 3)) 65 (b + 14 + 4 * w) = 0 := by
        unfold r2M
        simp only [I_I]
        rcases (show w = 0 ∨ w = 1 ∨ w = 2 ∨ w = 3 by omega) with rfl | rfl | rfl | rfl <;> simp
      have s90 : S (o + 90 + w) = 1 := by
        have := sj (90 + w) (by omega) (by omega)
        rw [← Nat.add_assoc] at this
        rw [this]
        rcases (show w = 0 ∨ w = 1 ∨ w = 2 ∨ w = 3 by omega) with rfl | rfl | rfl | rfl <;> rfl
      refine ⟨by rw [i64.1, s90], Or.inr s90, 0, by omega, i64.2, fun m hm => Or.inl ⟨?_, ?_, ?_, ?_, fun h => by omega⟩⟩
      · have := sj (100 + 4 * (240 * w + m)) (by omega) (by omega)
        rw [← Nat.add_assoc] at this
        rw [this, clr_0 (by omega)]
      · have := sj (101 + 4 * (240 * w + m)) (by omega) (by omega)
        rw [← Nat.add_assoc] at this
        rw [this, clr_0 (by omega)]
      · have := sj (102 + 4 * (240 * w + m)) (by omega) (by omega)
        rw [← Nat.add_assoc] at this
        rw [this, clr_0 (by omega)]
      · have := sj (103 + 4 * (240 * w + m)) (by omega) (by omega)
        rw [← Nat.add_assoc] at this
        rw [this, clr_0 (by omega)]
    refine ⟨?_, ?_, ?_, ?_, ?_, ?_, ct 0 (by decide), ct 1 (by decide), ct 2 (by decide), ct 3 (by decide)⟩
    · refine rSw.fr (M := M5) (S := S) (e5' b (by omega)) (fun _ _ => rfl) ?_
      have s44 : S (o + 44) = -1 := sj 44 (by decide) (by decide)
      unfold rSw
      rw [s0, s1, s2, s44, show S (o + 46) = 0 from sj 46 (by decide) (by decide), show S (o + 47) = 0 from sj 47 (by decide) (by decide), hM5]
      simp only [I_I, I_A]
      simp
    · refine rRu.fr (M := M5) (S := S) (fun c h1 h2 => e5' c (by omega)) (fun _ _ _ => rfl) ⟨0, by omega, sj 3 (by decide) (by decide), ?_, fun i hi => by omega⟩
      rw [hM5]
      simp only [I_I, I_A]
      simp
      rfl
    · refine rSh.fr (M := M5) (S := S) (fun c h1 h2 => e5' c (by omega)) (fun _ _ _ => rfl) ?_
      intro w hw1 hw2
      have a1 := sj (28 + w) (by omega) (by omega)
      have a2 := sj (36 + w) (by omega) (by omega)
      rw [← Nat.add_assoc] at a1 a2
      rw [a1, a2, clr_0 (by omega), clr_0 (by omega), hM5]
      refine ⟨?_, ?_, 0, 0, by omega, by omega, rfl, rfl⟩
      · simp only [A_I, A_A]
        rw [if_neg (by omega), if_pos trivial, if_pos (by omega)]
      · simp only [A_I, A_A]
        rw [if_pos trivial, if_pos (by omega)]
    · refine rLa.fr (M := M7) (S := S) (fun c h1 h2 => (e7 c (by omega)).tr (e8 c (by omega))) (fun _ _ _ => rfl) ⟨0, 0, by omega, by omega, by omega, sj 48 (by decide) (by decide), (sj 69 (by decide) (by decide)).trans (by decide), ?_, ?_, fun i hi => by omega⟩
      · rw [hM7]
        simp only [I_I]
        simp
      · rw [hM7]
        simp only [I_I]
        simp
        decide
    · refine rBu.fr (M := M7) (S := S) ((e7 _ (by omega)).tr (e8 _ (by omega))) (fun _ _ _ => rfl) ?_
      unfold rBu
      rw [show S (o + 70) = 1 from sj 70 (by decide) (by decide), show S (o + 71) = 0 from sj 71 (by decide) (by decide), show S (o + 72) = 10000 from sj 72 (by decide) (by decide), show S (o + 73) = 0 from sj 73 (by decide) (by decide), show S (o + 74) = 0 from sj 74 (by decide) (by decide), show S (o + 75) = 0 from sj 75 (by decide) (by decide), show S (o + 76) = 0 from sj 76 (by decide) (by decide), hM7]
      simp only [I_I]
      refine ⟨by simp, by simp, by simp, by simp, by simp, by simp, by simp, ⟨1, by omega, by omega, rfl⟩, ⟨0, by omega, rfl⟩, ⟨10000, by omega, rfl⟩, ⟨0, by omega, rfl⟩, Or.inl (by simp)⟩
    · refine rTr.fr (M := M8) (S := S) (e8 _ (by omega)) (fun _ _ _ => rfl) ⟨fun j hj => ?_, ⟨0, 1, by omega, by omega, sj 77 (by decide) (by decide), sj 78 (by decide) (by decide)⟩, ⟨500, by omega, by omega, sj 79 (by decide) (by decide)⟩, ⟨1, by omega, by omega, sj 80 (by decide) (by decide)⟩, ⟨0, by omega, sj 82 (by decide) (by decide)⟩⟩
      have := sj (77 + j) (by omega) (by omega)
      rw [← Nat.add_assoc] at this
      rw [this, hM8]
      unfold mt10
      simp only [I_I]
      rcases (show j = 0 ∨ j = 1 ∨ j = 2 ∨ j = 3 ∨ j = 4 ∨ j = 5 ∨ j = 6 ∨ j = 7 ∨ j = 8 ∨ j = 9 ∨ j = 10 by omega) with rfl | rfl | rfl | rfl | rfl | rfl | rfl | rfl | rfl | rfl | rfl <;> simp <;> rfl
end BG
