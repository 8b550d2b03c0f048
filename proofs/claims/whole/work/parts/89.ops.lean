/-! trial -/
theorem trial_loop {B : Nat} {K L : Nat → Nat} {fu p : Nat} {a1 a2 a3 a4 : Int32} (hp : p < 16) : ∀ (g i : Nat) (M : Mm), MS B K L (mm_R M) → i ≤ 88 → 88 - i < g → f_X12_trial_81 K L fu (B + 44) g (nI p) a1 a2 a3 a4 (nI i) M = some (1, mp (mp (mp (mp (ms_A M (B + 45) (fun j => if 3940 * p + i ≤ j ∧ j < 3940 * p + 88 then 0 else mm_A M (B + 45) j)) B (3940 * p + 77) a1) B (3940 * p + 78) a2) B (3940 * p + 79) a3) B (3940 * p + 80) a4) := by
  intro g
  induction g with
  | zero => intro i M _ h1 h2; omega
  | succ g ih =>
    intro i M hM h1 h2
    show f_X12_trial_81b K L fu (f_X12_trial_81 K L fu (B + 44) g) (B + 44) (nI p) a1 a2 a3 a4 (nI i) M = _
    unfold f_X12_trial_81b
    by_cases hi : i = 88
    · rw [if_pos (show (88 : Int32) ≤ nI i from nI_le (a := 88) (by omega) (by omega))]
      have e : (fun j => if 3940 * p + i ≤ j ∧ j < 3940 * p + 88 then (0 : Int32) else mm_A M (B + 45) j) = mm_A M (B + 45) := by
        funext j
        rw [if_neg (by omega)]
      rw [e, ms_A_self, m_to' (c := 77) hM hp 77 rfl (by decide)]
      simp only [Option.bind_some]
      rw [m_to' (M := mp M B (3940 * p + 77) a1) (c := 78) hM hp 78 rfl (by decide)]
      simp only [Option.bind_some]
      rw [m_to' (M := mp (mp M B (3940 * p + 77) a1) B (3940 * p + 78) a2) (c := 79) hM hp 79 rfl (by decide)]
      simp only [Option.bind_some]
      rw [m_to' (M := mp (mp (mp M B (3940 * p + 77) a1) B (3940 * p + 78) a2) B (3940 * p + 79) a3) (c := 80) hM hp 80 rfl (by decide)]
      rfl
    · rw [if_neg (show ¬ (88 : Int32) ≤ nI i from nI_ge (b := 88) (by omega) (by decide)), m_to' (c := nI i) hM hp i rfl (by omega)]
      simp only [Option.bind_some]
      rw [nI_1, ih (i + 1) (mp M B (3940 * p + i) 0) hM (by omega) (by omega)]
      have e : ms_A (mp M B (3940 * p + i) 0) (B + 45) (fun j => if 3940 * p + (i + 1) ≤ j ∧ j < 3940 * p + 88 then 0 else mm_A (mp M B (3940 * p + i) 0) (B + 45) j) = ms_A M (B + 45) (fun j => if 3940 * p + i ≤ j ∧ j < 3940 * p + 88 then 0 else mm_A M (B + 45) j) := by
        unfold mp
        rw [ms_A_A]
        congr 1
        funext j
        rw [A_A, if_pos rfl, upd_eq]
        by_cases hj : j = 3940 * p + i
        · have hC : 3940 * p + i ≤ j ∧ j < 3940 * p + 88 := by omega
          rw [if_pos hj, if_pos hC]
          split <;> rfl
        · rw [if_neg hj]
          by_cases h : 3940 * p + (i + 1) ≤ j ∧ j < 3940 * p + 88
          · rw [if_pos h, if_pos (by omega)]
          · rw [if_neg h, if_neg (by omega)]
      rw [e]
def mt10 (M : Mm) (a : Nat) (a1 a2 a3 a4 : Int32) : Mm := ms_I (ms_I (ms_I (ms_I (ms_I (ms_I (ms_I (ms_I (ms_I (ms_I (ms_I M 320 a a1) 321 a a2) 322 a a3) 323 a a4) 324 a 0) 325 a 0) 326 a 0) 327 a 0) 328 a 0) 329 a 0) 330 a 0
theorem begin10_eq (K L : Nat → Nat) (M : Mm) (a : Nat) (a1 a2 a3 a4 : Int32) : f_X10_begin K L a a1 a2 a3 a4 M = some (mt10 M a a1 a2 a3 a4) := rfl
theorem mt10_e {M : Mm} {a c : Nat} {a1 a2 a3 a4 : Int32} (h : c ≠ a) : eqAt M (mt10 M a a1 a2 a3 a4) c := ((((((((((eqAt.I h).tr (eqAt.I h)).tr (eqAt.I h)).tr (eqAt.I h)).tr (eqAt.I h)).tr (eqAt.I h)).tr (eqAt.I h)).tr (eqAt.I h)).tr (eqAt.I h)).tr (eqAt.I h)).tr (eqAt.I h)
/-- trial -/
theorem st_30 {fu : Nat} (hfu : 1000 ≤ fu) : so_30 Iv fu := by
  intro B n K L M w1 w2 w3 w4 w5 iv
  by_cases hw : (0 ≤ w2.toInt ∧ w2.toInt ≤ 3) ∧ (0 ≤ w3.toInt ∧ w3.toInt ≤ 3)
  · have e1 : f_X11_trial K L B w1 w2 w3 w4 w5 M = Option.bind (f_X8_find K L M (B + 1) w1 4) (fun x7 => if x7 = none then Option.bind (f_X11_refuseAt K L B w1 4 M) (fun x15 => some (x15.1, x15.2)) else if w2 = w3 then f_X11_trial_78 K L B M else if w4 < 1 then f_X11_trial_78 K L B M else if 5000 < w4 then f_X11_trial_78 K L B M else if w5 < 1 then f_X11_trial_78 K L B M else if w5 ≤ 20 then Option.bind (rc K x7 9) (fun a9 => Option.bind (rc K (mm_R M (32 * 9 + 11) a9) 10) (fun a11 => Option.bind (f_X10_begin K L a11 w2 w3 w4 w5 M) (fun x13 => some ((1 : Int32), x13)))) else f_X11_trial_78 K L B M) := by
      unfold f_X11_trial
      rw [within_eq, show (3 : Int32).toInt = 3 from rfl, if_pos hw.1]
      simp only [Option.bind_some]
      rw [if_neg (by decide), within_eq, show (3 : Int32).toInt = 3 from rfl, if_pos hw.2]
      simp only [Option.bind_some]
      rw [if_neg (by decide), (shelf_at iv).1, (shelf_at iv).2]
      rfl
    have e2 : ∀ m, f_X12_trial K L fu (B + 44) w1 w2 w3 w4 w5 m = Option.bind (f_X12_why K L m (B + 44) w1 (nI 3)) (fun x5 => f_X12_trial_25 K L fu (B + 44) w1 w2 w3 w4 w5 x5 m) := by
      intro m
      unfold f_X12_trial
      rw [isWay_eq, if_pos hw.1]
      simp only [Option.bind_some]
      rw [if_neg (by decide), isWay_eq, if_pos hw.2]
      simp only [Option.bind_some]
      rw [if_neg (by decide)]
      rfl
    refine gated2 iv w1 (kinds := 4) (kind := 3) (by unfold kb; simp) (F2 := fun m => f_X12_trial K L fu (B + 44) w1 w2 w3 w4 w5 m) ?_ ?_ ?_
    · intro k _ _ h1 h2
      rw [e1, h1, h2]
      simp only [Option.bind_some, if_true]
      exact bind_eta _
    · intro k m hk hy
      rw [e2, hy]
      simp only [Option.bind_some, f_X12_trial_25]
      rw [if_neg hk]
      exact bind_eta _
    · intro p b hh hv hk g hf hy
      subst hv
      obtain ⟨g1, g2, g3, g4, g5, g6, g7, g8, g9, g10, g11⟩ := id g
      have hc1 : rc K (some b) 9 = some b := rc_ok g9.1.1
      have hr : mm_R M (32 * 9 + 11) b = some (b + 12) := g9.1.2.2.2.2.2.1
      have hc2 : rc K (some (b + 12)) 10 = some (b + 12) := rc_ok g9.2.2.2.2.2.1
      have T1 : ∀ x : Int32, x < 1 ↔ ¬ 1 ≤ x.toInt := fun x => by rw [t_lt, show (1 : Int32).toInt = 1 from rfl]; omega
      have T5 : ∀ x : Int32, (5000 : Int32) < x ↔ ¬ x.toInt ≤ 5000 := fun x => by rw [t_lt, show (5000 : Int32).toInt = 5000 from rfl]; omega
      have T2 : ∀ x : Int32, x ≤ (20 : Int32) ↔ x.toInt ≤ 20 := fun x => by rw [t_le, show (20 : Int32).toInt = 20 from rfl]
      by_cases hx : (¬ w2 = w3) ∧ (1 ≤ w4.toInt ∧ w4.toInt ≤ 5000) ∧ (1 ≤ w5.toInt ∧ w5.toInt ≤ 20)
      · right
        obtain ⟨x, x1, ex⟩ := n_of (v := w2) (m := 3) hw.1.1 hw.1.2 (by decide)
        obtain ⟨y, y1, ey⟩ := n_of (v := w3) (m := 3) hw.2.1 hw.2.2 (by decide)
        obtain ⟨c, c1, ec⟩ := n_of (v := w4) (m := 5000) (by omega) hx.2.1.2 (by decide)
        obtain ⟨d, d1, ed⟩ := n_of (v := w5) (m := 20) (by omega) hx.2.2.2 (by decide)
        have hc1' : 1 ≤ c := by have := hx.2.1.1; rw [ec, nI_toInt (by omega)] at this; omega
        have hd1' : 1 ≤ d := by have := hx.2.2.1; rw [ed, nI_toInt (by omega)] at this; omega
        refine ⟨(1, mt10 M (b + 12) w2 w3 w4 w5), (1, mp (mp (mp (mp (ms_A (mt10 M (b + 12) w2 w3 w4 w5) (B + 45) (fun j => if 3940 * p + 81 ≤ j ∧ j < 3940 * p + 88 then 0 else mm_A M (B + 45) j)) B (3940 * p + 77) w2) B (3940 * p + 78) w3) B (3940 * p + 79) w4) B (3940 * p + 80) w5), ?_, ?_, rfl, ?_⟩
        · rw [e1, hf]
          simp only [Option.bind_some, hc1, hr, hc2, begin10_eq]
          rw [if_neg (by simp), if_neg hx.1, if_neg (by rw [T1]; omega), if_neg (by rw [T5]; omega), if_neg (by rw [T1]; omega), if_pos (by rw [T2]; omega)]
        · show f_X12_trial K L fu (B + 44) (nI p) w2 w3 w4 w5 (mt10 M (b + 12) w2 w3 w4 w5) = _
          have hsS : sameS B M (mt10 M (b + 12) w2 w3 w4 w5) := ⟨rfl, rfl⟩
          rw [e2, hy _ hsS]
          simp only [Option.bind_some, f_X12_trial_25, if_true]
          rw [if_neg hx.1, isIn_l _ (a := 1) (c := 5000) rfl rfl, if_pos hx.2.1]
          simp only [Option.bind_some]
          rw [if_neg (by decide), isIn_l _ (a := 1) (c := 20) rfl rfl, if_pos hx.2.2]
          simp only [Option.bind_some]
          rw [if_neg (by decide), show (81 : Int32) = nI 81 from rfl, trial_loop g1 fu 81 _ (show MS B K L (mm_R (mt10 M (b + 12) w2 w3 w4 w5)) from iv.1.1) (by omega) (by omega)]
          rfl
        · have hS : ∀ j, (j < 77 ∨ 87 < j) → upd (upd (upd (upd (fun j => if 3940 * p + 81 ≤ j ∧ j < 3940 * p + 88 then 0 else mm_A M (B + 45) j) (3940 * p + 77) w2) (3940 * p + 78) w3) (3940 * p + 79) w4) (3940 * p + 80) w5 (3940 * p + j) = mm_A M (B + 45) (3940 * p + j) := by
            intro j hj
            simp only [upd_eq]
            rw [if_neg (by omega), if_neg (by omega), if_neg (by omega), if_neg (by omega), if_neg (by omega)]
          refine iv_upd iv g rfl rfl (fun u h5 h6 => (((((mt10_e (by omega)).tr (eqAt.A h6)).tr (mp_e _ _ _ _ h6)).tr (mp_e _ _ _ _ h6)).tr (mp_e _ _ _ _ h6)).tr (mp_e _ _ _ _ h6)) (S' := upd (upd (upd (upd (fun j => if 3940 * p + 81 ≤ j ∧ j < 3940 * p + 88 then 0 else mm_A M (B + 45) j) (3940 * p + 77) w2) (3940 * p + 78) w3) (3940 * p + 79) w4) (3940 * p + 80) w5) (by simp only [mp_S, A_A, if_true]) (fun i hi => ?_) (hS 0 (by omega)) (hS 44 (by omega)) (hS 46 (by omega)) (rOk_upd (fun j hj => hS j (by omega)) g10) ?_
          · simp only [upd_eq]
            rw [if_neg (by omega), if_neg (by omega), if_neg (by omega), if_neg (by omega), if_neg (by omega)]
          · refine but_Tr (fun u h5 h6 h7 => (((((mt10_e (by omega)).tr (eqAt.A (by omega))).tr (mp_e _ _ _ _ (by omega))).tr (mp_e _ _ _ _ (by omega))).tr (mp_e _ _ _ _ (by omega))).tr (mp_e _ _ _ _ (by omega))) (fun j h5 h6 => hS j (by omega)) g11 ?_
            refine ⟨fun k hk => ?_, ⟨x, y, by omega, by omega, ?_, ?_⟩, ⟨c, hc1', c1, ?_⟩, ⟨d, hd1', d1, ?_⟩, ⟨0, by omega, ?_⟩⟩
            · simp only [mp_I, I_A, upd_eq]
              rcases (show k = 0 ∨ k = 1 ∨ k = 2 ∨ k = 3 ∨ k = 4 ∨ k = 5 ∨ k = 6 ∨ k = 7 ∨ k = 8 ∨ k = 9 ∨ k = 10 by omega) with rfl | rfl | rfl | rfl | rfl | rfl | rfl | rfl | rfl | rfl | rfl <;> simp [mt10, I_I, Nat.add_assoc]
            · simp only [upd_eq]
              rw [if_neg (by omega), if_neg (by omega), if_neg (by omega)]; simp [ex]
            · simp only [upd_eq]
              rw [if_neg (by omega), if_neg (by omega)]; simp [ey]
            · simp only [upd_eq]
              rw [if_neg (by omega)]; simp [ec]
            · simp only [upd_eq]
              simp [ed]
            · simp only [upd_eq]
              rw [if_neg (by omega), if_neg (by omega), if_neg (by omega), if_neg (by omega), if_pos (by omega)]
              rfl
      · left
        refine ⟨12, by decide, by decide, ?_, fun m hm => ?_⟩
        · rw [e1, hf]
          simp only [Option.bind_some, f_X11_trial_78, bind_eta]
          rw [if_neg (by simp)]
          by_cases q1 : w2 = w3
          · rw [if_pos q1]; rfl
          · rw [if_neg q1]
            by_cases q2 : w4 < 1
            · rw [if_pos q2]; rfl
            · rw [if_neg q2]
              by_cases q3 : 5000 < w4
              · rw [if_pos q3]; rfl
              · rw [if_neg q3]
                by_cases q4 : w5 < 1
                · rw [if_pos q4]; rfl
                · rw [if_neg q4, if_neg]
                  · rfl
                  · intro q5
                    rw [T1] at q2 q4
                    rw [T5] at q3
                    rw [T2] at q5
                    exact hx ⟨q1, ⟨by omega, by omega⟩, ⟨by omega, q5⟩⟩
        · rw [e2, hy m hm]
          simp only [Option.bind_some, f_X12_trial_25, if_true, f_X12_trial_70, bind_eta]
          by_cases q1 : w2 = w3
          · rw [if_pos q1]; rfl
          · rw [if_neg q1, isIn_l _ (a := 1) (c := 5000) rfl rfl]
            simp only [Option.bind_some]
            by_cases q2 : 1 ≤ w4.toInt ∧ w4.toInt ≤ 5000
            · rw [if_pos q2, if_neg (by decide), isIn_l _ (a := 1) (c := 20) rfl rfl, if_neg (fun q3 => hx ⟨q1, q2, q3⟩)]
              rfl
            · rw [if_neg q2, if_pos rfl]
              rfl
  · refine fin_no iv 3 (by decide) (by decide) (F2 := fun m => f_X12_trial K L fu (B + 44) w1 w2 w3 w4 w5 m) ?_ ?_
    · unfold f_X11_trial
      rw [within_eq, show (3 : Int32).toInt = 3 from rfl]
      simp only [Option.bind_some]
      by_cases h1 : 0 ≤ w2.toInt ∧ w2.toInt ≤ 3
      · rw [if_pos h1, if_neg (by decide), within_eq, show (3 : Int32).toInt = 3 from rfl, if_neg (fun h2 => hw ⟨h1, h2⟩)]
        exact bind_eta _
      · rw [if_neg h1, if_pos rfl]
        exact bind_eta _
    · unfold f_X12_trial
      rw [isWay_eq]
      simp only [Option.bind_some, f_X12_trial_14, f_X12_trial_25]
      by_cases h1 : 0 ≤ w2.toInt ∧ w2.toInt ≤ 3
      · rw [if_pos h1, if_neg (by decide), isWay_eq, if_neg (fun h2 => hw ⟨h1, h2⟩)]
        simp only [Option.bind_some, if_true]
        rw [if_neg (by decide)]
        exact bind_eta _
      · rw [if_neg h1, if_pos rfl, if_neg (by decide)]
        exact bind_eta _
