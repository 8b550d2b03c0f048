/-! the numbers; budget, step, read -/
theorem qc_le (R : Nat → Nat → Option Nat) (B : Nat) : ∀ q, qc R B q ≤ q
  | 0 => Nat.le_refl _
  | q + 1 => by
    have := qc_le R B q
    simp only [qc]
    split <;> omega
theorem st_k : so_k Iv := by
  intro B n K L M iv
  have h := qc_le (mm_R M) B 32
  have hn := iv.1.2.2.1
  exact ⟨iv.1.2.1.1.1, iv.1.1.1.1, by omega, by omega⟩
theorem bz_or (w : Int32) : bz w = 0 ∨ bz w = 1 := by unfold bz; split <;> simp
theorem zb_ok {x : Int32} (h : x = 0 ∨ x = 1) : zb x = some () := by unfold zb; rw [if_pos h]
/-- budget -/
theorem st_23 (fu : Nat) : so_23 Iv fu := by
  intro B n K L M w1 w2 w3 w4 w5 iv
  have hz := bz_or w5
  generalize bz w5 = z at hz ⊢
  refine gated iv w1 (kinds := 6) (kind := 1) (by unfold kb; simp) (F2 := fun m => f_X12_budget K L (B + 44) w1 w2 w3 w4 z m) rfl (fun m => rfl) ?_
  intro p b hh hv hk g
  subst hv
  obtain ⟨g1, g2, g3, g4, g5, g6, g7, g8, g9, g10, g11⟩ := id g
  have hc1 : rc K (some b) 9 = some b := rc_ok g9.1.1
  have hr : mm_R M (32 * 9 + 10) b = some (b + 11) := g9.1.2.2.2.2.1
  have hc2 : rc K (some (b + 11)) 0 = some (b + 11) := rc_ok g9.2.2.2.2.1
  have hc4 : rc K (some (B + 44)) 12 = some (B + 44) := rc_ok iv.1.1.1.1
  have t1 : ∀ x : Int32, x < 1 ↔ ¬ 1 ≤ x.toInt := fun x => by rw [t_lt, show (1 : Int32).toInt = 1 from rfl]; omega
  have t60 : ∀ x : Int32, (60 : Int32) < x ↔ ¬ x.toInt ≤ 60 := fun x => by rw [t_lt, show (60 : Int32).toInt = 60 from rfl]; omega
  by_cases hw : (1 ≤ w2.toInt ∧ w2.toInt ≤ 60) ∧ (0 ≤ w3.toInt ∧ w3.toInt ≤ 1000000) ∧ (0 ≤ w4.toInt ∧ w4.toInt ≤ 10000)
  · obtain ⟨h2, h3, h4⟩ := hw
    obtain ⟨a, a1, ea⟩ := n_of (v := w2) (m := 60) (by omega) h2.2 (by decide)
    obtain ⟨c, c1, ec⟩ := n_of (v := w3) (m := 1000000) h3.1 h3.2 (by decide)
    obtain ⟨d, d1, ed⟩ := n_of (v := w4) (m := 10000) h4.1 h4.2 (by decide)
    have ha1 : 1 ≤ a := by have := h2.1; rw [ea, nI_toInt (by omega)] at this; omega
    right
    refine ⟨(1, ms_I (ms_I (ms_I (ms_I M 0 (b + 11) w2) 1 (b + 11) w3) 2 (b + 11) w4) 3 (b + 11) z), (1, mp (mp (mp (mp (ms_I (ms_I (ms_I (ms_I M 0 (b + 11) w2) 1 (b + 11) w3) 2 (b + 11) w4) 3 (b + 11) z) B (3940 * p + 70) w2) B (3940 * p + 71) w3) B (3940 * p + 72) w4) B (3940 * p + 74) z), ?_, ⟨rfl, rfl⟩, ?_, rfl, ?_⟩
    · rw [if_neg (by rw [t1]; omega), if_neg (by rw [t60]; omega), within_eq, show (1000000 : Int32).toInt = 1000000 from rfl, if_pos h3]
      simp only [Option.bind_some]
      rw [if_neg (by decide), within_eq, show (10000 : Int32).toInt = 10000 from rfl, if_pos h4]
      simp only [Option.bind_some, hc1, hr, hc2, f_X0_set, bn_eq, zb_ok hz]
      rw [if_neg (by decide)]
    · have hms : ∀ m, mm_R m = mm_R M → MS B K L (mm_R m) := fun m e => by rw [e]; exact iv.1.1
      rw [isIn_l _ (a := 1) (c := 60) rfl rfl, if_pos h2]
      simp only [Option.bind_some]
      rw [if_neg (by decide), isIn_l _ (a := 0) (c := 1000000) rfl rfl, if_pos h3]
      simp only [Option.bind_some]
      rw [if_neg (by decide), isIn_l _ (a := 0) (c := 10000) rfl rfl, if_pos h4]
      simp only [Option.bind_some]
      rw [if_neg (by decide), m_to' (c := 70) (hms _ (by rfl)) g1 70 rfl (by decide)]
      simp only [Option.bind_some]
      rw [m_to' (c := 71) (hms _ (by rfl)) g1 71 rfl (by decide)]
      simp only [Option.bind_some]
      rw [m_to' (c := 72) (hms _ (by rfl)) g1 72 rfl (by decide)]
      simp only [Option.bind_some, f_X12_budget_103, hc4]
      rw [m_to' (c := 74) (hms _ (by rfl)) g1 74 rfl (by decide), m_to' (c := 74) (hms _ (by rfl)) g1 74 rfl (by decide)]
      rcases hz with rfl | rfl <;> rfl
    · refine iv_upd iv g rfl rfl (fun x h5 h6 => ?_) (S' := upd (upd (upd (upd (mm_A M (B + 45)) (3940 * p + 70) w2) (3940 * p + 71) w3) (3940 * p + 72) w4) (3940 * p + 74) z) (by simp only [mp_S, A_I]) ?_ ?_ ?_ ?_ ?_ ?_
      · exact (((((((eqAt.I (by omega)).tr (eqAt.I (by omega))).tr (eqAt.I (by omega))).tr (eqAt.I (by omega))).tr (mp_e _ _ _ _ h6)).tr (mp_e _ _ _ _ h6)).tr (mp_e _ _ _ _ h6)).tr (mp_e _ _ _ _ h6)
      · intro i hi
        simp only [upd_eq]
        rw [if_neg (by omega), if_neg (by omega), if_neg (by omega), if_neg (by omega)]
      · simp only [upd_eq]
        rw [if_neg (by omega), if_neg (by omega), if_neg (by omega), if_neg (by omega)]
      · simp only [upd_eq]
        rw [if_neg (by omega), if_neg (by omega), if_neg (by omega), if_neg (by omega)]
      · simp only [upd_eq]
        rw [if_neg (by omega), if_neg (by omega), if_neg (by omega), if_neg (by omega)]
      · refine rOk_upd (fun j hj => ?_) g10
        simp only [upd_eq]
        rw [if_neg (by omega), if_neg (by omega), if_neg (by omega), if_neg (by omega)]
      · refine but_Bu (fun x h5 h6 h7 => ?_) (fun j h5 h6 => ?_) g11 ?_
        · exact (((((((eqAt.I h7).tr (eqAt.I h7)).tr (eqAt.I h7)).tr (eqAt.I h7)).tr (mp_e _ _ _ _ (by omega))).tr (mp_e _ _ _ _ (by omega))).tr (mp_e _ _ _ _ (by omega))).tr (mp_e _ _ _ _ (by omega))
        · simp only [upd_eq]
          rw [if_neg (by omega), if_neg (by omega), if_neg (by omega), if_neg (by omega)]
        · obtain ⟨b1, b2, b3, b4, b5, b6, b7, b8, b9, b10, b11, b12⟩ := g11.2.2.2.2.1
          unfold rBu
          simp only [mp_I, I_I, upd_eq, Nat.add_left_cancel_iff]
          simp only [and_true, show ¬ (0 : Nat) = 3 by decide, show ¬ (0 : Nat) = 2 by decide, show ¬ (0 : Nat) = 1 by decide, show ¬ (1 : Nat) = 3 by decide, show ¬ (1 : Nat) = 2 by decide, show ¬ (2 : Nat) = 3 by decide, show ¬ (4 : Nat) = 3 by decide, show ¬ (4 : Nat) = 2 by decide, show ¬ (4 : Nat) = 1 by decide, show ¬ (4 : Nat) = 0 by decide, show ¬ (5 : Nat) = 3 by decide, show ¬ (5 : Nat) = 2 by decide, show ¬ (5 : Nat) = 1 by decide, show ¬ (5 : Nat) = 0 by decide, show ¬ (6 : Nat) = 3 by decide, show ¬ (6 : Nat) = 2 by decide, show ¬ (6 : Nat) = 1 by decide, show ¬ (6 : Nat) = 0 by decide, if_true, if_false, show ¬ (70 : Nat) = 74 by decide, show ¬ (70 : Nat) = 72 by decide, show ¬ (70 : Nat) = 71 by decide, show ¬ (71 : Nat) = 74 by decide, show ¬ (71 : Nat) = 72 by decide, show ¬ (72 : Nat) = 74 by decide, show ¬ (73 : Nat) = 74 by decide, show ¬ (73 : Nat) = 72 by decide, show ¬ (73 : Nat) = 71 by decide, show ¬ (73 : Nat) = 70 by decide, show ¬ (75 : Nat) = 74 by decide, show ¬ (75 : Nat) = 72 by decide, show ¬ (75 : Nat) = 71 by decide, show ¬ (75 : Nat) = 70 by decide, show ¬ (76 : Nat) = 74 by decide, show ¬ (76 : Nat) = 72 by decide, show ¬ (76 : Nat) = 71 by decide, show ¬ (76 : Nat) = 70 by decide]
          exact ⟨trivial, trivial, trivial, trivial, b5, b6, b7, ⟨a, ha1, a1, ea⟩, ⟨c, c1, ec⟩, ⟨d, d1, ed⟩, b11, hz⟩
  · left
    refine ⟨12, by decide, by decide, ?_, fun m _ => ?_⟩
    · by_cases h2 : 1 ≤ w2.toInt ∧ w2.toInt ≤ 60
      · rw [if_neg (by rw [t1]; omega), if_neg (by rw [t60]; omega), within_eq, show (1000000 : Int32).toInt = 1000000 from rfl]
        simp only [Option.bind_some]
        by_cases h3 : 0 ≤ w3.toInt ∧ w3.toInt ≤ 1000000
        · rw [if_pos h3, if_neg (by decide), within_eq, show (10000 : Int32).toInt = 10000 from rfl, if_neg (fun h4 => hw ⟨h2, h3, h4⟩)]
          exact bind_eta _
        · rw [if_neg h3, if_pos rfl]
          exact bind_eta _
      · by_cases h5 : w2 < 1
        · rw [if_pos h5]
          exact bind_eta _
        · rw [if_neg h5, if_pos (by rw [t60]; rw [t1] at h5; omega)]
          exact bind_eta _
    · rw [isIn_l _ (a := 1) (c := 60) rfl rfl]
      simp only [Option.bind_some]
      by_cases h2 : 1 ≤ w2.toInt ∧ w2.toInt ≤ 60
      · rw [if_pos h2, if_neg (by decide), isIn_l _ (a := 0) (c := 1000000) rfl rfl]
        simp only [Option.bind_some]
        by_cases h3 : 0 ≤ w3.toInt ∧ w3.toInt ≤ 1000000
        · rw [if_pos h3, if_neg (by decide), isIn_l _ (a := 0) (c := 10000) rfl rfl, if_neg (fun h4 => hw ⟨h2, h3, h4⟩)]
          exact bind_eta _
        · rw [if_neg h3, if_pos rfl]
          exact bind_eta _
      · rw [if_neg h2, if_pos rfl]
        exact bind_eta _
