/-! shares, trialTold, ring, read -/
theorem isShared_eq (v : Int32) : f_X11_isSharedWay v = some (if 1 ≤ v.toInt ∧ v.toInt ≤ 7 then 1 else 0) := by
  unfold f_X11_isSharedWay
  simp only [t_lt, t_le, show (1 : Int32).toInt = 1 from rfl, show (8 : Int32).toInt = 8 from rfl]
  by_cases h : v.toInt < 1
  · simp [h, show ¬ (1 ≤ v.toInt ∧ v.toInt ≤ 7) by omega]
  · by_cases h2 : 8 ≤ v.toInt
    · simp [h, h2, show ¬ (1 ≤ v.toInt ∧ v.toInt ≤ 7) by omega]
    · simp [h, h2, show (1 ≤ v.toInt ∧ v.toInt ≤ 7) by omega]
theorem sw_t {w : Nat} (h1 : 1 ≤ w) (h2 : w < 8) : 1 ≤ (nI w).toInt ∧ (nI w).toInt ≤ 7 := by rw [nI_toInt (by omega)]; omega
theorem firstOf_eq {K L : Nat → Nat} {M : Mm} {b w : Nat} {C : Nat → Nat → Option Nat} (h : BS K L (mm_R M) C b) (h1 : 1 ≤ w) (h2 : w < 8) : f_X7_firstOf K L M (b + 6) (nI w) = some (mm_A M (b + 7) w) := by
  obtain ⟨-, -, ⟨-, r1, r2, q1, q2, q3, q4⟩, -⟩ := h
  unfold f_X7_firstOf
  rw [isShared_eq, if_pos (sw_t h1 h2), show mm_R M (32 * 7 + 0) (b + 6) = some (b + 7) from r1]
  simp only [Option.bind_some, rx_ok q1 q2 h2 (by decide)]
  rw [if_neg (by decide), nI_clamp (by omega)]
theorem sizeOf_eq {K L : Nat → Nat} {M : Mm} {b w : Nat} {C : Nat → Nat → Option Nat} (h : BS K L (mm_R M) C b) (h1 : 1 ≤ w) (h2 : w < 8) : f_X7_sizeOf K L M (b + 6) (nI w) = some (mm_A M (b + 8) w) := by
  obtain ⟨-, -, ⟨-, r1, r2, q1, q2, q3, q4⟩, -⟩ := h
  unfold f_X7_sizeOf
  rw [isShared_eq, if_pos (sw_t h1 h2), show mm_R M (32 * 7 + 1) (b + 6) = some (b + 8) from r2]
  simp only [Option.bind_some, rx_ok q3 q4 h2 (by decide)]
  rw [if_neg (by decide), nI_clamp (by omega)]
/-- shares -/
theorem st_12 (fu : Nat) : so_12 Iv fu := by
  intro B n K L M w1 w2 w3 iv
  by_cases hw : 1 ≤ w2.toInt ∧ w2.toInt ≤ 7
  · obtain ⟨w, hw8, rfl⟩ := n_of (v := w2) (m := 7) (by omega) hw.2 (by decide)
    have hw1 : 1 ≤ w := by have := hw.1; rw [nI_toInt (by omega)] at this; omega
    refine gated2 iv w1 (kinds := 31) (kind := 0) (by unfold kb; simp) (F2 := fun m => f_X12_shares K L (B + 44) w1 (nI w) w3 m) ?_ ?_ ?_
    · intro k _ _ h1 h2
      unfold f_X11_shares
      rw [isShared_eq, if_pos hw]
      simp only [Option.bind_some, (shelf_at iv).1, (shelf_at iv).2, h1, h2, if_true]
      rw [if_neg (by decide)]
      exact bind_eta _
    · intro k m hk hy
      try dsimp only
      unfold f_X12_shares
      rw [isIn_l _ (a := 1) (c := 7) rfl rfl, if_pos hw]
      simp only [Option.bind_some]
      rw [if_neg (by decide), show f_X12_why K L m (B + 44) w1 0 = some (-(nI k)) from hy]
      simp only [Option.bind_some, f_X12_shares_23]
      rw [if_neg hk]
      exact bind_eta _
    · intro p b hh hv hk g hf hy
      subst hv
      obtain ⟨g1, g2, g3, g4, g5, g6, g7, g8, g9, g10, g11⟩ := id g
      have hc1 : rc K (some b) 9 = some b := rc_ok g9.1.1
      have hr : mm_R M (32 * 9 + 4) b = some (b + 6) := g9.1.2.2.1
      have hc2 : rc K (some (b + 6)) 7 = some (b + 6) := rc_ok g9.2.2.1.1
      have hc4 : rc K (some (B + 44)) 12 = some (B + 44) := rc_ok iv.1.1.1.1
      obtain ⟨s1, s2, -⟩ := g11.2.2.1 w hw1 (by omega)
      have e1 : f_X11_shares K L B (nI p) (nI w) w3 M = if w3 = 0 then some (mm_A M (b + 7) w, M) else if w3 = 1 then some (mm_A M (b + 8) w, M) else f_X11_refuse K L B (-(nI 12)) M := by
        unfold f_X11_shares
        rw [isShared_eq, if_pos hw]
        simp only [Option.bind_some, (shelf_at iv).1, (shelf_at iv).2, hf, hc1, hr, hc2, firstOf_eq g9 hw1 (show w < 8 by omega), sizeOf_eq g9 hw1 (show w < 8 by omega), bind_eta]
        rw [if_neg (by decide), if_neg (by simp)]
        rfl
      have e2 : ∀ m, sameS B M m → f_X12_shares K L (B + 44) (nI p) (nI w) w3 m = if 0 ≤ w3.toInt ∧ w3.toInt ≤ 1 then (if w3 = 0 then some (mm_A M (B + 45) (3940 * p + (28 + w)), m) else some (mm_A M (B + 45) (3940 * p + (36 + w)), m)) else f_X12_no K L (B + 44) (-(nI 12)) m := by
        intro m hm
        have hms : MS B K L (mm_R m) := by rw [hm.1]; exact iv.1.1
        unfold f_X12_shares
        rw [isIn_l _ (a := 1) (c := 7) rfl rfl, if_pos hw]
        simp only [Option.bind_some]
        rw [if_neg (by decide), show f_X12_why K L m (B + 44) (nI p) 0 = some 0 from hy m hm]
        simp only [Option.bind_some, f_X12_shares_23, f_X12_shares_60, hc4, if_true]
        rw [isIn_l _ (a := 0) (c := 1) rfl rfl, m_of (c := 28 + nI w) hms g1 (28 + w) (nI_add 28 w) (by omega), m_of (c := 36 + nI w) hms g1 (36 + w) (nI_add 36 w) (by omega), hm.2]
        simp only [Option.bind_some, bind_eta]
        by_cases h3 : 0 ≤ w3.toInt ∧ w3.toInt ≤ 1
        · rw [if_pos h3, if_pos h3, if_neg (by decide)]
        · rw [if_neg h3, if_neg h3]
          rfl
      by_cases h0 : w3 = 0
      · right
        subst h0
        refine ⟨(mm_A M (b + 7) w, M), (mm_A M (B + 45) (3940 * p + (28 + w)), M), ?_, ?_, by rw [s1, Nat.add_assoc], iv⟩
        · rw [e1, if_pos rfl]
        · try dsimp only
          rw [e2 M sameS_rf, if_pos (by decide), if_pos rfl]
      · by_cases h1 : w3 = 1
        · right
          subst h1
          refine ⟨(mm_A M (b + 8) w, M), (mm_A M (B + 45) (3940 * p + (36 + w)), M), ?_, ?_, by rw [s2, Nat.add_assoc], iv⟩
          · rw [e1, if_neg h0, if_pos rfl]
          · try dsimp only
            rw [e2 M sameS_rf, if_pos (by decide), if_neg h0]
        · left
          refine ⟨12, by decide, by decide, by rw [e1, if_neg h0, if_neg h1], fun m hm => ?_⟩
          try dsimp only
          rw [e2 m hm, if_neg]
          intro h
          obtain ⟨v, v1, rfl⟩ := n_of (v := w3) (m := 1) h.1 h.2 (by decide)
          rcases (show v = 0 ∨ v = 1 by omega) with rfl | rfl
          · exact h0 rfl
          · exact h1 rfl
  · refine fin_no iv 3 (by decide) (by decide) (F2 := fun m => f_X12_shares K L (B + 44) w1 w2 w3 m) ?_ ?_
    · unfold f_X11_shares
      rw [isShared_eq, if_neg hw]
      exact bind_eta _
    · try dsimp only
      unfold f_X12_shares
      rw [isIn_l _ (a := 1) (c := 7) rfl rfl, if_neg hw]
      simp only [Option.bind_some, if_true, f_X12_shares_23]
      rw [if_neg (by decide)]
      exact bind_eta _
/-- ring -/
theorem st_15 (fu : Nat) : so_15 Iv fu := by
  intro B n K L M w1 iv
  obtain ⟨z, z1, z2, z3, z4⟩ := iv.2.2.2.2.2.2.2.2
  have hr : mm_R M (32 * 11 + 4) B = some (B + 39) := iv.1.2.1.1.2.2.2.2.1
  obtain ⟨r0, r1, r2, r3, r4, r5, r6, r7, r8, r9⟩ := iv.1.2.1.2.2.2.2.1
  have hz : (nI z - 1).toInt = (z : Int) - 1 := by
    have := pk_sub_toInt (a := z) (b := 1) (by omega) (by decide)
    exact this
  by_cases h : 0 ≤ w1.toInt ∧ w1.toInt ≤ (z : Int) - 1
  · obtain ⟨i, hi, rfl⟩ := n_of (v := w1) (m := 15) h.1 (by omega) (by decide)
    have hiz : i < z := by have := h.2; rw [nI_toInt (by omega)] at this; omega
    obtain ⟨a1, v, v1, a2⟩ := z4 i hiz
    refine ⟨(mm_A M (B + 42) i, M), (mm_A M (B + 50) i, M), ?_, ?_, a1, iv⟩
    · unfold f_X11_ring
      rw [hr]
      simp only [Option.bind_some, rc_ok r0, f_X5_memberAt, show (32 * 5 + 3 : Nat) = 163 from rfl, z2, show (32 * 5 + 2 : Nat) = 162 from rfl, r3, rx_ok r8 r9 (show i < 16 by omega) (by decide), f_X11_answer]
      rw [if_neg (nI_pos (by omega)), if_neg (nI_ge hiz (by omega)), nI_clamp (by omega), a1, a2]
      simp only [Option.bind_some]
      rw [if_pos (nI_pos' (by omega))]
      rfl
    · unfold f_X12_ring
      rw [show mm_I M (32 * 12 + 7) (B + 44) = nI z from z3, isIn_l _ (a := 0) (c := (z : Int) - 1) rfl (by rw [toI64]; exact hz), if_pos h, show mm_R M (32 * 12 + 6) (B + 44) = some (B + 50) from iv.1.1.1.2.2.2.2.2.2.1]
      simp only [Option.bind_some, rx_ok iv.1.1.2.1.2.2.2.2.2.1 iv.1.1.2.2.2.2.2.2.2.1 (show i < 16 by omega) (by decide)]
      rw [if_neg (by decide), nI_clamp (by omega)]
  · refine fin_no iv 3 (by decide) (by decide) (F2 := fun m => f_X12_ring K L (B + 44) w1 m) ?_ ?_
    · unfold f_X11_ring
      rw [hr]
      have e : f_X5_memberAt K L M (B + 39) w1 = some (-3) := by
        unfold f_X5_memberAt
        rw [show mm_I M (32 * 5 + 3) (B + 39) = nI z from z2]
        by_cases h1 : w1 < 0
        · rw [if_pos h1]
        · rw [if_neg h1, if_pos]
          rw [t_le, nI_toInt (by omega)]
          have h1' : ¬ w1.toInt < 0 := fun q => h1 ((t_lt _ _).mpr q)
          omega
      simp only [Option.bind_some, rc_ok r0, e, f_X11_answer]
      rw [if_neg (by decide), bind_eta, bind_eta]
      rfl
    · try dsimp only
      unfold f_X12_ring
      rw [show mm_I (bump M (B + 43) 3) (32 * 12 + 7) (B + 44) = nI z from z3, isIn_l _ (a := 0) (c := (z : Int) - 1) rfl (by rw [toI64]; exact hz), if_neg h]
      exact bind_eta _
