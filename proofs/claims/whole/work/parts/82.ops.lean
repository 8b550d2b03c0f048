/-! step, and loops that fill -/
theorem hasRow_eq {K L : Nat → Nat} {M : Mm} {a k : Nat} (h : mm_I M 97 a = if k = 0 then -1 else nI k) (hk : k ≤ 20) : f_X3_hasRow K L M a = some (if k = 0 then 0 else 1) := by
  unfold f_X3_hasRow
  rw [show mm_I M (32 * 3 + 1) a = _ from h]
  by_cases h0 : k = 0
  · rw [if_pos h0, if_pos rfl, if_pos h0]
  · rw [if_neg h0, if_neg h0, if_neg]
    intro e
    have := congrArg Int32.toInt e
    rw [nI_toInt (by omega)] at this
    have h1 : (-1 : Int32).toInt = -1 := rfl
    omega
theorem hasStep_eq {K L : Nat → Nat} {M : Mm} {a k : Nat} (h : mm_I M 97 a = if k = 0 then -1 else nI k) (hk : k ≤ 20) (v : Int32) : f_X3_hasStep K L M a v = some (if 0 ≤ v.toInt ∧ v.toInt < k then 1 else 0) := by
  unfold f_X3_hasStep
  rw [show mm_I M (32 * 3 + 1) a = _ from h]
  by_cases h1 : v < 0
  · rw [if_pos h1, if_neg]
    rw [t_lt, show (0 : Int32).toInt = 0 from rfl] at h1
    omega
  · rw [if_neg h1]
    rw [t_lt, show (0 : Int32).toInt = 0 from rfl] at h1
    by_cases h0 : k = 0
    · rw [if_pos h0, if_pos (by rw [t_le, show (-1 : Int32).toInt = -1 from rfl]; omega), if_neg (by omega)]
    · rw [if_neg h0]
      by_cases h2 : nI k ≤ v
      · rw [if_pos h2, if_neg]
        rw [t_le, nI_toInt (by omega)] at h2
        omega
      · rw [if_neg h2, if_pos]
        rw [t_le, nI_toInt (by omega)] at h2
        omega
/-- step -/
theorem st_18 (fu : Nat) : so_18 Iv fu := by
  intro B n K L M w1 w2 w3 iv
  refine gated2 iv w1 (kinds := 6) (kind := 1) (by unfold kb; simp) (F2 := fun m => f_X12_step K L (B + 44) w1 w2 w3 m) ?_ ?_ ?_
  · intro k _ _ h1 h2
    unfold f_X11_step
    simp only [(shelf_at iv).1, (shelf_at iv).2, Option.bind_some, h1, h2, if_true]
    exact bind_eta _
  · intro k m hk hy
    unfold f_X12_step
    rw [show f_X12_why K L m (B + 44) w1 1 = some (-(nI k)) from hy]
    simp only [Option.bind_some, f_X12_step_27, f_X12_step_55]
    rw [if_neg hk, if_neg hk, if_neg hk]
    exact bind_eta _
  · intro p b hh hv hk g hf hy
    subst hv
    obtain ⟨g1, g2, g3, g4, g5, g6, g7, g8, g9, g10, g11⟩ := id g
    have hc1 : rc K (some b) 9 = some b := rc_ok g9.1.1
    have hr : mm_R M (32 * 9 + 9) b = some (b + 9) := g9.1.2.2.2.1
    have hc2 : rc K (some (b + 9)) 3 = some (b + 9) := rc_ok g9.2.2.2.1.1
    obtain ⟨k, z, l1, l2, l3, l4, l5, l6, l7, l8⟩ := g11.2.2.2.1
    have ez : (nI k - 1).toInt = (k : Int) - 1 := pk_sub_toInt (a := k) (b := 1) (by omega) (by decide)
    have E1 : f_X11_step K L B (nI p) w2 w3 M = if k = 0 then f_X11_refuse K L B (-(nI 2)) M else if 0 ≤ w2.toInt ∧ w2.toInt < k then (if 0 ≤ w3.toInt ∧ w3.toInt ≤ 10000 then (if nI z - 1 < w2 then Option.bind (f_X3_stepAt K L M (b + 9) w2) (fun x15 => Option.bind (f_X3_setStep K L (b + 9) w2 w3 M) (fun x17 => some (x15, x17))) else f_X11_refuse K L B (-(nI 12)) M) else f_X11_refuse K L B (-(nI 12)) M) else f_X11_refuse K L B (-(nI 3)) M := by
      unfold f_X11_step
      simp only [(shelf_at iv).1, (shelf_at iv).2, Option.bind_some, hf, hc1, hr, hc2, hasRow_eq l6 l1, hasStep_eq l6 l1, within_eq, show (10000 : Int32).toInt = 10000 from rfl, f_X11_step_84, bind_eta, show mm_I M (32 * 3 + 2) (b + 9) = nI z - 1 from l7]
      rw [if_neg (by simp)]
      by_cases h0 : k = 0
      · rw [if_pos h0, if_pos rfl, if_pos h0]
        rfl
      · rw [if_neg h0, if_neg (by decide), if_neg h0]
        by_cases h1 : 0 ≤ w2.toInt ∧ w2.toInt < k
        · rw [if_pos h1, if_neg (by decide), if_pos h1]
          by_cases h2 : 0 ≤ w3.toInt ∧ w3.toInt ≤ 10000
          · rw [if_pos h2, if_neg (by decide), if_pos h2]
            rfl
          · rw [if_neg h2, if_pos rfl, if_neg h2]
            rfl
        · rw [if_neg h1, if_pos rfl, if_neg h1]
          rfl
    have E2 : ∀ m, sameS B M m → f_X12_step K L (B + 44) (nI p) w2 w3 m = if k = 0 then f_X12_no K L (B + 44) (-(nI 2)) m else if 0 ≤ w2.toInt ∧ w2.toInt < k then (if 0 ≤ w3.toInt ∧ w3.toInt ≤ 10000 then (if nI z - 1 < w2 then Option.bind (f_X12_of K L m (B + 44) (nI p) (49 + w2)) (fun x5 => Option.bind (f_X12_to K L (B + 44) (nI p) (49 + w2) w3 m) (fun x7 => some (x5, x7))) else f_X12_no K L (B + 44) (-(nI 12)) m) else f_X12_no K L (B + 44) (-(nI 12)) m) else f_X12_no K L (B + 44) (-(nI 3)) m := by
      intro m hm
      have hms : MS B K L (mm_R m) := by rw [hm.1]; exact iv.1.1
      unfold f_X12_step
      rw [show f_X12_why K L m (B + 44) (nI p) 1 = some 0 from hy m hm]
      simp only [Option.bind_some, if_true, m_of (c := 48) hms g1 48 rfl (by decide), hm.2, l4, f_X12_step_27, f_X12_step_55, f_X12_step_90, bind_eta, m_of (c := 69) hms g1 69 rfl (by decide), l5]
      by_cases h0 : k = 0
      · rw [h0, if_pos (by decide), if_pos rfl, if_neg (by decide), if_neg (by decide)]
        rfl
      · rw [if_neg (nI_ne0 (by omega) (by omega)), if_neg h0, isIn_l w2 (a := 0) (c := (k : Int) - 1) rfl (by rw [toI64]; exact ez)]
        simp only [Option.bind_some]
        by_cases h1 : 0 ≤ w2.toInt ∧ w2.toInt < k
        · rw [if_pos (show 0 ≤ w2.toInt ∧ w2.toInt ≤ (k : Int) - 1 by omega), if_neg (by decide), if_pos h1, isIn_l w3 (a := 0) (c := 10000) rfl rfl]
          simp only [Option.bind_some]
          by_cases h2 : 0 ≤ w3.toInt ∧ w3.toInt ≤ 10000
          · rw [if_pos h2, if_neg (by decide), if_pos h2]
            rfl
          · rw [if_neg h2, if_pos rfl, if_neg h2]
            rfl
        · rw [if_neg (show ¬ (0 ≤ w2.toInt ∧ w2.toInt ≤ (k : Int) - 1) by omega), if_pos rfl, if_neg h1, if_neg (by decide)]
          rfl
    by_cases h0 : k = 0
    · exact Or.inl ⟨2, by decide, by decide, by rw [E1, if_pos h0], fun m hm => by rw [E2 m hm, if_pos h0]⟩
    · by_cases h1 : 0 ≤ w2.toInt ∧ w2.toInt < k
      · by_cases h2 : 0 ≤ w3.toInt ∧ w3.toInt ≤ 10000
        · by_cases h3 : nI z - 1 < w2
          · right
            obtain ⟨i, i1, ei⟩ := n_of (v := w2) (m := 19) h1.1 (by omega) (by decide)
            subst ei
            have hik : i < k := by have := h1.2; rw [nI_toInt (by omega)] at this; omega
            obtain ⟨c, c1, ec⟩ := n_of (v := w3) (m := 10000) h2.1 h2.2 (by decide)
            have hst : rx K L (some (b + 10)) 13 (nI i) = some (b + 10) := rx_ok g9.2.2.2.1.2.2.1 g9.2.2.2.1.2.2.2 (show i < 20 by omega) (by decide)
            have hr10 : mm_R M (32 * 3 + 0) (b + 9) = some (b + 10) := g9.2.2.2.1.2.1
            refine ⟨(mm_A M (b + 10) i, ms_A M (b + 10) (upd (mm_A M (b + 10)) i w3)), (mm_A M (B + 45) (3940 * p + (49 + i)), mp (ms_A M (b + 10) (upd (mm_A M (b + 10)) i w3)) B (3940 * p + (49 + i)) w3), ?_, ?_, ?_, ?_⟩
            · rw [E1, if_neg h0, if_pos h1, if_pos h2, if_pos h3]
              simp only [f_X3_stepAt, f_X3_setStep, hasStep_eq l6 l1, Option.bind_some, hr10, hst, bn_eq, nI_clamp (show i < 2 ^ 31 by omega)]
              rw [if_pos h1, if_neg (by decide)]
              simp only [Option.bind_some]
              rw [if_neg (by decide)]
              rfl
            · have hsS : sameS B M (ms_A M (b + 10) (upd (mm_A M (b + 10)) i w3)) := ⟨rfl, by rw [A_A, if_neg (by omega)]⟩
              have hms : MS B K L (mm_R (ms_A M (b + 10) (upd (mm_A M (b + 10)) i w3))) := iv.1.1
              show f_X12_step K L (B + 44) (nI p) (nI i) w3 (ms_A M (b + 10) (upd (mm_A M (b + 10)) i w3)) = _
              rw [E2 _ hsS, if_neg h0, if_pos h1, if_pos h2, if_pos h3, m_of (c := 49 + nI i) hms g1 (49 + i) (nI_add 49 i) (by omega), m_to' (c := 49 + nI i) hms g1 (49 + i) (nI_add 49 i) (by omega), hsS.2]
              rfl
            · have := (l8 i hik).1
              rw [Nat.add_assoc] at this
              exact this
            · refine iv_upd iv g rfl rfl (fun x h5 h6 => (eqAt.A (by omega)).tr (mp_e _ _ _ _ h6)) (S' := upd (mm_A M (B + 45)) (3940 * p + (49 + i)) w3) (by rw [mp_S, A_A, if_neg (by omega)]) (fun j hj => by rw [upd_eq, if_neg (by omega)]) (by rw [upd_eq, if_neg (by omega)]) (by rw [upd_eq, if_neg (by omega)]) (by rw [upd_eq, if_neg (by omega)]) (rOk_upd (fun j hj => by rw [upd_eq, if_neg (by omega)]) g10) ?_
              refine but_La (fun x h5 h6 h7 h8 => (eqAt.A h8).tr (mp_e _ _ _ _ (by omega))) (fun j h5 h6 => by rw [upd_eq, if_neg (by omega)]) g11 ?_
              refine ⟨k, z, l1, l2, l3, by rw [upd_eq, if_neg (by omega)]; exact l4, by rw [upd_eq, if_neg (by omega)]; exact l5, l6, l7, fun j hj => ?_⟩
              rw [mp_A _ _ _ _ (by omega), A_A, if_pos rfl, upd_eq, upd_eq]
              by_cases hji : j = i
              · subst hji
                rw [if_pos rfl, if_pos (by omega)]
                exact ⟨rfl, c, c1, ec⟩
              · rw [if_neg hji, if_neg (by omega)]
                exact l8 j hj
          · exact Or.inl ⟨12, by decide, by decide, by rw [E1, if_neg h0, if_pos h1, if_pos h2, if_neg h3], fun m hm => by rw [E2 m hm, if_neg h0, if_pos h1, if_pos h2, if_neg h3]⟩
        · exact Or.inl ⟨12, by decide, by decide, by rw [E1, if_neg h0, if_pos h1, if_neg h2], fun m hm => by rw [E2 m hm, if_neg h0, if_pos h1, if_neg h2]⟩
      · exact Or.inl ⟨3, by decide, by decide, by rw [E1, if_neg h0, if_neg h1], fun m hm => by rw [E2 m hm, if_neg h0, if_neg h1]⟩
