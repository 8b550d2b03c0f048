/-! read, trial -/
theorem st_8 (fu : Nat) : so_8 Iv fu := by
  intro B n K L M w1 iv
  have hc0 : rc K (some B) 11 = some B := rc_ok iv.1.2.1.1.1
  have fin : ∀ k, 2 ≤ k → k ≤ 13 → f_X11_read K L B w1 M = Option.bind (f_X11_refuse K L B (-(nI k)) M) (fun x => some ((0 : Int64), x.2)) → f_X12_read K L (B + 44) w1 (bump M (B + 43) k) = Option.bind (f_X12_no K L (B + 44) (-(nI k)) (bump M (B + 43) k)) (fun x => some ((0 : Int64), x.2)) → ∃ (x1 : Int64 × Mm) (x2 : Int64 × Mm), f_X11_read K L B w1 M = some x1 ∧ f_X12_read K L (B + 44) w1 x1.2 = some x2 ∧ x1.1 = x2.1 ∧ Iv B n K L x2.2 := by
    intro k h1 h2 e1 e2
    obtain ⟨a1, a2, a3⟩ := both_no iv h1 h2
    rw [a1] at e1
    rw [a2] at e2
    exact ⟨(0, bump M (B + 43) k), (0, bump (bump M (B + 43) k) (B + 49) k), e1, e2, rfl, a3⟩
  by_cases hv : 0 ≤ w1.toInt ∧ w1.toInt ≤ 15
  · obtain ⟨p, hp, ep⟩ := n_of (v := w1) (m := 15) hv.1 hv.2 (by decide)
    subst ep
    have hp : p < 16 := by omega
    obtain ⟨hh, i1, i2, i3, i4, i5⟩ := iv.2.1 p hp
    have E1 : f_X11_read K L B (nI p) M = if mm_I M 129 (B + 3 + p) = 0 then (if mm_R M 128 (B + 3 + p) = none then Option.bind (f_X11_refuse K L B (-(nI 2)) M) (fun x => some ((0 : Int64), x.2)) else Option.bind (f_X11_refuse K L B (-(nI 5)) M) (fun x => some ((0 : Int64), x.2))) else some (mm_J M 130 (B + 3 + p), M) := by
      unfold f_X11_read
      rw [(shelf_at iv).1, (shelf_at iv).2]
      simp only [Option.bind_some, placeAt_in iv.1.2.1 hp, rc_ok (iv.1.2.1.2.1.2.2.2.2 p hp).2, f_X11_read_44, hc0]
      rw [if_neg (by simp)]
      rfl
    have E2 : ∀ m, sameS B M m → f_X12_read K L (B + 44) (nI p) m = if hh = 0 then f_X12_read_43 K L (B + 44) (nI p) (-(nI 2)) m else if hh = 6 then f_X12_read_43 K L (B + 44) (nI p) 0 m else f_X12_read_43 K L (B + 44) (nI p) (-(nI 5)) m := by
      intro m hm
      have hms : MS B K L (mm_R m) := by rw [hm.1]; exact iv.1.1
      unfold f_X12_read
      rw [isPlace_eq, if_pos hv]
      simp only [Option.bind_some, m_of0 hms hp, hm.2, i2]
      rw [if_neg (by decide)]
      by_cases h0 : hh = 0
      · rw [if_pos h0, h0, if_pos (by decide)]
        rfl
      · rw [if_neg h0, if_neg (nI_ne0 (by omega) (by omega))]
        by_cases h6 : hh = 6
        · rw [if_pos h6, h6, if_pos (by decide)]
        · rw [if_neg h6, if_neg]
          · rfl
          · intro e
            exact h6 ((nI_eq (a := hh) (b := 6) (by omega) (by decide)).mp e)
    by_cases h0 : hh = 0
    · refine fin 2 (by decide) (by decide) ?_ ?_
      · rw [E1, (i3 h0).1, (i3 h0).2, if_pos rfl, if_pos rfl]
      · rw [E2 _ sameS_bump, if_pos h0]
        unfold f_X12_read_43
        rw [if_neg (by decide)]
        rfl
    · by_cases h6 : hh = 6
      · refine ⟨(mm_J M 130 (B + 3 + p), M), (mm_B M (B + 47) p, M), ?_, ?_, (i4 h6).2.2, iv⟩
        · rw [E1, (i4 h6).2.1, if_neg (by decide)]
        · rw [E2 M sameS_rf, if_neg h0, if_pos h6]
          unfold f_X12_read_43
          rw [if_pos rfl, show mm_R M (32 * 12 + 2) (B + 44) = some (B + 47) from iv.1.1.1.2.2.2.1, rx_ok iv.1.1.2.1.2.2.1 iv.1.1.2.2.2.2.1 hp (by decide)]
          simp only [Option.bind_some]
          rw [nI_clamp (by omega)]
      · obtain ⟨j1, j2, b, j3, j4, j5⟩ := i5 (by omega) (by omega)
        refine fin 5 (by decide) (by decide) ?_ ?_
        · rw [E1, j1, j3, if_pos rfl, if_neg (by simp)]
        · rw [E2 _ sameS_bump, if_neg h0, if_neg h6]
          unfold f_X12_read_43
          rw [if_neg (by decide)]
          rfl
  · refine fin 3 (by decide) (by decide) ?_ ?_
    · unfold f_X11_read
      rw [(shelf_at iv).1, (shelf_at iv).2]
      simp only [Option.bind_some, placeAt_out hv, if_true]
      rfl
    · unfold f_X12_read
      rw [isPlace_eq, if_neg hv]
      simp only [Option.bind_some, if_true, f_X12_read_43]
      rw [if_neg (by decide)]
      rfl
