/-! share -/
theorem i32_b (a : Int32) : -2147483648 ≤ a.toInt ∧ a.toInt ≤ 2147483647 := by
  have h1 := Int32.le_toInt a
  have h2 := Int32.toInt_lt a
  omega
theorem add64 (a b : Int32) : (a.toInt64 + b.toInt64).toInt = a.toInt + b.toInt := by
  have h1 := i32_b a
  have h2 := i32_b b
  rw [Int64.toInt_add, toI64, toI64]
  apply Int.bmod_eq_of_le <;> omega
theorem rSh_put {M M' : Mm} {b o w f s : Nat} {S S' : Nat → Int32} (r : rSh M b S o) (h1 : 1 ≤ w) (h2 : w < 8) (hf : f ≤ 9999) (hs : s ≤ 10000) (e7 : mm_A M' (b + 7) = upd (mm_A M (b + 7)) w (nI f)) (e8 : mm_A M' (b + 8) = upd (mm_A M (b + 8)) w (nI s)) (s28 : S' (o + 28 + w) = nI f) (s36 : S' (o + 36 + w) = nI s) (sS : ∀ k, 29 ≤ k → k ≤ 43 → k ≠ 28 + w → k ≠ 36 + w → S' (o + k) = S (o + k)) : rSh M' b S' o := by
  intro v hv1 hv2
  rw [e7, e8, upd_eq, upd_eq]
  by_cases e : v = w
  · subst e
    rw [if_pos rfl, if_pos rfl, s28, s36]
    exact ⟨rfl, rfl, f, s, hf, hs, rfl, rfl⟩
  · have a1 := sS (28 + v) (by omega) (by omega) (by omega) (by omega)
    have a2 := sS (36 + v) (by omega) (by omega) (by omega) (by omega)
    rw [← Nat.add_assoc] at a1 a2
    rw [if_neg e, if_neg e, a1, a2]
    exact r v hv1 hv2
set_option maxHeartbeats 1000000 in
theorem st_11 {fu : Nat} (hfu : 1000 ≤ fu) : so_11 Iv fu := by
  intro B n K L M w1 w2 w3 w4 iv
  by_cases hw : 1 ≤ w2.toInt ∧ w2.toInt ≤ 7
  · obtain ⟨w, hw8, rfl⟩ := n_of (v := w2) (m := 7) (by omega) hw.2 (by decide)
    have hw1 : 1 ≤ w := by have := hw.1; rw [nI_toInt (by omega)] at this; omega
    refine gated2 iv w1 (kinds := 31) (kind := 0) (by unfold kb; simp) (F2 := fun m => f_X12_share K L fu (B + 44) w1 (nI w) w3 w4 m) ?_ ?_ ?_
    · intro k _ _ h1 h2
      unfold f_X11_share
      rw [isShared_eq, if_pos hw]
      simp only [Option.bind_some, (shelf_at iv).1, (shelf_at iv).2, h1, h2, if_true]
      rw [if_neg (by decide)]
      exact bind_eta _
    · intro k m hk hy
      try dsimp only
      unfold f_X12_share
      rw [isIn_l _ (a := 1) (c := 7) rfl rfl, if_pos hw]
      simp only [Option.bind_some]
      rw [if_neg (by decide), show f_X12_why K L m (B + 44) w1 0 = some (-(nI k)) from hy]
      simp only [Option.bind_some, f_X12_share_23]
      rw [if_neg hk]
      exact bind_eta _
    · intro p b hh hv hk g hf hy
      subst hv
      obtain ⟨g1, g2, g3, g4, g5, g6, g7, g8, g9, g10, g11⟩ := id g
      have hc1 : rc K (some b) 9 = some b := rc_ok g9.1.1
      have hr : mm_R M (32 * 9 + 4) b = some (b + 6) := g9.1.2.2.1
      have hc2 : rc K (some (b + 6)) 7 = some (b + 6) := rc_ok g9.2.2.1.1
      have hr3 : mm_R M (32 * 9 + 9) b = some (b + 9) := g9.1.2.2.2.1
      have hc3 : rc K (some (b + 9)) 3 = some (b + 9) := rc_ok g9.2.2.2.1.1
      obtain ⟨k, z, l1, l2, l3, l4, l5, l6, l7, l8⟩ := g11.2.2.2.1
      have ez : (nI z - 1).toInt = (z : Int) - 1 := pk_sub_toInt (a := z) (b := 1) (by omega) (by decide)
      have hsh := g11.2.2.1
      obtain ⟨s1, s2, -⟩ := hsh w hw1 (by omega)
      let F : Prop := (0 ≤ w3.toInt ∧ w3.toInt ≤ 9999) ∧ (0 ≤ w4.toInt ∧ w4.toInt + w3.toInt ≤ 10000) ∧ ov (fun w => mm_A M (B + 45) (3940 * p + 28 + w)) (fun w => mm_A M (B + 45) (3940 * p + 36 + w)) (nI w) w3 w4 7 = 0
      have h4e : (0 : Int32) ≤ w4 ↔ 0 ≤ w4.toInt := t_le _ _
      have w1e : nI w = 1 ↔ w = 1 := nI_eq (a := w) (b := 1) (by omega) (by decide)
      have hfit := fits_eq (fu := fu) (way := nI w) (fr := w3) (n := w4) g9 hsh hfu
      have E1 : f_X11_share K L fu B (nI p) (nI w) w3 w4 M = if 0 ≤ w4.toInt then (if (w = 1 ∧ ¬ z = 0) ∨ ¬ F then f_X11_refuse K L B (-(nI 12)) M else some (mm_A M (b + 8) w, ms_A (ms_A M (b + 7) (upd (mm_A M (b + 7)) w w3)) (b + 8) (upd (mm_A M (b + 8)) w w4))) else f_X11_refuse K L B (-(nI 4)) M := by
        unfold f_X11_share
        rw [isShared_eq, if_pos hw]
        simp only [Option.bind_some, (shelf_at iv).1, (shelf_at iv).2, hf, hc1, hr, hc2, hr3, hc3, f_X11_share_71, f_X11_share_72, f_X11_share_94, hfit, sizeOf_eq g9 hw1 (show w < 8 by omega), put_eq g9 hw1 (show w < 8 by omega), bind_eta, stood_eq l7 l2]
        rw [if_neg (by decide), if_neg (by simp)]
        by_cases h4 : 0 ≤ w4.toInt
        · rw [if_pos (h4e.mpr h4), if_pos h4]
          by_cases hF : F
          · have hF' : (0 ≤ w3.toInt ∧ w3.toInt ≤ 9999) ∧ (0 ≤ w4.toInt ∧ w4.toInt + w3.toInt ≤ 10000) ∧ ov (fun w => mm_A M (B + 45) (3940 * p + 28 + w)) (fun w => mm_A M (B + 45) (3940 * p + 36 + w)) (nI w) w3 w4 7 = 0 := hF
            simp only [if_pos hF']
            by_cases c1 : w = 1
            · rw [if_pos (w1e.mpr c1)]
              by_cases c2 : z = 0
              · have hX0 : ¬ ((w = 1 ∧ ¬ z = 0) ∨ ¬ F) := fun q => q.elim (fun q => q.2 c2) (fun q => q hF)
                rw [if_pos c2, if_pos rfl, if_pos trivial, if_neg (show ¬ (1 : Int32) = 0 by decide), if_neg hX0]
              · rw [if_neg c2, if_neg (by decide), if_neg (by decide), if_pos (Or.inl ⟨c1, c2⟩)]
                rfl
            · have hX0 : ¬ ((w = 1 ∧ ¬ z = 0) ∨ ¬ F) := fun q => q.elim (fun q => c1 q.1) (fun q => q hF)
              rw [if_neg (fun q => c1 (w1e.mp q)), if_pos trivial, if_neg (show ¬ (1 : Int32) = 0 by decide), if_neg hX0]
          · have hF' : ¬ ((0 ≤ w3.toInt ∧ w3.toInt ≤ 9999) ∧ (0 ≤ w4.toInt ∧ w4.toInt + w3.toInt ≤ 10000) ∧ ov (fun w => mm_A M (B + 45) (3940 * p + 28 + w)) (fun w => mm_A M (B + 45) (3940 * p + 36 + w)) (nI w) w3 w4 7 = 0) := hF
            simp only [if_neg hF']
            rw [if_pos (Or.inr hF : (w = 1 ∧ ¬ z = 0) ∨ ¬ F)]
            by_cases c1 : nI w = 1
            · rw [if_pos c1]
              by_cases c2 : z = 0
              · rw [if_pos c2]
                rfl
              · rw [if_neg c2]
                rfl
            · rw [if_neg c1]
              rfl
        · rw [if_neg (fun q => h4 (h4e.mp q)), if_neg h4]
          rfl
      have E2 : ∀ m, sameS B M m → f_X12_share K L fu (B + 44) (nI p) (nI w) w3 w4 m = if 0 ≤ w4.toInt then (if (w = 1 ∧ ¬ z = 0) ∨ ¬ F then f_X12_no K L (B + 44) (-(nI 12)) m else f_X12_share_108 K L fu (B + 44) (nI p) (nI w) w3 w4 m) else f_X12_no K L (B + 44) (-(nI 4)) m := by
        intro m hm
        have hms : MS B K L (mm_R m) := by rw [hm.1]; exact iv.1.1
        unfold f_X12_share
        rw [isIn_l _ (a := 1) (c := 7) rfl rfl, if_pos hw]
        simp only [Option.bind_some]
        rw [if_neg (by decide), show f_X12_why K L m (B + 44) (nI p) 0 = some 0 from hy m hm]
        simp only [Option.bind_some, f_X12_share_23, if_true, isIn_l w3 (A := 0) (C := 9999) (a := 0) (c := 9999) rfl rfl, goesOver_m (way := nI w) (fr := w3) (n := w4) hms g1 hm.2 hfu, f_X12_share_101, bind_eta, m_of (c := 69) hms g1 69 rfl (by decide), hm.2, l5]
        by_cases h4 : 0 ≤ w4.toInt
        · rw [if_pos (h4e.mpr h4), if_pos h4]
          by_cases a1 : 0 ≤ w3.toInt ∧ w3.toInt ≤ 9999
          · rw [if_pos a1, if_neg (by decide)]
            by_cases a2 : w4.toInt + w3.toInt ≤ 10000
            · rw [if_neg (by rw [lgc_gt, add64, show (10000 : Int64).toInt = 10000 from rfl]; omega)]
              by_cases a3 : ov (fun w => mm_A M (B + 45) (3940 * p + 28 + w)) (fun w => mm_A M (B + 45) (3940 * p + 36 + w)) (nI w) w3 w4 7 = 0
              · have hF : F := ⟨a1, ⟨h4, a2⟩, a3⟩
                rw [if_pos a3]
                by_cases c1 : w = 1
                · rw [if_pos (w1e.mpr c1)]
                  by_cases c2 : z = 0
                  · rw [if_pos (by rw [t_lt, ez, show (0 : Int32).toInt = 0 from rfl]; omega), if_neg (by intro q; rcases q with q | q; exact q.2 c2; exact q hF)]
                  · rw [if_neg (by rw [t_lt, ez, show (0 : Int32).toInt = 0 from rfl]; omega), if_pos (Or.inl ⟨c1, c2⟩)]
                    rfl
                · rw [if_neg (fun q => c1 (w1e.mp q)), if_neg (by intro q; rcases q with q | q; exact c1 q.1; exact q hF)]
              · rw [if_neg a3, if_pos (Or.inr (fun q => a3 q.2.2))]
                rfl
            · rw [if_pos (by rw [lgc_gt, add64, show (10000 : Int64).toInt = 10000 from rfl]; omega), if_pos (Or.inr (fun q => a2 q.2.1.2))]
              rfl
          · rw [if_neg a1, if_pos rfl, if_pos (Or.inr (fun q => a1 q.1))]
            rfl
        · rw [if_neg (fun q => h4 (h4e.mp q)), if_neg h4]
          rfl
      by_cases h4 : 0 ≤ w4.toInt
      · by_cases hX : (w = 1 ∧ ¬ z = 0) ∨ ¬ F
        · exact Or.inl ⟨12, by decide, by decide, by rw [E1, if_pos h4, if_pos hX], fun m hm => by show f_X12_share K L fu (B + 44) (nI p) (nI w) w3 w4 m = _; rw [E2 m hm, if_pos h4, if_pos hX]⟩
        · right
          have hF : F := Classical.byContradiction (fun q => hX (Or.inr q))
          obtain ⟨f, f1, ef⟩ := n_of (v := w3) (m := 9999) hF.1.1 hF.1.2 (by decide)
          obtain ⟨s, sz1, es⟩ := n_of (v := w4) (m := 10000) hF.2.1.1 (by have := hF.2.1.2; have := hF.1.1; omega) (by decide)
          have hms : ∀ m, mm_R m = mm_R M → MS B K L (mm_R m) := fun m e => by rw [e]; exact iv.1.1
          have hsS : sameS B M (ms_A (ms_A M (b + 7) (upd (mm_A M (b + 7)) w w3)) (b + 8) (upd (mm_A M (b + 8)) w w4)) := ⟨rfl, by rw [A_A, if_neg (by omega), A_A, if_neg (by omega)]⟩
          refine ⟨(mm_A M (b + 8) w, ms_A (ms_A M (b + 7) (upd (mm_A M (b + 7)) w w3)) (b + 8) (upd (mm_A M (b + 8)) w w4)), (mm_A M (B + 45) (3940 * p + (36 + w)), mp (mp (ms_A (ms_A M (b + 7) (upd (mm_A M (b + 7)) w w3)) (b + 8) (upd (mm_A M (b + 8)) w w4)) B (3940 * p + (28 + w)) w3) B (3940 * p + (36 + w)) w4), by rw [E1, if_pos h4, if_neg hX], ?_, by rw [s2, Nat.add_assoc], ?_⟩
          · show f_X12_share K L fu (B + 44) (nI p) (nI w) w3 w4 (ms_A (ms_A M (b + 7) (upd (mm_A M (b + 7)) w w3)) (b + 8) (upd (mm_A M (b + 8)) w w4)) = _
            rw [E2 _ hsS, if_pos h4, if_neg hX]
            unfold f_X12_share_108
            rw [m_of (c := 36 + nI w) (hms _ (by rfl)) g1 (36 + w) (nI_add 36 w) (by omega), m_to' (c := 28 + nI w) (hms _ (by rfl)) g1 (28 + w) (nI_add 28 w) (by omega), hsS.2]
            simp only [Option.bind_some]
            rw [m_to' (c := 36 + nI w) (hms _ (by rfl)) g1 (36 + w) (nI_add 36 w) (by omega)]
            rfl
          · have hS : ∀ j, (j < 29 ∨ 43 < j) → upd (upd (mm_A M (B + 45)) (3940 * p + (28 + w)) w3) (3940 * p + (36 + w)) w4 (3940 * p + j) = mm_A M (B + 45) (3940 * p + j) := by
              intro j hj
              simp only [upd_eq]
              rw [if_neg (by omega), if_neg (by omega)]
            refine iv_upd iv g rfl rfl (fun u h5 h6 => (((eqAt.A (by omega)).tr (eqAt.A (by omega))).tr (mp_e _ _ _ _ h6)).tr (mp_e _ _ _ _ h6)) (S' := upd (upd (mm_A M (B + 45)) (3940 * p + (28 + w)) w3) (3940 * p + (36 + w)) w4) (by simp only [mp_S, hsS.2]) (fun i hi => ?_) (hS 0 (by omega)) (hS 44 (by omega)) (hS 46 (by omega)) (rOk_upd (fun j hj => hS j (by omega)) g10) ?_
            · simp only [upd_eq]
              rw [if_neg (by omega), if_neg (by omega)]
            · refine but_Sh (fun u h5 h6 h7 => (((eqAt.A (by omega)).tr (eqAt.A (by omega))).tr (mp_e _ _ _ _ (by omega))).tr (mp_e _ _ _ _ (by omega))) (fun j h5 h6 => hS j (by omega)) g11 ?_
              refine rSh_put hsh hw1 (show w < 8 by omega) f1 sz1 ?_ ?_ ?_ ?_ (fun j j1 j2 j3 j4 => ?_)
              · rw [mp_A _ _ _ _ (by omega), mp_A _ _ _ _ (by omega), A_A, if_neg (by omega), A_A, if_pos rfl, ef]
              · rw [mp_A _ _ _ _ (by omega), mp_A _ _ _ _ (by omega), A_A, if_pos rfl, es]
              · rw [Nat.add_assoc, upd_eq, if_neg (by omega), upd_eq, if_pos rfl, ef]
              · rw [Nat.add_assoc, upd_eq, if_pos rfl, es]
              · rw [upd_eq, if_neg (by omega), upd_eq, if_neg (by omega)]
      · exact Or.inl ⟨4, by decide, by decide, by rw [E1, if_neg h4], fun m hm => by show f_X12_share K L fu (B + 44) (nI p) (nI w) w3 w4 m = _; rw [E2 m hm, if_neg h4]⟩
  · refine fin_no iv 3 (by decide) (by decide) (F2 := fun m => f_X12_share K L fu (B + 44) w1 w2 w3 w4 m) ?_ ?_
    · unfold f_X11_share
      rw [isShared_eq, if_neg hw]
      exact bind_eta _
    · try dsimp only
      unfold f_X12_share
      rw [isIn_l _ (a := 1) (c := 7) rfl rfl, if_neg hw]
      simp only [Option.bind_some, if_true, f_X12_share_23]
      rw [if_neg (by decide)]
      exact bind_eta _
