/-- grow -/
theorem st_20 {fu : Nat} (hfu : 1000 ≤ fu) : so_20 Iv fu := by
  intro B n K L M w1 w2 iv
  by_cases hw : 0 ≤ w2.toInt ∧ w2.toInt ≤ 239
  · obtain ⟨m, m1, rfl⟩ := n_of (v := w2) (m := 239) hw.1 hw.2 (by decide)
    have hm : m < 240 := by omega
    have e2 : ∀ m', f_X12_grow K L fu (B + 44) w1 (nI m) m' = Option.bind (f_X12_why K L m' (B + 44) w1 (nI 1)) (fun x5 => f_X12_grow_18 K L fu (B + 44) w1 (nI m) x5 m') := by
      intro m'
      unfold f_X12_grow
      rw [isMinute_eq, if_pos hw]
      simp only [Option.bind_some]
      rw [if_neg (by decide)]
      rfl
    refine gated2 iv w1 (kinds := 6) (kind := 1) (by unfold kb; simp) (F2 := fun m' => f_X12_grow K L fu (B + 44) w1 (nI m) m') ?_ ?_ ?_
    · intro k _ _ h1 h2
      unfold f_X11_grow
      rw [within_eq, show (239 : Int32).toInt = 239 from rfl, if_pos hw]
      simp only [Option.bind_some, (shelf_at iv).1, (shelf_at iv).2, h1, h2, if_true]
      rw [if_neg (by decide)]
      exact bind_eta _
    · intro k m' hk hy
      show f_X12_grow K L fu (B + 44) w1 (nI m) m' = _
      rw [e2, hy]
      simp only [Option.bind_some, f_X12_grow_18, f_X12_grow_36, f_X12_grow_62, f_X12_grow_73]
      rw [if_neg hk, if_neg hk, if_neg hk, if_neg hk]
      exact bind_eta _
    · intro p b hh hv hk g hf hy
      subst hv
      obtain ⟨g1, g2, g3, g4, g5, g6, g7, g8, g9, g10, g11⟩ := id g
      have hc1 : rc K (some b) 9 = some b := rc_ok g9.1.1
      have hr9 : mm_R M (32 * 9 + 9) b = some (b + 9) := g9.1.2.2.2.1
      have hc9 : rc K (some (b + 9)) 3 = some (b + 9) := rc_ok g9.2.2.2.1.1
      have hr4 : mm_R M (32 * 9 + 4) b = some (b + 6) := g9.1.2.2.1
      have hc4 : rc K (some (b + 6)) 7 = some (b + 6) := rc_ok g9.2.2.1.1
      have hct := g11.ct (w := 1) (by decide)
      have hbu := g11.2.2.2.2.1
      obtain ⟨win, win1, win2, ew⟩ := hbu.2.2.2.2.2.2.2.1
      obtain ⟨k, z, l1, l2, l3, l4, l5, l6, l7, l8⟩ := g11.2.2.2.1
      have ez : nI z - 1 + 1 = nI (z + 1) - 1 := by rw [Int32.sub_add_cancel, ← nI_1, Int32.add_sub_cancel]
      have E1 : f_X11_grow K L fu B (nI p) (nI m) M = if gv (mm_A M (B + 45)) (3940 * p) m win k z = 0 then some ((if 1 ≤ z + 1 ∧ z + 1 ≤ k then mm_A M (b + 10) (z + 1 - 1) else 0), stM M b (nI (z + 1) - 1) (if 1 ≤ z + 1 ∧ z + 1 ≤ k then mm_A M (b + 10) (z + 1 - 1) else 0)) else f_X11_refuse K L B (gv (mm_A M (B + 45)) (3940 * p) m win k z) M := by
        unfold f_X11_grow
        rw [within_eq, show (239 : Int32).toInt = 239 from rfl, if_pos hw]
        simp only [Option.bind_some, (shelf_at iv).1, (shelf_at iv).2, hf, hc1, growFault_eq (C := mm_C M) g9 g11 ew win1 win2 hm hfu l1 l2 l3 l6 l7 l8, hr9, hc9, show mm_I M (32 * 3 + 2) (b + 9) = _ from l7, ez, stand_eq g9 l6 l1 (z := z + 1) (by omega)]
        rw [if_neg (by decide), if_neg (by simp)]
        have h' : BS K L (mm_R (stM M b (nI (z + 1) - 1) (if 1 ≤ z + 1 ∧ z + 1 ≤ k then mm_A M (b + 10) (z + 1 - 1) else 0))) (mm_C M) b := g9
        rw [show mm_R (stM M b (nI (z + 1) - 1) (if 1 ≤ z + 1 ∧ z + 1 ≤ k then mm_A M (b + 10) (z + 1 - 1) else 0)) (32 * 9 + 4) b = some (b + 6) from hr4, hc4]
        simp only [Option.bind_some]
        rw [show f_X7_sizeOf K L (stM M b (nI (z + 1) - 1) (if 1 ≤ z + 1 ∧ z + 1 ≤ k then mm_A M (b + 10) (z + 1 - 1) else 0)) (b + 6) 1 = _ from sizeOf_eq h' (w := 1) (by decide) (by decide), bind_eta]
        simp only [Option.bind_some, stM, A_A, if_true, upd_eq]
      have E2 : ∀ m', sameS B M m' → ∃ M', scr B m' M' ∧ f_X12_grow K L fu (B + 44) (nI p) (nI m) m' = f_X12_grow_73 K L fu (B + 44) (nI p) (gv (mm_A M (B + 45)) (3940 * p) m win k z) M' := by
        intro m' hm'
        have hms : MS B K L (mm_R m') := by rw [hm'.1]; exact iv.1.1
        rw [e2, hy m' hm']
        simp only [Option.bind_some, f_X12_grow_18, if_true, m_of (c := 48) hms g1 48 rfl (by decide), hm'.2, l4]
        unfold gv
        by_cases h0 : k = 0
        · refine ⟨m', scr.rf B m', ?_⟩
          rw [if_pos (show nI k = 0 by rw [h0]; rfl), if_pos h0]
          unfold f_X12_grow_36
          rw [if_neg (by decide)]
          unfold f_X12_grow_62
          rw [if_neg (by decide)]
        · rw [if_neg ((sm1 l1).mpr h0), if_neg h0]
          unfold f_X12_grow_36
          rw [if_pos rfl, m_of (c := 48) hms g1 48 rfl (by decide), m_of (c := 69) hms g1 69 rfl (by decide), hm'.2, l4, l5]
          simp only [Option.bind_some]
          rw [Int32.sub_add_cancel]
          have hlt : nI z < nI k ↔ z < k := by rw [t_lt, nI_toInt (by omega), nI_toInt (by omega)]; omega
          by_cases hzk : z < k
          · obtain ⟨M', i1, i2⟩ := whyN (fu := fu) g1 hm ew win2 win1 (fun k hk => hct.t01 k hk) hfu (z := z) (by omega) l5 hms hm'.2
            refine ⟨M', i2, ?_⟩
            rw [if_pos (hlt.mpr hzk), if_pos hzk]
            unfold f_X12_grow_62
            rw [if_pos rfl, i1]
            rfl
          · refine ⟨m', scr.rf B m', ?_⟩
            rw [if_neg (fun q => hzk (hlt.mp q)), if_neg hzk]
            unfold f_X12_grow_62
            rw [if_neg (by decide)]
      right
      rcases gv_or (mm_A M (B + 45)) (3940 * p) m win k z with h | ⟨k', k1, k2, h⟩
      · have hzk : 0 < k ∧ z < k := by
          unfold gv at h
          by_cases h0 : k = 0
          · rw [if_pos h0] at h
            exact absurd h (by decide)
          · rw [if_neg h0] at h
            by_cases hzk : z < k
            · exact ⟨by omega, hzk⟩
            · rw [if_neg hzk] at h
              exact absurd h (by decide)
        have hs0 : (if 1 ≤ z + 1 ∧ z + 1 ≤ k then mm_A M (b + 10) (z + 1 - 1) else 0) = mm_A M (B + 45) (3940 * p + 49 + z) := by
          rw [if_pos (by omega)]
          exact (l8 z hzk.2).1
        rw [h, if_pos rfl, hs0] at E1
        rw [h] at E2
        have hsb := (l8 z hzk.2).2
        generalize hs : mm_A M (B + 45) (3940 * p + 49 + z) = s at *
        have hsS : sameS B M (stM M b (nI (z + 1) - 1) s) := ⟨rfl, (stM_e (by omega) (by omega) (by omega)).2.2.2.1⟩
        have hms : MS B K L (mm_R (stM M b (nI (z + 1) - 1) s)) := iv.1.1
        obtain ⟨M', i1, i2⟩ := E2 _ hsS
        have iS : mm_A M' (B + 45) = mm_A M (B + 45) := i1.S.trans hsS.2
        refine ⟨(s, stM M b (nI (z + 1) - 1) s), (s, ms_A M' (B + 45) (upd (upd (mm_A M (B + 45)) (3940 * p + 69) (nI (z + 1) - 1)) (3940 * p + 37) s)), E1, i2.trans ?_, rfl, ?_⟩
        · have hM' := i1.MS hms
          have hM1 : MS B K L (mm_R (mp M' B (3940 * p + 69) (nI (z + 1) - 1))) := hM'
          unfold f_X12_grow_73
          rw [if_pos rfl, m_of (c := 69) hM' g1 69 rfl (by decide), iS, l5]
          simp only [Option.bind_some]
          rw [ez, m_to' (c := 69) hM' g1 69 rfl (by decide)]
          simp only [Option.bind_some]
          rw [m_of (c := 69) hM1 g1 69 rfl (by decide), mp_S, upd_eq, if_pos rfl]
          simp only [Option.bind_some]
          rw [m_of (c := 49 + (nI (z + 1) - 1)) hM1 g1 (49 + z) (by rw [z_pred (by omega)]; exact nI_add 49 z) (by omega), mp_S, upd_eq, if_neg (by omega), iS, ← Nat.add_assoc, hs]
          simp only [Option.bind_some]
          rw [m_to' (c := 37) hM1 g1 37 rfl (by decide), mp_0 M', mp_m, iS]
          simp only [Option.bind_some]
          rw [m_of (c := 37) (M := ms_A M' (B + 45) _) hM' g1 37 rfl (by decide), A_A, if_pos rfl, upd_eq, if_pos rfl]
          rfl
        · refine iv_scr (iv_fin (M3 := stM M b (nI (z + 1) - 1) s) (S3 := upd (upd (mm_A M (B + 45)) (3940 * p + 69) (nI (z + 1) - 1)) (3940 * p + 37) s) iv g rfl rfl (fun a h => stM_e (by omega) (by omega) (by omega)) (fun i hi => by rw [upd_eq, if_neg (by omega), upd_eq, if_neg (by omega)]) (fun j hj => by rw [upd_eq, if_neg (by omega), upd_eq, if_neg (by omega)]) (rOk_stand g10 g4 (okk1 hk)) (rAll_stand g11 (by omega) (fun k' h1 h2 h3 => ?_) hsb)) i1.ms
          have : k' = k := (nI_eq (by omega) (by omega)).mp (h2.symm.trans l4)
          omega
      · rw [h, if_neg (ng_ne k1 k2)] at E1
        obtain ⟨M', i1, i2⟩ := E2 (bump M (B + 43) k') sameS_bump
        refine fin_scr iv k' k1 k2 E1 ⟨M', i1, ?_⟩
        show f_X12_grow K L fu (B + 44) (nI p) (nI m) (bump M (B + 43) k') = _
        rw [i2, h]
        unfold f_X12_grow_73
        rw [if_neg (ng_ne k1 k2)]
        exact bind_eta _
  · refine fin_no iv 3 (by decide) (by decide) (F2 := fun m => f_X12_grow K L fu (B + 44) w1 w2 m) ?_ ?_
    · unfold f_X11_grow
      rw [within_eq, show (239 : Int32).toInt = 239 from rfl, if_neg hw]
      exact bind_eta _
    · show f_X12_grow K L fu (B + 44) w1 w2 (bump M (B + 43) 3) = _
      unfold f_X12_grow
      rw [isMinute_eq, if_neg hw]
      simp only [Option.bind_some, f_X12_grow_18, f_X12_grow_36, f_X12_grow_62, f_X12_grow_73]
      have n3 : ¬ (-3 : Int32) = 0 := by decide
      simp only [if_neg n3, bind_eta, if_true]
      rfl
