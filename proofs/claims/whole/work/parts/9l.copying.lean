/-- copy -/
theorem st_19 {fu : Nat} (hfu : 1000 ≤ fu) : so_19 Iv fu := by
  intro B n K L M w1 w2 w3 w4 w5 iv
  rcases gate_two iv w1 w3 (kinds := 6) (kind := 1) (by unfold kb; simp) with ⟨k, k1, k2, ⟨x, y, ex, ey, hxy⟩, h2, h3⟩ | ⟨p, b, hh, p', b', hh', rfl, rfl, ok1, ok2, g, g', f1, f2, h3⟩
  · refine fin_no iv k k1 k2 (F2 := fun m => f_X12_copy K L fu (B + 44) w1 w2 w3 w4 w5 m) ?_ ?_
    · unfold f_X11_copy f_X11_copy_34
      simp only [(shelf_at iv).1, (shelf_at iv).2, Option.bind_some, ex, ey, h2, bind_eta]
      by_cases q : x = none
      · rw [if_pos q]
      · rw [if_neg q, if_pos (hxy.resolve_left q)]
    · show f_X12_copy K L fu (B + 44) w1 w2 w3 w4 w5 (bump M (B + 43) k) = _
      unfold f_X12_copy
      rw [show f_X12_whyTwo K L (bump M (B + 43) k) (B + 44) w1 w3 1 = _ from h3 _ sameS_bump]
      simp only [Option.bind_some, f_X12_copy_38, f_X12_copy_57]
      rw [if_neg (ng_ne k1 k2), if_neg (ng_ne k1 k2), if_neg (ng_ne k1 k2)]
      exact bind_eta _
  · obtain ⟨g1, g2, g3, g4, g5, g6, g7, g8, g9, g10, g11⟩ := id g
    obtain ⟨d1, d2, d3, d4, d5, d6, d7, d8, d9, d10, d11⟩ := id g'
    obtain ⟨k, z, l1, l2, l3, l4, l5, l6, l7, l8⟩ := g11.2.2.2.1
    obtain ⟨k', z', m1, m2, m3, m4, m5, m6, m7, m8⟩ := d11.2.2.2.1
    have hc1 : rc K (some b) 9 = some b := rc_ok g9.1.1
    have hr : mm_R M (32 * 9 + 9) b = some (b + 9) := g9.1.2.2.2.1
    have hc2 : rc K (some (b + 9)) 3 = some (b + 9) := rc_ok g9.2.2.2.1.1
    have hc1' : rc K (some b') 9 = some b' := rc_ok d9.1.1
    have hr' : mm_R M (32 * 9 + 9) b' = some (b' + 9) := d9.1.2.2.2.1
    have hc2' : rc K (some (b' + 9)) 3 = some (b' + 9) := rc_ok d9.2.2.2.1.1
    have hS : ∀ v u : Int32, ¬ k = 0 → f_X3_hasSteps K L M (b + 9) v u = some (if 0 ≤ v.toInt ∧ 0 ≤ u.toInt ∧ v.toInt + u.toInt ≤ k then 1 else 0) := fun v u h => hasSteps_eq (by rw [l6, if_neg h]) l1 v u
    have hS' : ∀ v u : Int32, ¬ k' = 0 → f_X3_hasSteps K L M (b' + 9) v u = some (if 0 ≤ v.toInt ∧ 0 ≤ u.toInt ∧ v.toInt + u.toInt ≤ k' then 1 else 0) := fun v u h => hasSteps_eq (by rw [m6, if_neg h]) m1 v u
    have E1 : f_X11_copy K L B (nI p) w2 (nI p') w4 w5 M = if k = 0 ∨ k' = 0 then f_X11_refuse K L B (-(nI 2)) M else if z' = 0 then (if (0 ≤ w2.toInt ∧ 0 ≤ w5.toInt ∧ w2.toInt + w5.toInt ≤ k) ∧ (0 ≤ w4.toInt ∧ 0 ≤ w5.toInt ∧ w4.toInt + w5.toInt ≤ k') then Option.bind (f_X3_copySteps K L (b' + 9) (some (b + 9)) w2 w4 w5 M) (fun x25 => some (w5, x25)) else f_X11_refuse K L B (-(nI 6)) M) else f_X11_refuse K L B (-(nI 12)) M := by
      unfold f_X11_copy f_X11_copy_65 f_X11_copy_119
      simp only [(shelf_at iv).1, (shelf_at iv).2, Option.bind_some, f1, f2, hc1, hr, hc2, hc1', hr', hc2', hasRow_eq l6 l1, hasRow_eq m6 m1, stood_eq m7 m2, bind_eta]
      rw [if_neg (by simp), if_neg (by simp)]
      by_cases x : k = 0
      · rw [if_pos x, if_pos rfl, if_pos (show k = 0 ∨ k' = 0 from Or.inl x)]
        rfl
      · rw [if_neg x, if_neg (by decide)]
        by_cases y : k' = 0
        · rw [if_pos y, if_pos rfl, if_pos (show k = 0 ∨ k' = 0 from Or.inr y)]
          rfl
        · rw [if_neg y, if_neg (by decide), if_neg (show ¬ (k = 0 ∨ k' = 0) by omega), hS _ _ x, hS' _ _ y]
          simp only [Option.bind_some]
          by_cases zz : z' = 0
          · rw [if_pos zz, if_pos rfl, if_pos zz]
            by_cases s1 : 0 ≤ w2.toInt ∧ 0 ≤ w5.toInt ∧ w2.toInt + w5.toInt ≤ k
            · rw [if_pos s1, if_neg (by decide)]
              by_cases s2 : 0 ≤ w4.toInt ∧ 0 ≤ w5.toInt ∧ w4.toInt + w5.toInt ≤ k'
              · rw [if_pos s2, if_neg (by decide), if_pos ⟨s1, s2⟩]
              · rw [if_neg s2, if_pos rfl, if_neg (fun q => s2 q.2)]
                rfl
            · rw [if_neg s1, if_pos rfl, if_neg (fun q => s1 q.1)]
              rfl
          · rw [if_neg zz, if_neg (by decide), if_neg zz]
            rfl
    have lt0 : ∀ v : Int32, v < 0 ↔ ¬ 0 ≤ v.toInt := fun v => by rw [t_lt, show (0 : Int32).toInt = 0 from rfl]; omega
    have zlt : nI z' - 1 < 0 ↔ z' = 0 := by rw [t_lt, z_toInt (by omega), show (0 : Int32).toInt = 0 from rfl]; omega
    have E2 : ∀ m, sameS B M m → f_X12_copy K L fu (B + 44) (nI p) w2 (nI p') w4 w5 m = if k = 0 ∨ k' = 0 then f_X12_no K L (B + 44) (-(nI 2)) m else if z' = 0 then (if (0 ≤ w2.toInt ∧ 0 ≤ w5.toInt ∧ w2.toInt + w5.toInt ≤ k) ∧ (0 ≤ w4.toInt ∧ 0 ≤ w5.toInt ∧ w4.toInt + w5.toInt ≤ k') then f_X12_copy_130 K L fu (B + 44) fu (nI p) w2 (nI p') w4 w5 0 m else f_X12_no K L (B + 44) (-(nI 6)) m) else f_X12_no K L (B + 44) (-(nI 12)) m := by
      intro m hm
      have hms : MS B K L (mm_R m) := by rw [hm.1]; exact iv.1.1
      have n2 : ¬ (-2 : Int32) = 0 := by decide
      have n12 : ¬ (-12 : Int32) = 0 := by decide
      unfold f_X12_copy f_X12_copy_34
      rw [show f_X12_whyTwo K L m (B + 44) (nI p) (nI p') 1 = _ from h3 m hm]
      simp only [Option.bind_some, if_true, m_of (c := 48) hms g1 48 rfl (by decide), m_of (c := 48) hms d1 48 rfl (by decide), hm.2, l4, m4, f_X12_copy_38, f_X12_copy_57, if_neg n2, if_neg n12, m_of (c := 69) hms d1 69 rfl (by decide), m5, bind_eta, f_X12_copy_120]
      by_cases x : k = 0
      · rw [if_pos (show nI k = 0 by rw [x]; rfl), if_pos (show k = 0 ∨ k' = 0 from Or.inl x)]
        rfl
      · rw [if_neg ((sm1 l1).mpr x)]
        by_cases y : k' = 0
        · rw [if_pos (show nI k' = 0 by rw [y]; rfl), if_pos (show k = 0 ∨ k' = 0 from Or.inr y)]
          rfl
        · rw [if_neg ((sm1 m1).mpr y), if_neg (show ¬ (k = 0 ∨ k' = 0) by omega)]
          by_cases zz : z' = 0
          · rw [if_pos (zlt.mpr zz), if_pos zz]
            have ck : (nI k).toInt64.toInt = k := by rw [toI64, nI_toInt (by omega)]
            have ck' : (nI k').toInt64.toInt = k' := by rw [toI64, nI_toInt (by omega)]
            by_cases s5 : 0 ≤ w5.toInt
            · rw [if_neg (fun q => (lt0 _).mp q s5)]
              by_cases s2 : 0 ≤ w2.toInt
              · rw [if_neg (fun q => (lt0 _).mp q s2)]
                by_cases s4 : 0 ≤ w4.toInt
                · rw [if_neg (fun q => (lt0 _).mp q s4)]
                  have c1 : 0 < lg_cmp (w2.toInt64 + w5.toInt64) (nI k).toInt64 ↔ ¬ w2.toInt + w5.toInt ≤ k := by rw [lgc_gt, ck, add64]; omega
                  have c2 : lg_cmp (w4.toInt64 + w5.toInt64) (nI k').toInt64 ≤ 0 ↔ w4.toInt + w5.toInt ≤ k' := by
                    have := lgc_gt (w4.toInt64 + w5.toInt64) (nI k').toInt64
                    rw [ck', add64] at this
                    rw [← Int32.not_lt, this]
                    omega
                  by_cases s6 : w2.toInt + w5.toInt ≤ k
                  · rw [if_neg (fun q => c1.mp q s6)]
                    by_cases s7 : w4.toInt + w5.toInt ≤ k'
                    · rw [if_pos (c2.mpr s7), if_pos (show (0 ≤ w2.toInt ∧ 0 ≤ w5.toInt ∧ w2.toInt + w5.toInt ≤ k) ∧ (0 ≤ w4.toInt ∧ 0 ≤ w5.toInt ∧ w4.toInt + w5.toInt ≤ k') from ⟨⟨s2, s5, s6⟩, s4, s5, s7⟩)]
                    · rw [if_neg (fun q => s7 (c2.mp q)), if_neg (show ¬ ((0 ≤ w2.toInt ∧ 0 ≤ w5.toInt ∧ w2.toInt + w5.toInt ≤ k) ∧ (0 ≤ w4.toInt ∧ 0 ≤ w5.toInt ∧ w4.toInt + w5.toInt ≤ k')) from fun q => s7 q.2.2.2)]
                      rfl
                  · rw [if_pos (c1.mpr s6), if_neg (show ¬ ((0 ≤ w2.toInt ∧ 0 ≤ w5.toInt ∧ w2.toInt + w5.toInt ≤ k) ∧ (0 ≤ w4.toInt ∧ 0 ≤ w5.toInt ∧ w4.toInt + w5.toInt ≤ k')) from fun q => s6 q.1.2.2)]
                    rfl
                · rw [if_pos ((lt0 _).mpr s4), if_neg (show ¬ ((0 ≤ w2.toInt ∧ 0 ≤ w5.toInt ∧ w2.toInt + w5.toInt ≤ k) ∧ (0 ≤ w4.toInt ∧ 0 ≤ w5.toInt ∧ w4.toInt + w5.toInt ≤ k')) from fun q => s4 q.2.1)]
                  rfl
              · rw [if_pos ((lt0 _).mpr s2), if_neg (show ¬ ((0 ≤ w2.toInt ∧ 0 ≤ w5.toInt ∧ w2.toInt + w5.toInt ≤ k) ∧ (0 ≤ w4.toInt ∧ 0 ≤ w5.toInt ∧ w4.toInt + w5.toInt ≤ k')) from fun q => s2 q.1.1)]
                rfl
            · rw [if_pos ((lt0 _).mpr s5), if_neg (show ¬ ((0 ≤ w2.toInt ∧ 0 ≤ w5.toInt ∧ w2.toInt + w5.toInt ≤ k) ∧ (0 ≤ w4.toInt ∧ 0 ≤ w5.toInt ∧ w4.toInt + w5.toInt ≤ k')) from fun q => s5 q.1.2.1)]
              rfl
          · rw [if_neg (fun q => zz (zlt.mp q)), if_neg zz]
            rfl
    by_cases x : k = 0 ∨ k' = 0
    · exact fin_no iv 2 (by decide) (by decide) (F2 := fun m => f_X12_copy K L fu (B + 44) (nI p) w2 (nI p') w4 w5 m) (by rw [E1, if_pos x]) (by show f_X12_copy K L fu (B + 44) (nI p) w2 (nI p') w4 w5 _ = _; rw [E2 _ sameS_bump, if_pos x])
    · by_cases zz : z' = 0
      · by_cases s : (0 ≤ w2.toInt ∧ 0 ≤ w5.toInt ∧ w2.toInt + w5.toInt ≤ k) ∧ (0 ≤ w4.toInt ∧ 0 ≤ w5.toInt ∧ w4.toInt + w5.toInt ≤ k')
        · rw [if_neg x, if_pos zz, if_pos s] at E1
          obtain ⟨i, i1, ei⟩ := n_of (v := w2) (m := k) s.1.1 (by omega) (by omega)
          obtain ⟨j, j1, ej⟩ := n_of (v := w4) (m := k') s.2.1 (by omega) (by omega)
          obtain ⟨c, cc1, ec⟩ := n_of (v := w5) (m := k) s.1.2.1 (by omega) (by omega)
          have si : w2.toInt = i := by rw [ei, nI_toInt (by omega)]
          have sj : w4.toInt = j := by rw [ej, nI_toInt (by omega)]
          have sc : w5.toInt = c := by rw [ec, nI_toInt (by omega)]
          have hic : i + c ≤ k := by have := s.1.2.2; omega
          have hjc : j + c ≤ k' := by have := s.2.2.2; omega
          have hx : ¬ k = 0 ∧ ¬ k' = 0 := by omega
          have hrp : rp K L (some (b + 10)) w2 w5 = some (b + 10) := by
            have h : K (b + 10) = 13 ∧ ¬ w2 < 0 ∧ ¬ w5 < 0 ∧ w2.toNatClampNeg + w5.toNatClampNeg ≤ L (b + 10) := ⟨g9.2.2.2.1.2.2.1, by rw [ei]; exact nI_pos (by omega), by rw [ec]; exact nI_pos (by omega), by rw [ei, ec, nI_clamp (by omega), nI_clamp (by omega), g9.2.2.2.1.2.2.2]; omega⟩
            simp only [rp]
            rw [if_pos h]
          have hrp' : rp K L (some (b' + 10)) w4 w5 = some (b' + 10) := by
            have h : K (b' + 10) = 13 ∧ ¬ w4 < 0 ∧ ¬ w5 < 0 ∧ w4.toNatClampNeg + w5.toNatClampNeg ≤ L (b' + 10) := ⟨d9.2.2.2.1.2.2.1, by rw [ej]; exact nI_pos (by omega), by rw [ec]; exact nI_pos (by omega), by rw [ej, ec, nI_clamp (by omega), nI_clamp (by omega), d9.2.2.2.1.2.2.2]; omega⟩
            simp only [rp]
            rw [if_pos h]
          obtain ⟨M1, hM1⟩ : ∃ N, N = ms_A M (b' + 10) (va_cpy (mm_A M (b + 10)) (mm_A M (b' + 10)) i j c) := ⟨_, rfl⟩
          have hcs : f_X3_copySteps K L (b' + 9) (some (b + 9)) w2 w4 w5 M = some M1 := by
            unfold f_X3_copySteps
            rw [hc2]
            simp only [Option.bind_some, hS _ _ hx.1, hS' _ _ hx.2]
            rw [if_pos s.1, if_neg (by decide), if_pos s.2, if_neg (by decide), show mm_R M (32 * 3 + 0) (b + 9) = some (b + 10) from g9.2.2.2.1.2.1, show mm_R M (32 * 3 + 0) (b' + 9) = some (b' + 10) from d9.2.2.2.1.2.1, hrp, hrp']
            simp only [Option.bind_some, bn_eq]
            rw [ei, ej, ec, nI_clamp (by omega), nI_clamp (by omega), nI_clamp (by omega), hM1]
          rw [hcs] at E1
          have e1 : ∀ a, a ≠ b' + 10 → eqAt M M1 a := fun a h => by rw [hM1]; exact eqAt.A h
          have hsS : sameS B M M1 := ⟨by rw [hM1]; rfl, (e1 (B + 45) (by omega)).2.2.2.1⟩
          have hms : MS B K L (mm_R M1) := by rw [hsS.1]; exact iv.1.1
          obtain ⟨N1, hN1⟩ : ∃ N, N = ms_A M1 (B + 54) (fun x => if 0 ≤ x ∧ x < c then mm_A M1 (B + 45) (3940 * p + 49 + i + x) else mm_A M1 (B + 54) x) := ⟨_, rfl⟩
          have hms1 : MS B K L (mm_R N1) := by rw [hN1]; exact hms
          have sN : scr B M1 N1 := by rw [hN1]; exact scr.Aa (by omega)
          obtain ⟨S3, hS3⟩ : ∃ S3, S3 = fun x => if 3940 * p' + 49 + j + 0 ≤ x ∧ x < 3940 * p' + 49 + j + c then mm_A N1 (B + 54) (x - (3940 * p' + 49 + j)) else mm_A N1 (B + 45) x := ⟨_, rfl⟩
          have hN45 : mm_A N1 (B + 45) = mm_A M (B + 45) := sN.S.trans hsS.2
          have S3o : ∀ x, ¬ (3940 * p' + 49 + j ≤ x ∧ x < 3940 * p' + 49 + j + c) → S3 x = mm_A M (B + 45) x := by
            intro x hx
            rw [hS3]
            dsimp only
            rw [if_neg (by omega), hN45]
          have S3i : ∀ y, y < c → S3 (3940 * p' + 49 + j + y) = mm_A M (B + 45) (3940 * p + 49 + i + y) := by
            intro y hy
            rw [hS3]
            dsimp only
            rw [if_pos (by omega), show 3940 * p' + 49 + j + y - (3940 * p' + 49 + j) = y by omega, hN1, A_A, if_pos rfl, if_pos (by omega), hsS.2]
          refine ⟨(w5, M1), (w5, ms_A N1 (B + 45) S3), E1, ?_, rfl, ?_⟩
          · show f_X12_copy K L fu (B + 44) (nI p) w2 (nI p') w4 w5 M1 = _
            rw [E2 _ hsS, if_neg x, if_pos zz, if_pos s, ei, ej, ec, show f_X12_copy_130 K L fu (B + 44) fu (nI p) (nI i) (nI p') (nI j) (nI c) 0 M1 = _ from cpy_loop1 (fu := fu) g1 (by omega) c fu 0 M1 hms (by omega) (by omega), ← hN1, show f_X12_copy_165 K L fu (B + 44) fu (nI p') (nI j) (nI c) 0 N1 = _ from cpy_loop2 (fu := fu) d1 (by omega) c fu 0 N1 hms1 (by omega) (by omega), ← hS3]
          · refine iv_scr (iv_fin (M3 := M1) (S3 := S3) iv g' hsS.1 (by rw [hM1]; rfl) (fun a ha => e1 a (by omega)) (fun y hy => S3o _ (by omega)) (fun y hy => S3o _ (by omega)) (rOk_upd (fun y hy => S3o _ (by omega)) d10) ?_) sN.ms
            refine but_La (fun a _ _ h3 h4 => e1 a h4) (fun y h1 h2 => S3o _ (by omega)) d11 ?_
            refine ⟨k', z', m1, m2, m3, by rw [S3o _ (by omega)]; exact m4, by rw [S3o _ (by omega)]; exact m5, by rw [(e1 _ (by omega)).1]; exact m6, by rw [(e1 _ (by omega)).1]; exact m7, fun y hy => ?_⟩
            rw [hM1, A_A, if_pos rfl]
            show (if j ≤ y ∧ y < j + c then mm_A M (b + 10) (i + (y - j)) else mm_A M (b' + 10) y) = _ ∧ _
            by_cases q : j ≤ y ∧ y < j + c
            · rw [if_pos q]
              have := S3i (y - j) (by omega)
              rw [show 3940 * p' + 49 + j + (y - j) = 3940 * p' + 49 + y by omega, show 3940 * p + 49 + i + (y - j) = 3940 * p + 49 + (i + (y - j)) by omega] at this
              rw [this]
              exact l8 _ (by omega)
            · rw [if_neg q, S3o _ (by omega)]
              exact m8 y hy
        · exact fin_no iv 6 (by decide) (by decide) (F2 := fun m => f_X12_copy K L fu (B + 44) (nI p) w2 (nI p') w4 w5 m) (by rw [E1, if_neg x, if_pos zz, if_neg s]) (by show f_X12_copy K L fu (B + 44) (nI p) w2 (nI p') w4 w5 _ = _; rw [E2 _ sameS_bump, if_neg x, if_pos zz, if_neg s])
      · exact fin_no iv 12 (by decide) (by decide) (F2 := fun m => f_X12_copy K L fu (B + 44) (nI p) w2 (nI p') w4 w5 m) (by rw [E1, if_neg x, if_neg zz]) (by show f_X12_copy K L fu (B + 44) (nI p) w2 (nI p') w4 w5 _ = _; rw [E2 _ sameS_bump, if_neg x, if_neg zz])
