/-! count -/
def cntT (K L : Nat → Nat) (fu a0 : Nat) (v1 v2 v3 : Int32) (x15 : Mm) : Option (Int32 × Mm) := Option.bind (f_X12_of K L x15 a0 v1 (69 : Int32)) (fun x17 => if v2 = (1 : Int32) then Option.bind (f_X12_isStepped K L x15 a0 v1) (fun x19 => if x19 = 0 then f_X12_count_205 K L fu a0 v1 x15 else if x17 < 0 then f_X12_count_205 K L fu a0 v1 x15 else Option.bind (f_X12_isSpent K L fu a0 v1 v3 x15) (fun x21 => if (x21.1) = 0 then f_X12_count_205 K L fu a0 v1 (x21.2) else Option.bind (f_X12_of K L x21.2 a0 v1 (74 : Int32)) (fun x23 => if x23 = (1 : Int32) then f_X12_count_160 K L fu a0 v1 v3 v1 (some a0) (x21.2) else Option.bind (f_X12_of K L x21.2 a0 v1 (48 : Int32)) (fun x25 => if x25 = 0 then f_X12_count_160 K L fu a0 v1 v3 v1 (some a0) (x21.2) else f_X12_count_168 K L fu a0 v1 v3 (x17 - (1 : Int32)) v1 (some a0) (x21.2))))) else f_X12_count_205 K L fu a0 v1 x15)
def cntG (K L : Nat → Nat) (fu a0 : Nat) (v1 v2 v3 v4 v5 : Int32) (M : Mm) : Option (Int32 × Mm) := Option.bind (f_X12_isIn (v4.toInt64) (0 : Int64) (1000000 : Int64)) (fun x3 => if x3 = 0 then f_X12_count_47 K L fu a0 M else Option.bind (f_X12_isIn (v5.toInt64) (0 : Int64) (v4.toInt64)) (fun x5 => if x5 = 0 then f_X12_count_47 K L fu a0 M else Option.bind (f_X12_minuteAt v2 v3) (fun x7 => Option.bind (f_X12_to K L a0 v1 x7 (1 : Int32) M) (fun x9 => Option.bind (f_X12_to K L a0 v1 (x7 + (1 : Int32)) v4 x9) (fun x11 => Option.bind (f_X12_to K L a0 v1 (x7 + (2 : Int32)) v5 x11) (fun x13 => Option.bind (f_X12_to K L a0 v1 (x7 + (3 : Int32)) (0 : Int32) x13) (fun x15 => cntT K L fu a0 v1 v2 v3 x15)))))))
theorem st_25 {fu : Nat} (hfu : 1000 ≤ fu) : so_25 Iv fu := by
  intro B n K L M w1 w2 w3 w4 w5 iv
  refine cgated' iv w1 w2 w3 (F2 := fun m => f_X12_count K L fu (B + 44) w1 w2 w3 w4 w5 m) (G1 := fun x5 a7 x9 => Option.bind (f_X11_within w4 (1000000 : Int32)) (fun x11 => if x11 = 0 then f_X11_count_80 K L fu B M else Option.bind (f_X11_within w5 w4) (fun x13 => if x13 = 0 then f_X11_count_80 K L fu B M else Option.bind (rc K x9 2) (fun a15 => Option.bind (f_X2_tell K L fu a15 w3 w4 w5 M) (fun x17 => if w2 = (1 : Int32) then Option.bind (f_X9_goBackIfSpent K L fu a7 w3 x17) (fun x19 => f_X11_count_108 K L fu B x5 x19) else f_X11_count_108 K L fu B x5 x17))))) (G2 := fun m => cntG K L fu (B + 44) w1 w2 w3 w4 w5 m) rfl (fun m => rfl) ?_
  intro p b hh w mi hv hu ht hw hmi g h0
  subst hv hu ht
  obtain ⟨g1, g2, g3, g4, g5, g6, g7, g8, g9, g10, g11⟩ := id g
  have hc1 : rc K (some b) 9 = some b := rc_ok g9.1.1
  have hr4 : mm_R M (32 * 9 + 4) b = some (b + 6) := g9.1.2.2.1
  have hc4 : rc K (some (b + 6)) 7 = some (b + 6) := rc_ok g9.2.2.1.1
  have hc2 : rc K (some (b + 14 + 4 * w)) 2 = some (b + 14 + 4 * w) := rc_ok (g9.2.2.2.2.2.2.2.2 w hw).2.1
  by_cases h4 : 0 ≤ w4.toInt ∧ w4.toInt ≤ 1000000
  · obtain ⟨c, c1, rfl⟩ := n_of (v := w4) (m := 1000000) h4.1 h4.2 (by decide)
    have ec : (nI c).toInt = c := nI_toInt (by omega)
    by_cases h5 : 0 ≤ w5.toInt ∧ w5.toInt ≤ c
    · obtain ⟨f, f1, rfl⟩ := n_of (v := w5) (m := c) h5.1 h5.2 (by omega)
      right
      obtain ⟨r1, r2, e, r3, r4, r5⟩ := g11.ct (w := w) hw
      obtain ⟨M1, i1, i2⟩ := tell_eq (c := nI c) (f := nI f) (fu := fu) hw hmi g9 r4 r3 hfu
      have ra := tell_rAll (S := mm_A M (B + 45)) hw hmi c1 f1 g11 r4 r3 i2
      have hTL : tlS (mm_A M (B + 45)) (3940 * p) w mi (nI c) (nI f) = tlS (mm_A M (B + 45)) (3940 * p) w mi (nI c) (nI f) := rfl
      generalize hS1 : tlS (mm_A M (B + 45)) (3940 * p) w mi (nI c) (nI f) = S1 at ra hTL
      have s1o : ∀ i, (i < 3940 * p + 100 ∨ 3940 * p + 3940 ≤ i) → S1 i = mm_A M (B + 45) i := fun i hi => by rw [← hS1]; exact tlS_o (by omega)
      have m1S : sameS B M M1 := ⟨i2.1, (i2.2.2.1 (B + 45) (by omega)).2.2.2.1⟩
      have bs1 : BS K L (mm_R M1) (mm_C M1) b := by rw [i2.1, i2.2.1]; exact g9
      have bu1 := ra.2.2.2.2.1
      obtain ⟨win, win1, win2, ew⟩ := bu1.2.2.2.2.2.2.2.1
      obtain ⟨k, z, l1, l2, l3, l4, l5, l6, l7, l8⟩ := ra.2.2.2.1
      have ok1 : rOk S1 (3940 * p) := rOk_upd (fun j hj => s1o _ (by omega)) g10
      have h1o : S1 (3940 * p) = nI hh := (s1o _ (by omega)).trans g4
      have E2 : ∀ m, sameS B M m → cntG K L fu (B + 44) (nI p) (nI w) (nI mi) (nI c) (nI f) m = cntT K L fu (B + 44) (nI p) (nI w) (nI mi) (ms_A m (B + 45) S1) := by
        intro m hm
        have hms : ∀ T, MS B K L (mm_R (ms_A m (B + 45) T)) := fun T => by rw [R_A, hm.1]; exact iv.1.1
        have hms0 : MS B K L (mm_R m) := by rw [hm.1]; exact iv.1.1
        unfold cntG
        rw [isIn_l (nI c) (A := 0) (C := 1000000) (a := 0) (c := 1000000) rfl rfl, if_pos h4, minute_eq, isIn_l (nI f) (A := 0) (C := (nI c).toInt64) (a := 0) (c := (c : Int)) rfl (by rw [toI64, ec]), if_pos h5]
        simp only [Option.bind_some]
        rw [if_neg (by decide), if_neg (by decide), m_to' (c := nI (100 + 4 * (240 * w + mi))) hms0 g1 (100 + 4 * (240 * w + mi)) rfl (by omega), mp_0]
        simp only [Option.bind_some]
        rw [m_to' (c := nI (100 + 4 * (240 * w + mi)) + 1) (hms _) g1 (100 + 4 * (240 * w + mi) + 1) (nI_1 _) (by omega), mp_m]
        simp only [Option.bind_some]
        rw [m_to' (c := nI (100 + 4 * (240 * w + mi)) + 2) (hms _) g1 (100 + 4 * (240 * w + mi) + 2) (nI_add _ 2) (by omega), mp_m]
        simp only [Option.bind_some]
        rw [m_to' (c := nI (100 + 4 * (240 * w + mi)) + 3) (hms _) g1 (100 + 4 * (240 * w + mi) + 3) (nI_add _ 3) (by omega), mp_m, hm.2, ← hS1]
        rfl
      have hw1 : nI w = 1 ↔ w = 1 := nI_eq (b := 1) (by omega) (by omega)
      have ln : nI z - 1 < 0 ↔ z = 0 := by rw [t_lt, z_toInt (by omega), show (0 : Int32).toInt = 0 from rfl]; omega
      -- the reference behind the writes
      have E3 : ∀ m, sameS B M m → ∃ M', scr B (ms_A m (B + 45) S1) M' ∧ cntT K L fu (B + 44) (nI p) (nI w) (nI mi) (ms_A m (B + 45) S1) = if w = 1 ∧ ¬ z = 0 ∧ vd S1 (3940 * p) mi win = -10 then f_X12_count_168 K L fu (B + 44) (nI p) (nI mi) (nI (zz S1 (3940 * p) k z) - 1) (nI p) (some (B + 44)) M' else f_X12_count_205 K L fu (B + 44) (nI p) M' := by
        intro m hm
        have hms : MS B K L (mm_R (ms_A m (B + 45) S1)) := by rw [R_A, hm.1]; exact iv.1.1
        have hSS : mm_A (ms_A m (B + 45) S1) (B + 45) = S1 := by rw [A_A, if_pos rfl]
        unfold cntT
        rw [m_of (c := 69) hms g1 69 rfl (by decide), hSS, l5, step_eq hms g1 (show hh ≤ 6 by omega) (by rw [hSS]; exact h1o)]
        simp only [Option.bind_some]
        by_cases q : w = 1
        · rw [if_pos (hw1.mpr q)]
          by_cases hst : hh = 2 ∨ hh = 3
          · rw [if_pos hst, if_neg (by decide)]
            by_cases hz : z = 0
            · exact ⟨_, scr.rf B _, by rw [if_pos (ln.mpr hz), if_neg (fun x => x.2.1 hz)]⟩
            · rw [if_neg (fun x => hz (ln.mp x))]
              obtain ⟨M', j1, j2⟩ := spent_eq (T := S1) (fu := fu) g1 hmi ew win2 win1 (fun k hk => (ra.ct (w := 1) (by decide)).t01 k hk) hfu hms hSS
              refine ⟨M', j2, ?_⟩
              have hSM : mm_A M' (B + 45) = S1 := j2.S.trans hSS
              rw [j1]
              simp only [Option.bind_some]
              by_cases v : vd S1 (3940 * p) mi win = -10
              · rw [if_pos v, if_neg (by decide), if_pos (show w = 1 ∧ ¬ z = 0 ∧ vd S1 (3940 * p) mi win = -10 from ⟨q, hz, v⟩), m_of (c := 74) (j2.MS hms) g1 74 rfl (by decide), m_of (c := 48) (j2.MS hms) g1 48 rfl (by decide), hSM, l4]
                simp only [Option.bind_some]
                unfold f_X12_count_160 zz
                rcases bu1.2.2.2.2.2.2.2.2.2.2.2 with t | t
                · rw [if_neg (by rw [t]; decide)]
                  by_cases k0 : k = 0
                  · rw [if_pos (by rw [k0]; rfl), if_neg (show ¬ (S1 (3940 * p + 74) = 0 ∧ ¬ k = 0) from fun x => x.2 k0)]
                    rfl
                  · rw [if_neg ((sm1 l1).mpr k0), if_pos (show S1 (3940 * p + 74) = 0 ∧ ¬ k = 0 from ⟨t, k0⟩), z_pred (by omega)]
                · rw [if_pos t, if_neg (show ¬ (S1 (3940 * p + 74) = 0 ∧ ¬ k = 0) from fun x => by rw [t] at x; exact absurd x.1 (by decide))]
                  rfl
              · rw [if_neg v, if_pos rfl, if_neg (fun x => v x.2.2)]
          · have hz : z = 0 := by
              rcases ok1.2.2.2.2.2.1 with x | x | x
              · exact absurd (Or.inl ((nI_eq (by omega) (by omega)).mp (h1o.symm.trans x))) hst
              · exact absurd (Or.inr ((nI_eq (by omega) (by omega)).mp (h1o.symm.trans x))) hst
              · refine ln.mp ?_
                rw [← l5, x]
                decide
            exact ⟨_, scr.rf B _, by rw [if_neg hst, if_pos rfl, if_neg (fun x => x.2.1 hz)]⟩
        · exact ⟨_, scr.rf B _, by rw [if_neg (fun x => q (hw1.mp x)), if_neg (fun x => q x.1)]⟩
      have hcl : ∀ m, mm_R m = mm_R M → mm_C m = mm_C M → f_X11_count_108 K L fu B (some b) m = some (mm_A m (b + 8) 1, m) := by
        intro m hR hC
        have h' : BS K L (mm_R m) (mm_C m) b := by rw [hR, hC]; exact g9
        unfold f_X11_count_108
        simp only [hc1, Option.bind_some, hR, hr4, hc4]
        rw [show f_X7_sizeOf K L m (b + 6) 1 = _ from sizeOf_eq h' (w := 1) (by decide) (by decide)]
        rfl
      have E1 : (Option.bind (f_X11_within (nI c) (1000000 : Int32)) (fun x11 => if x11 = 0 then f_X11_count_80 K L fu B M else Option.bind (f_X11_within (nI f) (nI c)) (fun x13 => if x13 = 0 then f_X11_count_80 K L fu B M else Option.bind (rc K (some (b + 14 + 4 * w)) 2) (fun a15 => Option.bind (f_X2_tell K L fu a15 (nI mi) (nI c) (nI f) M) (fun x17 => if nI w = (1 : Int32) then Option.bind (f_X9_goBackIfSpent K L fu b (nI mi) x17) (fun x19 => f_X11_count_108 K L fu B (some b) x19) else f_X11_count_108 K L fu B (some b) x17))))) = if w = 1 ∧ ¬ z = 0 ∧ vd S1 (3940 * p) mi win = -10 then some (mm_A (spM M1 b mi (zz S1 (3940 * p) k z) (if 1 ≤ zz S1 (3940 * p) k z ∧ zz S1 (3940 * p) k z ≤ k then mm_A M1 (b + 10) (zz S1 (3940 * p) k z - 1) else 0)) (b + 8) 1, spM M1 b mi (zz S1 (3940 * p) k z) (if 1 ≤ zz S1 (3940 * p) k z ∧ zz S1 (3940 * p) k z ≤ k then mm_A M1 (b + 10) (zz S1 (3940 * p) k z - 1) else 0)) else some (mm_A M1 (b + 8) 1, M1) := by
        rw [within_eq, show (1000000 : Int32).toInt = 1000000 from rfl, if_pos h4, within_eq, ec, if_pos h5]
        simp only [Option.bind_some, hc2, i1]
        rw [if_neg (by decide), if_neg (by decide)]
        by_cases q : w = 1
        · rw [if_pos (hw1.mpr q), goBack_eq bs1 ra ew win1 win2 hmi hfu l1 l2 l6 l7]
          simp only [Option.bind_some]
          by_cases v : ¬ z = 0 ∧ vd S1 (3940 * p) mi win = -10
          · rw [if_pos v, if_pos (show w = 1 ∧ ¬ z = 0 ∧ vd S1 (3940 * p) mi win = -10 from ⟨q, v⟩)]
            exact hcl (spM M1 b mi _ _) i2.1 i2.2.1
          · rw [if_neg v, if_neg (show ¬ (w = 1 ∧ ¬ z = 0 ∧ vd S1 (3940 * p) mi win = -10) from fun x => v x.2), hcl _ i2.1 i2.2.1]
        · rw [if_neg (fun x => q (hw1.mp x)), if_neg (show ¬ (w = 1 ∧ ¬ z = 0 ∧ vd S1 (3940 * p) mi win = -10) from fun x => q x.1), hcl _ i2.1 i2.2.1]
      by_cases Q : w = 1 ∧ ¬ z = 0 ∧ vd S1 (3940 * p) mi win = -10
      · rw [if_pos Q] at E1
        have hzk : zz S1 (3940 * p) k z ≤ k ∧ zz S1 (3940 * p) k z ≤ 20 := by
          unfold zz
          by_cases t : S1 (3940 * p + 74) = 0 ∧ ¬ k = 0
          · rw [if_pos t]
            have := l3 (by omega)
            omega
          · rw [if_neg t]
            omega
        have hs0 : (if 1 ≤ zz S1 (3940 * p) k z ∧ zz S1 (3940 * p) k z ≤ k then mm_A M1 (b + 10) (zz S1 (3940 * p) k z - 1) else 0) = if 1 ≤ zz S1 (3940 * p) k z then S1 (3940 * p + 49 + (zz S1 (3940 * p) k z - 1)) else 0 := by
          by_cases t : 1 ≤ zz S1 (3940 * p) k z
          · rw [if_pos t, if_pos ⟨t, hzk.1⟩]
            exact (l8 _ (by omega)).1
          · rw [if_neg t, if_neg (fun x => t x.1)]
        have hsb : ∃ v : Nat, v ≤ 10000 ∧ (if 1 ≤ zz S1 (3940 * p) k z then S1 (3940 * p + 49 + (zz S1 (3940 * p) k z - 1)) else 0) = nI v := by
          by_cases t : 1 ≤ zz S1 (3940 * p) k z
          · rw [if_pos t]
            exact (l8 _ (by omega)).2
          · rw [if_neg t]
            exact ⟨0, by omega, rfl⟩
        rw [hs0] at E1
        generalize hzy : zz S1 (3940 * p) k z = y at *
        generalize hsy : (if 1 ≤ y then S1 (3940 * p + 49 + (y - 1)) else 0) = s at *
        have hme : ∀ a, (a < b ∨ b + 30 ≤ a) → eqAt M (spM M1 b mi y s) a := fun a ha => (i2.2.2.1 a (by omega)).tr (spM_e (by omega) (by omega) (by omega) (by omega))
        have hsS : sameS B M (spM M1 b mi y s) := ⟨i2.1, (hme (B + 45) (by omega)).2.2.2.1⟩
        have hms : MS B K L (mm_R (spM M1 b mi y s)) := by rw [hsS.1]; exact iv.1.1
        obtain ⟨M', j1, j2⟩ := E3 _ hsS
        rw [if_pos Q] at j2
        have hms1 : MS B K L (mm_R (ms_A (spM M1 b mi y s) (B + 45) S1)) := hms
        have hSM : mm_A M' (B + 45) = S1 := j1.S.trans (by rw [A_A, if_pos rfl])
        refine ⟨(mm_A (spM M1 b mi y s) (b + 8) 1, spM M1 b mi y s), (s, ms_A M' (B + 45) (spS S1 (3940 * p) mi y s)), E1, hsS, ?_, ?_, ?_⟩
        · show cntG K L fu (B + 44) (nI p) (nI w) (nI mi) (nI c) (nI f) (spM M1 b mi y s) = _
          rw [E2 _ hsS, j2, spent_ref (j1.MS hms1) g1 hSM hzk.2, hsy]
        · show mm_A (spM M1 b mi y s) (b + 8) 1 = s
          unfold spM stM
          rw [A_I, A_I, A_A, if_pos rfl, upd_eq, if_pos rfl]
        · have h2 := scr.ms (g := spS S1 (3940 * p) mi y s) j1
          rw [ms_A_A] at h2
          refine iv_scr (iv_fin (M3 := spM M1 b mi y s) (S3 := spS S1 (3940 * p) mi y s) iv g hsS.1 i2.2.1 hme (fun i hi => ?_) (fun j hj => ?_) ?_ (rAll_spent ra hzk.2 (fun k' h1 h2 h3 => ?_) hsb)) h2
          · rw [spS_o (by omega) (by omega) (by omega) (by omega)]
            exact s1o i (by omega)
          · rw [spS_o (by omega) (by omega) (by omega) (by omega)]
            exact s1o _ (by omega)
          · have h23 : hh = 2 ∨ hh = 3 := by
              rcases ok1.2.2.2.2.2.1 with x | x | x
              · exact Or.inl ((nI_eq (by omega) (by omega)).mp (h1o.symm.trans x))
              · exact Or.inr ((nI_eq (by omega) (by omega)).mp (h1o.symm.trans x))
              · refine absurd (ln.mp ?_) Q.2.1
                rw [← l5, x]
                decide
            refine rOk_upd (fun j hj => ?_) (rOk_stand (v := nI y - 1) (s := s) ok1 h1o h23)
            unfold spS
            rw [upd_eq, if_neg (by omega), upd_eq, if_neg (by omega)]
          · have : k' = k := (nI_eq (by omega) (by omega)).mp (h2.symm.trans l4)
            omega
      · rw [if_neg Q] at E1
        obtain ⟨M', j1, j2⟩ := E3 _ m1S
        rw [if_neg Q] at j2
        have hms1 : MS B K L (mm_R (ms_A M1 (B + 45) S1)) := by rw [R_A, m1S.1]; exact iv.1.1
        have hSM : mm_A M' (B + 45) = S1 := j1.S.trans (by rw [A_A, if_pos rfl])
        obtain ⟨s1, s2, -⟩ := ra.2.2.1 1 (by decide) (by decide)
        refine ⟨(mm_A M1 (b + 8) 1, M1), (S1 (3940 * p + 37), M'), E1, m1S, ?_, s2, ?_⟩
        · show cntG K L fu (B + 44) (nI p) (nI w) (nI mi) (nI c) (nI f) M1 = _
          rw [E2 _ m1S, j2]
          unfold f_X12_count_205
          rw [m_of (c := 37) (j1.MS hms1) g1 37 rfl (by decide), hSM]
          rfl
        · exact iv_scr (iv_fin (M3 := M1) (S3 := S1) iv g m1S.1 i2.2.1 (fun a ha => i2.2.2.1 a (by omega)) (fun i hi => s1o i (by omega)) (fun j hj => s1o _ (by omega)) ok1 ra) j1
    · left
      refine ⟨12, by decide, by decide, ?_, fun m hm => ?_⟩
      · show Option.bind (f_X11_within (nI c) (1000000 : Int32)) _ = _
        rw [within_eq, show (1000000 : Int32).toInt = 1000000 from rfl, if_pos h4, within_eq, ec, if_neg h5]
        exact bind_eta _
      · show cntG K L fu (B + 44) (nI p) (nI w) (nI mi) (nI c) w5 m = _
        unfold cntG
        rw [isIn_l (nI c) (A := 0) (C := 1000000) (a := 0) (c := 1000000) rfl rfl, if_pos h4, isIn_l w5 (A := 0) (C := (nI c).toInt64) (a := 0) (c := (c : Int)) rfl (by rw [toI64, ec]), if_neg h5]
        exact bind_eta _
  · left
    refine ⟨12, by decide, by decide, ?_, fun m hm => ?_⟩
    · show Option.bind (f_X11_within w4 (1000000 : Int32)) _ = _
      rw [within_eq, show (1000000 : Int32).toInt = 1000000 from rfl, if_neg h4]
      exact bind_eta _
    · show cntG K L fu (B + 44) (nI p) (nI w) (nI mi) w4 w5 m = _
      unfold cntG
      rw [isIn_l w4 (A := 0) (C := 1000000) (a := 0) (c := 1000000) rfl rfl, if_neg h4]
      exact bind_eta _
