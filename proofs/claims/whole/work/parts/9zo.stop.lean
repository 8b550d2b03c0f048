/-! stop -/
theorem up0 (v : Int32) : ((v.toUInt32 >>> ((16 : Int32).toUInt32 &&& Int32.toUInt32 31)).toInt32) = 0 ↔ 0 ≤ v.toInt ∧ v.toInt ≤ 65535 := by
  have e := pk_ushr v 16 16 (by decide)
  constructor
  · intro h
    rw [h] at e
    have h0 : (0 : Int32).toBitVec.toNat = 0 := rfl
    have hlt : v.toBitVec.toNat < 65536 := by omega
    have ev : v = nI v.toBitVec.toNat := Int32.toBitVec_inj.mp (BitVec.eq_of_toNat_eq (by rw [pk_tn (by omega)]))
    obtain ⟨k, hk, rfl⟩ : ∃ k : Nat, k < 65536 ∧ v = nI k := ⟨_, hlt, ev⟩
    rw [nI_toInt (by omega)]
    omega
  · intro h
    obtain ⟨k, k1, rfl⟩ := n_of (v := v) (m := 65535) h.1 h.2 (by decide)
    rw [pk_ushrN (by omega) 16 16 (by decide), show k / 2 ^ 16 = 0 by omega]
    rfl
set_option maxHeartbeats 4000000 in
theorem st_14 {fu : Nat} (hfu : 5000 ≤ fu) : so_14 Iv fu := by
  intro B n K L M w1 w2 w3 iv
  have hz := bz_or w3
  generalize bz w3 = z at hz ⊢
  refine gated2 iv w1 (kinds := 16) (kind := 4) (by unfold kb; simp) (F2 := fun m => f_X12_stop K L fu (B + 44) w1 w2 z m) ?_ ?_ ?_
  · intro k _ _ h1 h2
    unfold f_X11_stop
    simp only [(shelf_at iv).1, (shelf_at iv).2, Option.bind_some, h1, h2, if_true]
    exact bind_eta _
  · intro k m hk hy
    unfold f_X12_stop
    rw [show f_X12_why K L m (B + 44) w1 4 = some (-(nI k)) from hy]
    refine (sb rfl _).trans ?_
    rw [if_neg hk]
    exact bind_eta _
  · intro p b hh hv hk g hf hy
    subst hv
    obtain ⟨g1, g2, g3, g4, g5, g6, g7, g8, g9, g10, g11⟩ := id g
    have E1 : f_X11_stop K L fu B (nI p) w2 z M = if 0 ≤ w2.toInt ∧ w2.toInt ≤ 65535 then f_X11_stop_37 K L fu B (nI p) w2 z (some b) 0 M else f_X11_refuse K L B (-(nI 12)) M := by
      unfold f_X11_stop
      rw [(shelf_at iv).1]
      refine (sb (shelf_at iv).2 _).trans ?_
      refine (sb hf _).trans ?_
      rw [if_neg (by simp)]
      by_cases hw : 0 ≤ w2.toInt ∧ w2.toInt ≤ 65535
      · rw [if_pos ((up0 w2).mpr hw), if_pos hw]
      · rw [if_neg (fun q => hw ((up0 w2).mp q)), if_neg hw]
        unfold f_X11_stop_37
        rw [if_neg (by decide)]
        exact bind_eta _
    have why0 : ∀ m, sameS B M m → f_X12_why K L m (B + 44) (nI p) 4 = some 0 := hy
    by_cases hw : 0 ≤ w2.toInt ∧ w2.toInt ≤ 65535
    · obtain ⟨u, u1, rfl⟩ := n_of (v := w2) (m := 65535) hw.1 hw.2 (by decide)
      by_cases hb : u / 2 ^ p % 2 = 1
      · refine Or.inl ⟨12, by decide, by decide, ?_, fun m hm => ?_⟩
        · rw [E1, if_pos hw]
          unfold f_X11_stop_37
          rw [if_pos rfl]
          refine (sb (hb_c (show u < 65536 by omega) g1) _).trans ?_
          rw [if_pos hb, if_neg (by decide)]
          exact bind_eta _
        · skip
          unfold f_X12_stop
          refine (sb (why0 m hm) _).trans ?_
          rw [if_pos rfl, isIn_l (nI u) (a := 0) (c := 65535) rfl rfl, if_pos hw]
          refine (sb rfl _).trans ?_
          rw [if_neg (by decide), if_pos ((hb_m (show u < 65536 by omega) g1).mpr hb)]
          exact bind_eta _
      · right
        obtain ⟨S', hS'⟩ : ∃ X, X = upd (mm_A M (B + 45)) (3940 * p + 46) (nI u) := ⟨_, rfl⟩
        obtain ⟨M1, hM1⟩ : ∃ X, X = ms_I M (32 * 9 + 7) b (nI u) := ⟨_, rfl⟩
        have u0 : S' (3940 * p) = mm_A M (B + 45) (3940 * p) := by rw [hS', upd_eq, if_neg (by omega)]
        have un : ∀ k, k ≠ 46 → S' (3940 * p + k) = mm_A M (B + 45) (3940 * p + k) := fun k hk => by rw [hS', upd_eq, if_neg (by omega)]
        have u46 : S' (3940 * p + 46) = nI u := by rw [hS', upd_eq, if_pos rfl]
        have uo : ∀ i, (i < 3940 * p ∨ 3940 * p + 3940 ≤ i) → S' i = mm_A M (B + 45) i := fun i hi => by rw [hS', upd_eq, if_neg (by omega)]
        have rM1 : mm_R M1 = mm_R M := by rw [hM1]; rfl
        have cM1 : mm_C M1 = mm_C M := by rw [hM1]; rfl
        have aM1 : mm_A M1 = mm_A M := by rw [hM1]; rfl
        have ok : rOk S' (3940 * p) := by
          obtain ⟨k1, k2, k3, k4, k5, k6, k7⟩ := g10
          unfold rOk
          rw [u0, un 1 (by decide), un 2 (by decide), un 44 (by decide), un 47 (by decide), un 69 (by decide)]
          exact ⟨k1, k2, k3, ⟨u, by omega, u46⟩, k5, k6, k7⟩
        have rs : rSw M1 b S' (3940 * p) := by
          obtain ⟨s1, s2, s3, s4, s5, s6, s7⟩ := g11.1
          unfold rSw
          rw [u0, un 1 (by decide), un 2 (by decide), un 44 (by decide), un 45 (by decide), un 47 (by decide), u46, hM1, I_I, I_I, I_I, I_I, I_I, I_I, I_I]
          rw [if_neg (by omega), if_neg (by omega), if_neg (by omega), if_neg (by omega), if_neg (by omega), if_pos ⟨rfl, rfl⟩, if_neg (by omega)]
          exact ⟨s1, s2, s3, s4, s5, rfl, s7⟩
        have rA : rAll M1 b S' (3940 * p) := but_Sw (fun c h1 h2 h3 => by rw [hM1]; exact eqAt.I (by omega)) (fun k h1 h2 => un k (by omega)) g11 rs
        have cw : Cw B n K L S' M1 := Cw_upd iv g rM1 cM1 (fun a ha => by rw [hM1]; exact eqAt.I (by omega)) uo u0 ok rA
        obtain ⟨r, N2, f1, f2⟩ := findIn_eq (fu := fu) cw (by omega)
        have E1m : f_X11_stop K L fu B (nI p) (nI u) z M = if r = 0 then some (1, ms_I N2 (32 * 9 + 8) b z) else f_X11_refuse K L B (-(nI 7)) (ms_I N2 (32 * 9 + 7) b (mm_I M (32 * 9 + 7) b)) := by
          rw [E1, if_pos hw]
          unfold f_X11_stop_37
          rw [if_pos rfl]
          refine (sb (hb_c (show u < 65536 by omega) g1) _).trans ?_
          rw [if_neg hb, if_pos rfl]
          refine (rcb g9.1.1 _).trans ?_
          rw [bn_eq, bn_eq, ← hM1, show mm_R M1 (32 * 11 + 4) B = some (B + 39) by rw [rM1]; exact iv.1.2.1.1.2.2.2.2.1, show mm_R M1 (32 * 11 + 0) B = some (B + 1) by rw [rM1]; exact iv.1.2.1.1.2.1]
          refine (rcb iv.1.2.1.2.2.2.2.1.1 _).trans ?_
          refine (sb f1 _).trans ?_
          by_cases y : r = 0
          · rw [if_pos y, if_pos y]
            exact (ub (zb_ok hz) _).trans rfl
          · rw [if_neg y, if_neg y, bn_eq]
            exact bind_eta _
        have w : WF S' := WF_cw cw
        have ref : ∀ X, sameS B M X → ∃ r' N3, fnM (asksS S') B (mp X B (3940 * p + 46) (nI u)) r' N3 ∧ f_X12_stop K L fu (B + 44) (nI p) (nI u) z X = if r' = 0 then some (1, mp N3 B (3940 * p + 47) z) else f_X12_no K L (B + 44) (-(nI 7)) (mp N3 B (3940 * p + 46) (mm_A M (B + 45) (3940 * p + 46))) := by
          intro X hX
          have hms : MS B K L (mm_R X) := by rw [hX.1]; exact iv.1.1
          obtain ⟨r', N3, e1, e2⟩ := isRing_eq (B := B) (K := K) (L := L) (fu := fu) (S := S') w (by omega) (N := mp X B (3940 * p + 46) (nI u)) hms (by rw [mp_S, hX.2, hS'])
          refine ⟨r', N3, e2, ?_⟩
          have hm3 : MS B K L (mm_R N3) := by
            rcases e2 with ⟨_, _, q⟩ | ⟨_, _, _, _, q, _⟩
            · exact q.MS hms
            · exact q.MS hms
          unfold f_X12_stop
          refine (sb (why0 X hX) _).trans ?_
          rw [if_pos rfl, isIn_l (nI u) (a := 0) (c := 65535) rfl rfl, if_pos hw]
          refine (sb rfl _).trans ?_
          rw [if_neg (by decide), if_neg (fun q => hb ((hb_m (show u < 65536 by omega) g1).mp q))]
          refine (sb (m_of (c := 46) hms g1 46 rfl (by decide)) _).trans ?_
          refine (sb (m_to' (c := 46) hms g1 46 rfl (by decide)) _).trans ?_
          refine (sb e1 _).trans ?_
          rw [hX.2]
          by_cases y : r' = 0
          · rw [if_pos y, if_pos y]
            rcases hz with hz | hz
            · rw [if_pos hz, hz]
              unfold f_X12_stop_101
              refine (rcb hms.1.1 _).trans ?_
              exact (sb (m_to' (c := 47) hm3 g1 47 rfl (by decide)) _).trans rfl
            · rw [if_neg (by rw [hz]; decide), hz]
              unfold f_X12_stop_101
              refine (rcb hms.1.1 _).trans ?_
              exact (sb (m_to' (c := 47) hm3 g1 47 rfl (by decide)) _).trans rfl
          · rw [if_neg y, if_neg y]
            refine (sb (m_to' (c := 46) hm3 g1 46 rfl (by decide)) _).trans ?_
            exact bind_eta _
        rcases f2 with ⟨r0, no, sc⟩ | ⟨r1, gg, D, rg, sk, i163, a42⟩
        · have sX : sameS B M (ms_I N2 (32 * 9 + 8) b z) := ⟨sc.1.trans rM1, sc.S.trans (by rw [aM1])⟩
          obtain ⟨r', N3, e2, E2⟩ := ref _ sX
          rcases e2 with ⟨q1, q2, q3⟩ | ⟨q1, gg, D, q2, _⟩
          · refine ⟨(1, ms_I N2 (32 * 9 + 8) b z), (1, mp N3 B (3940 * p + 47) z), by rw [E1m, if_pos r0], ?_, rfl, ?_⟩
            · show f_X12_stop K L fu (B + 44) (nI p) (nI u) z (ms_I N2 (32 * 9 + 8) b z) = _
              rw [E2, if_pos q1]
            · have s2 : scr B (mp (mp (ms_I M1 (32 * 9 + 8) b z) B (3940 * p + 46) (nI u)) B (3940 * p + 47) z) (mp N3 B (3940 * p + 47) z) := scr_mp ((scr_mp (scr_I sc)).tr q3)
              refine iv_scr ?_ s2
              have v0 : upd S' (3940 * p + 47) z (3940 * p) = mm_A M (B + 45) (3940 * p) := by rw [upd_eq, if_neg (by omega)]; exact u0
              have vn : ∀ k, k ≠ 47 → upd S' (3940 * p + 47) z (3940 * p + k) = S' (3940 * p + k) := fun k hk => by rw [upd_eq, if_neg (by omega)]
              have v47 : upd S' (3940 * p + 47) z (3940 * p + 47) = z := by rw [upd_eq, if_pos rfl]
              refine iv_upd2 iv g (S' := upd S' (3940 * p + 47) z) rM1 cM1 (fun a h1 h2 => ?_) ?_ (fun i hi => by rw [upd_eq, if_neg (by omega)]; exact uo i hi) v0 ?_ ?_ ?_
              · rw [hM1]
                exact (((eqAt.I (by omega)).tr (eqAt.I (by omega))).tr (mp_e _ _ _ _ h2)).tr (mp_e _ _ _ _ h2)
              · rw [mp_S, mp_S, A_I, aM1, ← hS']
              · refine (noRing_of no).fr (fun p' hp' => ⟨?_, ?_, ?_⟩)
                · rw [upd_eq, if_neg (by omega)]
                · rw [upd_eq, if_neg (by omega)]
                · rw [upd_eq, if_neg (by omega)]
              · obtain ⟨k1, k2, k3, k4, k5, k6, k7⟩ := ok
                have v0' : upd S' (3940 * p + 47) z (3940 * p) = S' (3940 * p) := by rw [upd_eq, if_neg (by omega)]
                unfold rOk
                rw [v0', vn 1 (by decide), vn 2 (by decide), vn 44 (by decide), vn 46 (by decide), v47, vn 69 (by decide)]
                exact ⟨k1, k2, k3, k4, hz, k6, k7⟩
              · refine but_Sw (M := M1) (S := S') (fun c h1 h2 h3 => ?_) (fun k h1 h2 => vn k (by omega)) rA ?_
                · exact ((eqAt.I (by omega)).tr (mp_e _ _ _ _ (by omega))).tr (mp_e _ _ _ _ (by omega))
                · obtain ⟨s1, s2, s3, s4, s5, s6, s7⟩ := rs
                  have v0' : upd S' (3940 * p + 47) z (3940 * p) = S' (3940 * p) := by rw [upd_eq, if_neg (by omega)]
                  unfold rSw
                  rw [v0', vn 1 (by decide), vn 2 (by decide), vn 44 (by decide), vn 45 (by decide), vn 46 (by decide), v47, mp_I, mp_I, I_I, I_I, I_I, I_I, I_I, I_I, I_I]
                  rw [if_neg (by omega), if_neg (by omega), if_neg (by omega), if_neg (by omega), if_neg (by omega), if_neg (by omega), if_pos ⟨rfl, rfl⟩]
                  exact ⟨s1, s2, s3, s4, s5, s6, rfl⟩
          · exact absurd q2.cy (no gg q2.1)
        · obtain ⟨M3, hM3⟩ : ∃ X, X = ms_I N2 (32 * 9 + 7) b (mm_I M (32 * 9 + 7) b) := ⟨_, rfl⟩
          have k3 : scK B M M3 := by
            have := scK_I (x := 32 * 9 + 7) (c := b) (v := mm_I M (32 * 9 + 7) b) sk
            rw [← hM3, hM1, back_1] at this
            exact this
          have sX : sameS B M (bump M3 (B + 43) 7) := ⟨k3.1, by rw [sameS_bump.2]; exact k3.S⟩
          obtain ⟨r', N3, e2, E2⟩ := ref _ sX
          have hr0 : ¬ r = 0 := by rw [r1]; decide
          have cs3 : CS B K L (mm_R M3) (mm_C M3) := by rw [k3.1, k3.2.1]; exact iv.1.2.1
          rcases e2 with ⟨q1, q2, q3⟩ | ⟨q1, gg', D', q2, q3, q4, q5, q6⟩
          · exact absurd rg.cy (q2 gg rg.1)
          · obtain ⟨eg, eD⟩ := q2.un rg
            subst eg eD
            have hr0' : ¬ r' = 0 := by rw [q1]; decide
            have ex : mp N3 B (3940 * p + 46) (mm_A M (B + 45) (3940 * p + 46)) = mp N3 B (3940 * p + 46) (mm_A (bump M3 (B + 43) 7) (B + 45) (3940 * p + 46)) := by rw [sX.2]
            have hms : MS B K L (mm_R (mp N3 B (3940 * p + 46) (mm_A M (B + 45) (3940 * p + 46)))) := q3.MS (show MS B K L (mm_R (bump M3 (B + 43) 7)) by rw [sX.1]; exact iv.1.1)
            refine ⟨(-(nI 7), bump M3 (B + 43) 7), (-(nI 7), bump (mp N3 B (3940 * p + 46) (mm_A M (B + 45) (3940 * p + 46))) (B + 49) 7), ?_, ?_, rfl, ?_⟩
            · rw [E1m, if_neg hr0, ← hM3]
              exact refuse_eq cs3 (by decide) (by decide)
            · show f_X12_stop K L fu (B + 44) (nI p) (nI u) z (bump M3 (B + 43) 7) = _
              rw [E2, if_neg hr0']
              exact no_eq hms (by decide)
            · refine ring_end (M3 := M3) (D := D') (w := wlk (asksS S') gg' D') iv k3 ?_ ?_ q2.2.2.1 (fun i hi => (wlk_ok q2.1 q2.2.2.2.1 i hi).1) ?_ ?_ q5 ?_
              · have := scK_mp (i := 3940 * p + 46) (v := mm_A (bump M3 (B + 43) 7) (B + 45) (3940 * p + 46)) q3
                rw [back_m, ← ex] at this
                exact this
              · refine ⟨?_, q4.2⟩
                rw [mp_A _ _ _ _ (by omega), q4.1, mp_A _ _ _ _ (by omega)]
              · rw [hM3, I_I, if_neg (by omega)]
                exact i163
              · intro i hi
                rw [hM3, A_I]
                exact a42 i hi
              · intro i hi
                rw [mp_A _ _ _ _ (by omega)]
                exact q6 i hi
    · refine Or.inl ⟨12, by decide, by decide, by rw [E1, if_neg hw], fun m hm => ?_⟩
      unfold f_X12_stop
      refine (sb (why0 m hm) _).trans ?_
      rw [if_pos rfl, isIn_l w2 (a := 0) (c := 65535) rfl rfl, if_neg hw]
      refine (sb rfl _).trans ?_
      rw [if_pos rfl]
      exact bind_eta _
