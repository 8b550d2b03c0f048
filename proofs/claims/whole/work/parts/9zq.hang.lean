/-! hang -/
theorem WF_45 {S S' : Nat → Int32} {p : Nat} (h : ∀ i, i ≠ 3940 * p + 45 → S' i = S i) (w : WF S) : WF S' := by
  intro q hq
  obtain ⟨hh, h6, h0, ho⟩ := w q hq
  refine ⟨hh, h6, by rw [h _ (by omega)]; exact h0, fun h1 h2 => ?_⟩
  obtain ⟨ok, k, k1, k2⟩ := ho h1 h2
  exact ⟨rOk_upd (fun j hj => h _ (by omega)) ok, k, k1, by rw [h _ (by omega)]; exact k2⟩
set_option maxHeartbeats 4000000 in
theorem st_13 {fu : Nat} (hfu : 5000 ≤ fu) : so_13 Iv fu := by
  intro B n K L M w1 w2 w3 iv
  rcases hgate (fu := fu) iv w1 w2 w3 with ⟨k, k1, k2, e1, e2⟩ | ⟨p, b, hh, e0, hk, g, hw2, e1, e2⟩
  · exact fin_no iv k k1 k2 (F2 := fun m => f_X12_hang K L fu (B + 44) w1 w2 w3 m) e1 (e2 _ sameS_bump)
  · subst e0
    obtain ⟨g1, g2, g3, g4, g5, g6, g7, g8, g9, g10, g11⟩ := id g
    obtain ⟨way, hway⟩ : ∃ X : Int32, X = if w2 = -1 then 0 else w3 := ⟨_, rfl⟩
    rw [← hway] at e1
    obtain ⟨S1, hS1⟩ : ∃ X, X = upd (mm_A M (B + 45)) (3940 * p + 44) w2 := ⟨_, rfl⟩
    obtain ⟨S', hS'⟩ : ∃ X, X = upd S1 (3940 * p + 45) w3 := ⟨_, rfl⟩
    obtain ⟨M1, hM1⟩ : ∃ X, X = ms_I (ms_I M (32 * 9 + 5) b w2) (32 * 9 + 6) b way := ⟨_, rfl⟩
    have u0 : S' (3940 * p) = mm_A M (B + 45) (3940 * p) := by rw [hS', upd_eq, if_neg (by omega), hS1, upd_eq, if_neg (by omega)]
    have un : ∀ k, k ≠ 44 → k ≠ 45 → S' (3940 * p + k) = mm_A M (B + 45) (3940 * p + k) := fun k h1 h2 => by rw [hS', upd_eq, if_neg (by omega), hS1, upd_eq, if_neg (by omega)]
    have u44 : S' (3940 * p + 44) = w2 := by rw [hS', upd_eq, if_neg (by omega), hS1, upd_eq, if_pos rfl]
    have u45 : S' (3940 * p + 45) = w3 := by rw [hS', upd_eq, if_pos rfl]
    have uo : ∀ i, (i < 3940 * p ∨ 3940 * p + 3940 ≤ i) → S' i = mm_A M (B + 45) i := fun i hi => by rw [hS', upd_eq, if_neg (by omega), hS1, upd_eq, if_neg (by omega)]
    have eA : asksS S1 = asksS S' := asks_cg (fun t => by rw [hS', upd_eq, if_neg (by omega)]) (fun t => by rw [hS', upd_eq, if_neg (by omega)]) (fun t => by rw [hS', upd_eq, if_neg (by omega)])
    have rM1 : mm_R M1 = mm_R M := by rw [hM1]; rfl
    have cM1 : mm_C M1 = mm_C M := by rw [hM1]; rfl
    have aM1 : mm_A M1 = mm_A M := by rw [hM1]; rfl
    have ok : rOk S' (3940 * p) := by
      obtain ⟨k1, k2, k3, k4, k5, k6, k7⟩ := g10
      unfold rOk
      rw [u0, un 1 (by decide) (by decide), un 2 (by decide) (by decide), un 46 (by decide) (by decide), un 47 (by decide) (by decide), un 69 (by decide) (by decide), u44]
      refine ⟨k1, k2, ?_, k4, k5, k6, ?_⟩
      · rcases hw2 with h | ⟨q, h1, h2⟩
        · exact Or.inl h
        · exact Or.inr ⟨q, h1, h2⟩
      · rw [g4]
        have : hh = 4 ∨ hh = 5 := by unfold okk at hk; omega
        rcases this with h | h
        · exact Or.inl (by rw [h])
        · exact Or.inr (Or.inl (by rw [h]))
    have rs : rSw M1 b S' (3940 * p) := by
      obtain ⟨s1, s2, s3, s4, s5, s6, s7⟩ := g11.1
      have i0 : ∀ x, x ≠ 293 → x ≠ 294 → mm_I M1 x b = mm_I M x b := fun x h1 h2 => by rw [hM1, I_I, if_neg (by omega), I_I, if_neg (by omega)]
      unfold rSw
      rw [u0, un 1 (by decide) (by decide), un 2 (by decide) (by decide), un 46 (by decide) (by decide), un 47 (by decide) (by decide), u44, u45, i0 288 (by decide) (by decide), i0 289 (by decide) (by decide), i0 290 (by decide) (by decide), i0 295 (by decide) (by decide), i0 296 (by decide) (by decide)]
      refine ⟨s1, s2, s3, ?_, fun h => ?_, s6, s7⟩
      · rw [hM1, I_I, if_neg (by omega), I_I, if_pos ⟨rfl, rfl⟩]
      · rw [hM1, I_I, if_pos ⟨rfl, rfl⟩, hway, if_neg h]
    have rA : rAll M1 b S' (3940 * p) := but_Sw (fun c h1 h2 h3 => by rw [hM1]; exact (eqAt.I (by omega)).tr (eqAt.I (by omega))) (fun k h1 h2 => un k (by omega) (by omega)) g11 rs
    have cw : Cw B n K L S' M1 := Cw_upd iv g rM1 cM1 (fun a ha => by rw [hM1]; exact (eqAt.I (by omega)).tr (eqAt.I (by omega))) uo u0 ok rA
    obtain ⟨r, N2, f1, f2⟩ := findIn_eq (fu := fu) cw (by omega)
    have E1 : f_X11_hang K L fu B (nI p) w2 w3 M = if r = 0 then some (1, N2) else f_X11_refuse K L B (-(nI 7)) (ms_I (ms_I N2 (32 * 9 + 5) b (mm_I M 293 b)) (32 * 9 + 6) b (mm_I M 294 b)) := by
      rw [e1]
      unfold f_X11_hang_97
      refine (rcb g9.1.1 _).trans ?_
      refine (sb (show f_X9_hangOn K L b w2 way M = some M1 by rw [hM1]; rfl) _).trans ?_
      rw [show mm_R M1 (32 * 11 + 4) B = some (B + 39) by rw [rM1]; exact iv.1.2.1.1.2.2.2.2.1, show mm_R M1 (32 * 11 + 0) B = some (B + 1) by rw [rM1]; exact iv.1.2.1.1.2.1]
      refine (rcb iv.1.2.1.2.2.2.2.1.1 _).trans ?_
      refine (sb f1 _).trans ?_
      by_cases y : r = 0
      · rw [if_pos y, if_pos y]
      · rw [if_neg y, if_neg y]
        refine (rcb g9.1.1 _).trans ?_
        refine (sb (show f_X9_hangOn K L b (mm_I M 293 b) (mm_I M 294 b) N2 = some (ms_I (ms_I N2 (32 * 9 + 5) b (mm_I M 293 b)) (32 * 9 + 6) b (mm_I M 294 b)) from rfl) _).trans ?_
        exact bind_eta _
    have w : WF S1 := WF_45 (p := p) (fun i hi => by rw [hS', upd_eq, if_neg hi]) (WF_cw cw)
    have ref : ∀ X, sameS B M X → ∃ r' N3, fnM (asksS S') B (mp X B (3940 * p + 44) w2) r' N3 ∧ f_X12_hang K L fu (B + 44) (nI p) w2 w3 X = if r' = 0 then some (1, mp N3 B (3940 * p + 45) w3) else f_X12_no K L (B + 44) (-(nI 7)) (mp N3 B (3940 * p + 44) (mm_A M (B + 45) (3940 * p + 44))) := by
      intro X hX
      have hms : MS B K L (mm_R X) := by rw [hX.1]; exact iv.1.1
      obtain ⟨r', N3, q1, q2⟩ := isRing_eq (B := B) (K := K) (L := L) (fu := fu) (S := S1) w (by omega) (N := mp X B (3940 * p + 44) w2) hms (by rw [mp_S, hX.2, hS1])
      rw [eA] at q2
      refine ⟨r', N3, q2, ?_⟩
      have hm3 : MS B K L (mm_R N3) := by
        rcases q2 with ⟨_, _, q⟩ | ⟨_, _, _, _, q, _⟩
        · exact q.MS hms
        · exact q.MS hms
      rw [e2 X hX]
      unfold f_X12_hang_97
      refine (sb (m_of (c := 44) hms g1 44 rfl (by decide)) _).trans ?_
      refine (sb (m_to' (c := 44) hms g1 44 rfl (by decide)) _).trans ?_
      refine (sb q1 _).trans ?_
      rw [hX.2]
      by_cases y : r' = 0
      · rw [if_pos y, if_pos y]
        exact (sb (m_to' (c := 45) hm3 g1 45 rfl (by decide)) _).trans rfl
      · rw [if_neg y, if_neg y]
        refine (sb (m_to' (c := 44) hm3 g1 44 rfl (by decide)) _).trans ?_
        exact bind_eta _
    rcases f2 with ⟨r0, no, sc⟩ | ⟨r1, gg, D, rg, sk, i163, a42⟩
    · have sX : sameS B M N2 := ⟨sc.1.trans rM1, sc.S.trans (by rw [aM1])⟩
      obtain ⟨r', N3, q, E2⟩ := ref _ sX
      rcases q with ⟨q1, q2, q3⟩ | ⟨q1, gg, D, q2, _⟩
      · refine ⟨(1, N2), (1, mp N3 B (3940 * p + 45) w3), by rw [E1, if_pos r0], ?_, rfl, ?_⟩
        · show f_X12_hang K L fu (B + 44) (nI p) w2 w3 N2 = _
          rw [E2, if_pos q1]
        · have s2 : scr B (mp (mp M1 B (3940 * p + 44) w2) B (3940 * p + 45) w3) (mp N3 B (3940 * p + 45) w3) := scr_mp ((scr_mp sc).tr q3)
          refine iv_scr ?_ s2
          refine iv_upd2 iv g (S' := S') rM1 cM1 (fun a h1 h2 => ?_) ?_ uo u0 (noRing_of no) ok ?_
          · rw [hM1]
            exact (((eqAt.I (by omega)).tr (eqAt.I (by omega))).tr (mp_e _ _ _ _ h2)).tr (mp_e _ _ _ _ h2)
          · rw [mp_S, mp_S, aM1, ← hS1, ← hS']
          · exact rA.fr (fun c h1 h2 => (mp_e _ _ _ _ (by omega)).tr (mp_e _ _ _ _ (by omega))) (fun _ _ => rfl)
      · exact absurd q2.cy (no gg q2.1)
    · obtain ⟨M3, hM3⟩ : ∃ X, X = ms_I (ms_I N2 (32 * 9 + 5) b (mm_I M 293 b)) (32 * 9 + 6) b (mm_I M 294 b) := ⟨_, rfl⟩
      have k3 : scK B M M3 := by
        have := scK_I (x := 32 * 9 + 6) (c := b) (v := mm_I M 294 b) (scK_I (x := 32 * 9 + 5) (c := b) (v := mm_I M 293 b) sk)
        rw [← hM3, hM1, back_2 M (32 * 9 + 5) (32 * 9 + 6) b w2 way] at this
        exact this
      have sX : sameS B M (bump M3 (B + 43) 7) := ⟨k3.1, by rw [sameS_bump.2]; exact k3.S⟩
      obtain ⟨r', N3, q, E2⟩ := ref _ sX
      have hr0 : ¬ r = 0 := by rw [r1]; decide
      have cs3 : CS B K L (mm_R M3) (mm_C M3) := by rw [k3.1, k3.2.1]; exact iv.1.2.1
      rcases q with ⟨q1, q2, q3⟩ | ⟨q1, gg', D', q2, q3, q4, q5, q6⟩
      · exact absurd rg.cy (q2 gg rg.1)
      · obtain ⟨eg, eD⟩ := q2.un rg
        subst eg eD
        have hr0' : ¬ r' = 0 := by rw [q1]; decide
        have ex : mp N3 B (3940 * p + 44) (mm_A M (B + 45) (3940 * p + 44)) = mp N3 B (3940 * p + 44) (mm_A (bump M3 (B + 43) 7) (B + 45) (3940 * p + 44)) := by rw [sX.2]
        have hms : MS B K L (mm_R (mp N3 B (3940 * p + 44) (mm_A M (B + 45) (3940 * p + 44)))) := q3.MS (show MS B K L (mm_R (bump M3 (B + 43) 7)) by rw [sX.1]; exact iv.1.1)
        refine ⟨(-(nI 7), bump M3 (B + 43) 7), (-(nI 7), bump (mp N3 B (3940 * p + 44) (mm_A M (B + 45) (3940 * p + 44))) (B + 49) 7), ?_, ?_, rfl, ?_⟩
        · rw [E1, if_neg hr0, ← hM3]
          exact refuse_eq cs3 (by decide) (by decide)
        · show f_X12_hang K L fu (B + 44) (nI p) w2 w3 (bump M3 (B + 43) 7) = _
          rw [E2, if_neg hr0']
          exact no_eq hms (by decide)
        · refine ring_end (M3 := M3) (D := D') (w := wlk (asksS S') gg' D') iv k3 ?_ ?_ q2.2.2.1 (fun i hi => (wlk_ok q2.1 q2.2.2.2.1 i hi).1) ?_ ?_ q5 ?_
          · have := scK_mp (i := 3940 * p + 44) (v := mm_A (bump M3 (B + 43) 7) (B + 45) (3940 * p + 44)) q3
            rw [back_m, ← ex] at this
            exact this
          · refine ⟨?_, q4.2⟩
            rw [mp_A _ _ _ _ (by omega), q4.1, mp_A _ _ _ _ (by omega)]
          · rw [hM3, I_I, if_neg (by omega), I_I, if_neg (by omega)]
            exact i163
          · intro i hi
            rw [hM3, A_I, A_I]
            exact a42 i hi
          · intro i hi
            rw [mp_A _ _ _ _ (by omega)]
            exact q6 i hi
