/-! a looser gate; rule, shares, trialTold -/
theorem gated2 {B n : Nat} {K L : Nat → Nat} {M : Mm} (iv : Iv B n K L M) (v : Int32) {kinds : Int32} {kind : Nat} (hk : kb kinds kind) {F1 : Option (Int32 × Mm)} {F2 : Mm → Option (Int32 × Mm)}
    (hn : ∀ k, 2 ≤ k → k ≤ 13 → f_X8_find K L M (B + 1) v kinds = some none → f_X11_refuseAt K L B v kinds M = f_X11_refuse K L B (-(nI k)) M → F1 = f_X11_refuse K L B (-(nI k)) M)
    (hm : ∀ k m, ¬ (-(nI k)) = 0 → f_X12_why K L m (B + 44) v (nI kind) = some (-(nI k)) → F2 m = f_X12_no K L (B + 44) (-(nI k)) m)
    (hG : ∀ p b hh, v = nI p → okk hh kind → Got B K L M p b hh → f_X8_find K L M (B + 1) v kinds = some (some b) → (∀ m, sameS B M m → f_X12_why K L m (B + 44) v (nI kind) = some 0) → (∃ k, 2 ≤ k ∧ k ≤ 13 ∧ F1 = f_X11_refuse K L B (-(nI k)) M ∧ ∀ m, sameS B M m → F2 m = f_X12_no K L (B + 44) (-(nI k)) m) ∨ ∃ x1 x2, F1 = some x1 ∧ F2 x1.2 = some x2 ∧ x1.1 = x2.1 ∧ Iv B n K L x2.2) :
    ∃ x1 x2, F1 = some x1 ∧ F2 x1.2 = some x2 ∧ x1.1 = x2.1 ∧ Iv B n K L x2.2 := by
  rcases gate iv v hk with ⟨k, k1, k2, h1, h2, h3⟩ | ⟨p, b, hh, h1, h2, h3, h4, h5⟩
  · exact fin_no iv k k1 k2 (hn k k1 k2 h1 h2) (hm k _ (ng_ne k1 k2) (h3 _ sameS_bump))
  · rcases hG p b hh h1 h2 h3 h4 h5 with ⟨k, k1, k2, q1, q2⟩ | q
    · exact fin_no iv k k1 k2 q1 (q2 _ sameS_bump)
    · exact q
theorem add_eq {K L : Nat → Nat} {M : Mm} {b k : Nat} {C : Nat → Nat → Option Nat} (h : BS K L (mm_R M) C b) (hk : k < 6) (hs : mm_I M 192 (b + 1) = nI k) (v1 v2 v3 v4 : Int32) :
    f_X6_add K L (b + 1) v1 v2 v3 v4 M = some (nI (k + 1), ms_I (ms_A (ms_A (ms_A (ms_A M (b + 2) (upd (mm_A M (b + 2)) k v1)) (b + 3) (upd (mm_A M (b + 3)) k v2)) (b + 4) (upd (mm_A M (b + 4)) k v3)) (b + 5) (upd (mm_A M (b + 5)) k v4)) 192 (b + 1) (nI (k + 1))) := by
  obtain ⟨-, ⟨-, r1, r2, r3, r4, q1, q2, q3, q4, q5, q6, q7, q8⟩, -⟩ := h
  unfold f_X6_add
  simp only [show (32 * 6 + 0 : Nat) = 192 from rfl, show (32 * 6 + 1 : Nat) = 193 from rfl, show (32 * 6 + 2 : Nat) = 194 from rfl, show (32 * 6 + 3 : Nat) = 195 from rfl, show (32 * 6 + 4 : Nat) = 196 from rfl, hs, r1, r2, r3, r4, I_A, R_A, bn_eq, Option.bind_some, rx_ok q1 q2 hk (by decide), rx_ok q3 q4 hk (by decide), rx_ok q5 q6 hk (by decide), rx_ok q7 q8 hk (by decide), nI_clamp (show k < 2 ^ 31 by omega), I_I, and_self, if_true, nI_1]
  rw [if_pos (show nI k < (6 : Int32) from nI_lt hk (by decide))]
  simp [A_A]
/-- rule -/
theorem st_9 (fu : Nat) : so_9 Iv fu := by
  intro B n K L M w1 w2 w3 w4 w5 iv
  by_cases hw : (0 ≤ w2.toInt ∧ w2.toInt ≤ 2) ∧ (0 ≤ w5.toInt ∧ w5.toInt ≤ 7)
  · obtain ⟨hw1, hw2⟩ := hw
    have e1 : f_X11_rule K L B w1 w2 w3 w4 w5 M = Option.bind (f_X8_find K L M (B + 1) w1 31) (fun x7 => if x7 = none then Option.bind (f_X11_refuseAt K L B w1 31 M) (fun x17 => some (x17.1, x17.2)) else Option.bind (rc K x7 9) (fun a9 => Option.bind (rc K (mm_R M (32 * 9 + 3) a9) 6) (fun a11 => Option.bind (f_X6_add K L a11 w2 w3 w4 w5 M) (fun x13 => Option.bind (f_X11_answer K L B (x13.1) x13.2) (fun x15 => some (x15.1, x15.2)))))) := by
      unfold f_X11_rule
      rw [within_eq, show (2 : Int32).toInt = 2 from rfl, if_pos hw1]
      simp only [Option.bind_some]
      rw [if_neg (by decide), within_eq, show (7 : Int32).toInt = 7 from rfl, if_pos hw2]
      simp only [Option.bind_some]
      rw [if_neg (by decide), (shelf_at iv).1, (shelf_at iv).2]
      rfl
    have e2 : ∀ m, f_X12_rule K L (B + 44) w1 w2 w3 w4 w5 m = Option.bind (f_X12_why K L m (B + 44) w1 (nI 0)) (fun x5 => f_X12_rule_36 K L (B + 44) w1 w2 w3 w4 w5 x5 m) := by
      intro m
      unfold f_X12_rule
      rw [isIn_l w2 (a := 0) (c := 2) rfl rfl, if_pos hw1]
      simp only [Option.bind_some]
      rw [if_neg (by decide), isIn_l w5 (a := 0) (c := 7) rfl rfl, if_pos hw2]
      simp only [Option.bind_some]
      rw [if_neg (by decide)]
      rfl
    obtain ⟨c, c1, rfl⟩ := n_of (v := w2) (m := 2) hw1.1 hw1.2 (by decide)
    obtain ⟨y, y1, rfl⟩ := n_of (v := w5) (m := 7) hw2.1 hw2.2 (by decide)
    refine gated2 iv w1 (kinds := 31) (kind := 0) (by unfold kb; simp) (F2 := fun m => f_X12_rule K L (B + 44) w1 (nI c) w3 w4 (nI y) m) ?_ ?_ ?_
    · intro k _ _ h1 h2
      rw [e1, h1, h2]
      simp only [Option.bind_some, if_true]
      exact bind_eta _
    · intro k m hk hy
      rw [e2, hy]
      simp only [Option.bind_some, f_X12_rule_36]
      rw [if_neg hk]
      exact bind_eta _
    · intro p b hh hv hk g hf hy
      subst hv
      obtain ⟨g1, g2, g3, g4, g5, g6, g7, g8, g9, g10, g11⟩ := id g
      have hc1 : rc K (some b) 9 = some b := rc_ok g9.1.1
      have hr : mm_R M (32 * 9 + 3) b = some (b + 1) := g9.1.2.1
      have hc2 : rc K (some (b + 1)) 6 = some (b + 1) := rc_ok g9.2.1.1
      obtain ⟨k, k1, k2, k3, k4⟩ := g11.2.1
      rcases Nat.lt_or_ge k 6 with hk6 | hk6
      · right
        refine ⟨(nI (k + 1), ms_I (ms_A (ms_A (ms_A (ms_A M (b + 2) (upd (mm_A M (b + 2)) k (nI c))) (b + 3) (upd (mm_A M (b + 3)) k w3)) (b + 4) (upd (mm_A M (b + 4)) k w4)) (b + 5) (upd (mm_A M (b + 5)) k (nI y))) 192 (b + 1) (nI (k + 1))), (nI (k + 1), mp (mp (mp (mp (mp (ms_I (ms_A (ms_A (ms_A (ms_A M (b + 2) (upd (mm_A M (b + 2)) k (nI c))) (b + 3) (upd (mm_A M (b + 3)) k w3)) (b + 4) (upd (mm_A M (b + 4)) k w4)) (b + 5) (upd (mm_A M (b + 5)) k (nI y))) 192 (b + 1) (nI (k + 1))) B (3940 * p + (4 + 4 * k)) (nI c)) B (3940 * p + (4 + 4 * k + 1)) w3) B (3940 * p + (4 + 4 * k + 2)) w4) B (3940 * p + (4 + 4 * k + 3)) (nI y)) B (3940 * p + 3) (nI (k + 1))), ?_, ?_, rfl, ?_⟩
        · rw [e1, hf]
          simp only [Option.bind_some, hc1, hr, hc2, add_eq g9 hk6 k3, f_X11_answer]
          rw [if_neg (by simp), if_pos (nI_pos' (by omega))]
          rfl
        · dsimp only
          generalize hM1 : ms_I (ms_A (ms_A (ms_A (ms_A M (b + 2) (upd (mm_A M (b + 2)) k (nI c))) (b + 3) (upd (mm_A M (b + 3)) k w3)) (b + 4) (upd (mm_A M (b + 4)) k w4)) (b + 5) (upd (mm_A M (b + 5)) k (nI y))) 192 (b + 1) (nI (k + 1)) = M1
          have hsS : sameS B M M1 := by
            subst hM1
            exact ⟨rfl, by simp only [A_I, A_A]; rw [if_neg (by omega), if_neg (by omega), if_neg (by omega), if_neg (by omega)]⟩
          have hms : MS B K L (mm_R M1) := by rw [hsS.1]; exact iv.1.1
          rw [e2, hy M1 hsS]
          simp only [Option.bind_some, f_X12_rule_36, if_true, m_of (c := 3) hms g1 3 rfl (by decide), hsS.2, k2, bn_eq]
          rw [if_neg (fun e => by have := (nI_eq (a := k) (b := 6) (by omega) (by decide)).mp e; omega), show (4 : Int32) + 4 * nI k = nI (4 + 4 * k) by rw [show (4 : Int32) = nI 4 from rfl, pk_mul, nI_add]]
          rw [m_to' (c := nI (4 + 4 * k)) hms g1 (4 + 4 * k) rfl (by omega)]
          simp only [Option.bind_some]
          rw [m_to' (M := mp M1 B (3940 * p + (4 + 4 * k)) (nI c)) (c := nI (4 + 4 * k) + 1) hms g1 (4 + 4 * k + 1) (nI_1 _) (by omega)]
          simp only [Option.bind_some]
          rw [m_to' (M := mp (mp M1 B (3940 * p + (4 + 4 * k)) (nI c)) B (3940 * p + (4 + 4 * k + 1)) w3) (c := nI (4 + 4 * k) + 2) hms g1 (4 + 4 * k + 2) (nI_add _ 2) (by omega)]
          simp only [Option.bind_some]
          rw [m_to' (M := mp (mp (mp M1 B (3940 * p + (4 + 4 * k)) (nI c)) B (3940 * p + (4 + 4 * k + 1)) w3) B (3940 * p + (4 + 4 * k + 2)) w4) (c := nI (4 + 4 * k) + 3) hms g1 (4 + 4 * k + 3) (nI_add _ 3) (by omega)]
          simp only [Option.bind_some, nI_1]
          rw [m_to' (M := mp (mp (mp (mp M1 B (3940 * p + (4 + 4 * k)) (nI c)) B (3940 * p + (4 + 4 * k + 1)) w3) B (3940 * p + (4 + 4 * k + 2)) w4) B (3940 * p + (4 + 4 * k + 3)) (nI y)) (c := 3) hms g1 3 rfl (by decide)]
          rfl
        · refine iv_upd iv g rfl rfl (fun a h1 h2 => ?_) (S' := upd (upd (upd (upd (upd (mm_A M (B + 45)) (3940 * p + (4 + 4 * k)) (nI c)) (3940 * p + (4 + 4 * k + 1)) w3) (3940 * p + (4 + 4 * k + 2)) w4) (3940 * p + (4 + 4 * k + 3)) (nI y)) (3940 * p + 3) (nI (k + 1))) ?_ ?_ ?_ ?_ ?_ ?_ ?_
          · exact (((((((((eqAt.A (by omega)).tr (eqAt.A (by omega))).tr (eqAt.A (by omega))).tr (eqAt.A (by omega))).tr (eqAt.I (by omega))).tr (mp_e _ _ _ _ h2)).tr (mp_e _ _ _ _ h2)).tr (mp_e _ _ _ _ h2)).tr (mp_e _ _ _ _ h2)).tr (mp_e _ _ _ _ h2)
          · simp only [mp_S, A_I, A_A]
            rw [if_neg (by omega), if_neg (by omega), if_neg (by omega), if_neg (by omega)]
          · intro i hi
            simp only [upd_eq]
            rw [if_neg (by omega), if_neg (by omega), if_neg (by omega), if_neg (by omega), if_neg (by omega)]
          · simp only [upd_eq]
            rw [if_neg (by omega), if_neg (by omega), if_neg (by omega), if_neg (by omega), if_neg (by omega)]
          · simp only [upd_eq]
            rw [if_neg (by omega), if_neg (by omega), if_neg (by omega), if_neg (by omega), if_neg (by omega)]
          · simp only [upd_eq]
            rw [if_neg (by omega), if_neg (by omega), if_neg (by omega), if_neg (by omega), if_neg (by omega)]
          · refine rOk_upd (fun j hj => ?_) g10
            simp only [upd_eq]
            rw [if_neg (by omega), if_neg (by omega), if_neg (by omega), if_neg (by omega), if_neg (by omega)]
          · refine but_Ru (fun a h1 h2 h3 => ?_) (fun j h1 h2 => ?_) g11 ?_
            · exact (((((((((eqAt.A (by omega)).tr (eqAt.A (by omega))).tr (eqAt.A (by omega))).tr (eqAt.A (by omega))).tr (eqAt.I (by omega))).tr (mp_e _ _ _ _ (by omega))).tr (mp_e _ _ _ _ (by omega))).tr (mp_e _ _ _ _ (by omega))).tr (mp_e _ _ _ _ (by omega))).tr (mp_e _ _ _ _ (by omega))
            · simp only [upd_eq]
              rw [if_neg (by omega), if_neg (by omega), if_neg (by omega), if_neg (by omega), if_neg (by omega)]
            · refine ⟨k + 1, by omega, by rw [upd_eq, if_pos rfl], by simp [mp_I, I_I], fun i hi => ?_⟩
              have hb5 : ∀ q, q ≤ 5 → b + q ≠ B + 45 := fun q _ => by omega
              rw [mp_A _ _ _ _ (hb5 2 (by decide)), mp_A _ _ _ _ (hb5 2 (by decide)), mp_A _ _ _ _ (hb5 2 (by decide)), mp_A _ _ _ _ (hb5 2 (by decide)), mp_A _ _ _ _ (hb5 2 (by decide)), mp_A _ _ _ _ (hb5 3 (by decide)), mp_A _ _ _ _ (hb5 3 (by decide)), mp_A _ _ _ _ (hb5 3 (by decide)), mp_A _ _ _ _ (hb5 3 (by decide)), mp_A _ _ _ _ (hb5 3 (by decide)), mp_A _ _ _ _ (hb5 4 (by decide)), mp_A _ _ _ _ (hb5 4 (by decide)), mp_A _ _ _ _ (hb5 4 (by decide)), mp_A _ _ _ _ (hb5 4 (by decide)), mp_A _ _ _ _ (hb5 4 (by decide)), mp_A _ _ _ _ (hb5 5 (by decide)), mp_A _ _ _ _ (hb5 5 (by decide)), mp_A _ _ _ _ (hb5 5 (by decide)), mp_A _ _ _ _ (hb5 5 (by decide)), mp_A _ _ _ _ (hb5 5 (by decide))]
              have eS : ∀ j, 4 ≤ j → upd (upd (upd (upd (upd (mm_A M (B + 45)) (3940 * p + (4 + 4 * k)) (nI c)) (3940 * p + (4 + 4 * k + 1)) w3) (3940 * p + (4 + 4 * k + 2)) w4) (3940 * p + (4 + 4 * k + 3)) (nI y)) (3940 * p + 3) (nI (k + 1)) (3940 * p + j) = if j = 4 + 4 * k + 3 then nI y else if j = 4 + 4 * k + 2 then w4 else if j = 4 + 4 * k + 1 then w3 else if j = 4 + 4 * k then nI c else mm_A M (B + 45) (3940 * p + j) := by
                intro j hj
                simp only [upd_eq, Nat.add_left_cancel_iff]
                rw [if_neg (by omega)]
              rw [show 3940 * p + 4 + 4 * i = 3940 * p + (4 + 4 * i) from by omega, show 3940 * p + 5 + 4 * i = 3940 * p + (5 + 4 * i) from by omega, show 3940 * p + 6 + 4 * i = 3940 * p + (6 + 4 * i) from by omega, show 3940 * p + 7 + 4 * i = 3940 * p + (7 + 4 * i) from by omega, eS _ (by omega), eS _ (by omega), eS _ (by omega), eS _ (by omega)]
              simp only [A_I, A_A, Nat.add_left_cancel_iff]
              by_cases hik : i = k
              · subst hik
                have n1 : ¬ 4 + 4 * i = 4 + 4 * i + 3 := by omega
                have n2 : ¬ 4 + 4 * i = 4 + 4 * i + 2 := by omega
                have n3 : ¬ 4 + 4 * i = 4 + 4 * i + 1 := by omega
                have n4 : ¬ 5 + 4 * i = 4 + 4 * i + 3 := by omega
                have n5 : ¬ 5 + 4 * i = 4 + 4 * i + 2 := by omega
                have n6 : 5 + 4 * i = 4 + 4 * i + 1 := by omega
                have n7 : ¬ 6 + 4 * i = 4 + 4 * i + 3 := by omega
                have n8 : 6 + 4 * i = 4 + 4 * i + 2 := by omega
                have n9 : 7 + 4 * i = 4 + 4 * i + 3 := by omega
                rw [if_neg n1, if_neg n2, if_neg n3, if_pos rfl, if_neg n4, if_neg n5, if_pos n6, if_neg n7, if_pos n8, if_pos n9]
                refine ⟨by simp [upd_eq], by simp [upd_eq], by simp [upd_eq], by simp [upd_eq], ?_, y, by omega, rfl⟩
                rcases (show c = 0 ∨ c = 1 ∨ c = 2 by omega) with rfl | rfl | rfl <;> decide
              · have n : ∀ a d, a ≤ 3 → d ≤ 3 → ¬ (4 + a) + 4 * i = 4 + 4 * k + d := fun a d _ _ => by omega
                have q := k4 i (by omega)
                rw [show 3940 * p + 4 + 4 * i = 3940 * p + (4 + 4 * i) from by omega, show 3940 * p + 5 + 4 * i = 3940 * p + (5 + 4 * i) from by omega, show 3940 * p + 6 + 4 * i = 3940 * p + (6 + 4 * i) from by omega, show 3940 * p + 7 + 4 * i = 3940 * p + (7 + 4 * i) from by omega] at q
                rw [if_neg (n 0 3 (by decide) (by decide)), if_neg (n 0 2 (by decide) (by decide)), if_neg (n 0 1 (by decide) (by decide)), if_neg (show ¬ 4 * i = 4 * k by omega), if_neg (n 1 3 (by decide) (by decide)), if_neg (n 1 2 (by decide) (by decide)), if_neg (n 1 1 (by decide) (by decide)), if_neg (show ¬ 5 + 4 * i = 4 + 4 * k by omega), if_neg (n 2 3 (by decide) (by decide)), if_neg (n 2 2 (by decide) (by decide)), if_neg (n 2 1 (by decide) (by decide)), if_neg (show ¬ 6 + 4 * i = 4 + 4 * k by omega), if_neg (n 3 3 (by decide) (by decide)), if_neg (n 3 2 (by decide) (by decide)), if_neg (n 3 1 (by decide) (by decide)), if_neg (show ¬ 7 + 4 * i = 4 + 4 * k by omega)]
                simpa [upd_eq, hik] using q
      · left
        have hk' : k = 6 := by omega
        subst hk'
        refine ⟨13, by decide, by decide, ?_, fun m hm => ?_⟩
        · rw [e1, hf]
          simp only [Option.bind_some, hc1, hr, hc2, f_X6_add, show (32 * 6 + 0 : Nat) = 192 from rfl, k3]
          rw [if_neg (by simp), if_neg (by decide)]
          simp only [Option.bind_some, f_X11_answer]
          rw [if_neg (by decide), bind_eta, bind_eta]
          rfl
        · have hms : MS B K L (mm_R m) := by rw [hm.1]; exact iv.1.1
          rw [e2, hy m hm]
          simp only [Option.bind_some, f_X12_rule_36, if_true, m_of (c := 3) hms g1 3 rfl (by decide), hm.2, k2]
          rw [if_pos (by decide)]
          exact bind_eta _
  · refine fin_no iv 3 (by decide) (by decide) (F2 := fun m => f_X12_rule K L (B + 44) w1 w2 w3 w4 w5 m) ?_ ?_
    · unfold f_X11_rule
      rw [within_eq, show (2 : Int32).toInt = 2 from rfl]
      simp only [Option.bind_some]
      by_cases h1 : 0 ≤ w2.toInt ∧ w2.toInt ≤ 2
      · rw [if_pos h1, if_neg (by decide), within_eq, show (7 : Int32).toInt = 7 from rfl, if_neg (fun h2 => hw ⟨h1, h2⟩)]
        exact bind_eta _
      · rw [if_neg h1, if_pos rfl]
        exact bind_eta _
    · unfold f_X12_rule
      rw [isIn_l w2 (a := 0) (c := 2) rfl rfl]
      simp only [Option.bind_some]
      by_cases h1 : 0 ≤ w2.toInt ∧ w2.toInt ≤ 2
      · rw [if_pos h1, if_neg (by decide), isIn_l w5 (a := 0) (c := 7) rfl rfl, if_neg (fun h2 => hw ⟨h1, h2⟩)]
        simp only [Option.bind_some, if_true, f_X12_rule_25, f_X12_rule_36]
        rw [if_neg (by decide)]
        exact bind_eta _
      · rw [if_neg h1, if_pos rfl]
        simp only [f_X12_rule_25, f_X12_rule_36]
        rw [if_neg (by decide)]
        exact bind_eta _
