/-! goods -/
theorem st_26 (fu : Nat) : so_26 Iv fu := by
  intro B n K L M w1 w2 w3 w4 iv
  refine cgated iv w1 w2 w3 (F2 := fun m => f_X12_goods K L (B + 44) w1 w2 w3 w4 m) (G1 := fun _ a11 => Option.bind (f_X2_isTold K L M a11 w3) (fun x13 => if x13 = 0 then Option.bind (f_X11_refuse K L B (-8) M) (fun x23 => some (x23.1, x23.2)) else Option.bind (f_X2_callsAt K L M a11 w3) (fun x15 => Option.bind (f_X11_within w4 x15) (fun x17 => if x17 = 0 then Option.bind (f_X11_refuse K L B (-12) M) (fun x21 => some (x21.1, x21.2)) else Option.bind (f_X2_tellGoods K L a11 w3 w4 M) (fun x19 => some ((1 : Int32), x19)))))) rfl (fun m => rfl) ?_
  intro p b hh w mi hv hu ht hw hmi g h0
  subst hv hu ht
  obtain ⟨g1, g2, g3, g4, g5, g6, g7, g8, g9, g10, g11⟩ := id g
  have hct := g11.ct (w := w) hw
  have M1 : ∀ m, sameS B M m → MS B K L (mm_R m) := fun m hm => by rw [hm.1]; exact iv.1.1
  have hr17 : mm_R M (32 * 2 + 4) (b + 14 + 4 * w) = some (b + 17 + 4 * w) := (g9.2.2.2.2.2.2.2.2 w hw).2.2.2.2.1
  have hx17 : rx K L (some (b + 17 + 4 * w)) 13 (nI mi) = some (b + 17 + 4 * w) := rx_ok (g9.2.2.2.2.2.2.2.2 w hw).2.2.2.2.2.2.2.2.2.1 (g9.2.2.2.2.2.2.2.2 w hw).2.2.2.2.2.2.2.2.2.2 hmi (by decide)
  simp only [isTold_eq g9 hw hct hmi, callsAt_eq g9 hw hct hmi, Option.bind_some, minute_eq, bind_eta, f_X2_tellGoods, hr17, hx17, bn_eq, within_eq]
  have key : ∀ m, sameS B M m → ∀ d : Nat, d ≤ 3 → ∀ c : Int32, c = nI (100 + 4 * (240 * w + mi) + d) → f_X12_of K L m (B + 44) (nI p) c = some (mm_A M (B + 45) (3940 * p + (100 + d) + 4 * (240 * w + mi))) := by
    intro m hm d hd c hc
    rw [m_of (c := c) (M1 m hm) g1 (100 + 4 * (240 * w + mi) + d) hc (by omega), hm.2, show 3940 * p + (100 + 4 * (240 * w + mi) + d) = 3940 * p + (100 + d) + 4 * (240 * w + mi) by omega]
  have k0 : ∀ m, sameS B M m → f_X12_of K L m (B + 44) (nI p) (nI (100 + 4 * (240 * w + mi))) = some (mm_A M (B + 45) (3940 * p + 100 + 4 * (240 * w + mi))) := fun m hm => key m hm 0 (by decide) _ rfl
  have k1 : ∀ m, sameS B M m → f_X12_of K L m (B + 44) (nI p) (nI (100 + 4 * (240 * w + mi)) + 1) = some (mm_A M (B + 45) (3940 * p + 101 + 4 * (240 * w + mi))) := fun m hm => key m hm 1 (by decide) _ (nI_1 _)
  obtain ⟨r1, r2, e, r3, r4, r5⟩ := id hct
  rcases r5 mi hmi with ⟨q1, -⟩ | ⟨q1, q2, q3, q4, q5, c, f, gd, c1, c2, c3, c4, c5, c6⟩
  · left
    refine ⟨8, by decide, by decide, by rw [if_pos q1]; rfl, fun m hm => ?_⟩
    rw [k0 m hm]
    simp only [Option.bind_some]
    rw [if_pos q1]
    rfl
  · have n0 : ¬ mm_A M (B + 45) (3940 * p + 100 + 4 * (240 * w + mi)) = 0 := by rw [q1]; decide
    rw [if_neg n0, c4, nI_toInt (by omega)]
    by_cases h4 : 0 ≤ w4.toInt ∧ w4.toInt ≤ c
    · right
      obtain ⟨x, x1, ex⟩ := n_of (v := w4) (m := c) h4.1 h4.2 (by omega)
      refine ⟨(1, ms_A M (b + 17 + 4 * w) (upd (mm_A M (b + 17 + 4 * w)) mi w4)), (1, mp (ms_A M (b + 17 + 4 * w) (upd (mm_A M (b + 17 + 4 * w)) mi w4)) B (3940 * p + (103 + 4 * (240 * w + mi))) w4), ?_, ?_, ?_, rfl, ?_⟩
      · rw [if_pos h4, if_neg (by decide), if_neg n0, nI_clamp (by omega)]
        rfl
      · exact ⟨rfl, by rw [A_A, if_neg (by omega)]⟩
      · have hsS : sameS B M (ms_A M (b + 17 + 4 * w) (upd (mm_A M (b + 17 + 4 * w)) mi w4)) := ⟨rfl, by rw [A_A, if_neg (by omega)]⟩
        rw [k0 _ hsS, k1 _ hsS]
        simp only [Option.bind_some]
        rw [if_neg n0, c4, isIn_l _ (a := 0) (c := (c : Int)) rfl (by rw [toI64, nI_toInt (by omega)]), if_pos h4]
        simp only [Option.bind_some]
        rw [if_neg (by decide), m_to' (c := nI (100 + 4 * (240 * w + mi)) + 3) (M1 _ hsS) g1 (103 + 4 * (240 * w + mi)) (by rw [show (3 : Int32) = nI 3 from rfl, nI_add]; congr 1; omega) (by omega)]
        rfl
      · refine iv_upd iv g rfl rfl (fun y h5 h6 => (eqAt.A (by omega)).tr (mp_e _ _ _ _ h6)) (S' := upd (mm_A M (B + 45)) (3940 * p + (103 + 4 * (240 * w + mi))) w4) (by rw [mp_S, A_A, if_neg (by omega)]) (fun j hj => by rw [upd_eq, if_neg (by omega)]) (by rw [upd_eq, if_neg (by omega)]) (by rw [upd_eq, if_neg (by omega)]) (by rw [upd_eq, if_neg (by omega)]) (rOk_upd (fun j hj => by rw [upd_eq, if_neg (by omega)]) g10) ?_
        refine but_Ct (w := w) hw (fun y h5 h6 h7 => (eqAt.A (by omega)).tr (mp_e _ _ _ _ (by omega))) (fun j h5 h6 => by rw [upd_eq, if_neg (by omega)]) g11 ?_
        refine ⟨by rw [upd_eq, if_neg (by omega)]; exact r1, by rw [upd_eq, if_neg (by omega)]; exact r2, e, r3, r4, fun m hm => ?_⟩
        rw [mp_A _ _ _ _ (by omega), mp_A _ _ _ _ (by omega), mp_A _ _ _ _ (by omega), A_A, A_A, A_A, if_neg (by omega), if_neg (by omega), if_pos rfl, upd_eq, upd_eq, upd_eq, upd_eq, if_neg (by omega), if_neg (by omega), if_neg (by omega), upd_eq]
        by_cases hmm : m = mi
        · subst hmm
          right
          rw [if_pos rfl, if_pos (by omega)]
          exact ⟨q1, q2, q3, q4, rfl, c, f, x, c1, c2, x1, c4, c5, ex⟩
        · rw [if_neg hmm, if_neg (by omega)]
          exact r5 m hm
    · left
      refine ⟨12, by decide, by decide, by rw [if_neg h4, if_pos rfl]; rfl, fun m hm => ?_⟩
      rw [k0 m hm, k1 m hm]
      simp only [Option.bind_some]
      rw [if_neg n0, c4, isIn_l _ (a := 0) (c := (c : Int)) rfl (by rw [toI64, nI_toInt (by omega)]), if_neg h4]
      rfl
