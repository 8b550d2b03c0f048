/-! holds, stands, unrule, rule, budget -/
def mp (M : Mm) (B i : Nat) (v : Int32) : Mm := ms_A M (B + 45) (upd (mm_A M (B + 45)) i v)
section MP
variable (M : Mm) (B i : Nat) (v : Int32)
theorem mp_R : mm_R (mp M B i v) = mm_R M := rfl
theorem mp_C : mm_C (mp M B i v) = mm_C M := rfl
theorem mp_I : mm_I (mp M B i v) = mm_I M := rfl
theorem mp_J : mm_J (mp M B i v) = mm_J M := rfl
theorem mp_B : mm_B (mp M B i v) = mm_B M := rfl
theorem mp_S : mm_A (mp M B i v) (B + 45) = upd (mm_A M (B + 45)) i v := by simp [mp, A_A]
theorem mp_A {a : Nat} (h : a ≠ B + 45) : mm_A (mp M B i v) a = mm_A M a := by simp [mp, A_A, h]
theorem mp_e {a : Nat} (h : a ≠ B + 45) : eqAt M (mp M B i v) a := eqAt.A h
end MP
theorem m_to' {B : Nat} {K L : Nat → Nat} {M : Mm} {p : Nat} (h : MS B K L (mm_R M)) (hp : p < 16) {c v : Int32} (k : Nat) (hc : c = nI k) (hk : k < 3940) : f_X12_to K L (B + 44) (nI p) c v M = some (mp M B (3940 * p + k) v) := m_to h hp k hc hk
/-- holds -/
theorem st_7 (fu : Nat) : so_7 Iv fu := by
  intro B n K L M w1 iv
  by_cases hv : 0 ≤ w1.toInt ∧ w1.toInt ≤ 15
  · obtain ⟨p, hp, rfl⟩ := n_of (v := w1) (m := 15) hv.1 hv.2 (by decide)
    have hp : p < 16 := by omega
    obtain ⟨hh, i1, i2, i3, i4, i5⟩ := iv.2.1 p hp
    have hc : f_X4_content K L M (B + 3 + p) = some (mm_A M (B + 45) (3940 * p) - 1) := by
      unfold f_X4_content
      rw [show (32 * 4 + 0 : Nat) = 128 from rfl, show (32 * 4 + 1 : Nat) = 129 from rfl, show (32 * 9 + 0 : Nat) = 288 from rfl]
      by_cases h0 : hh = 0
      · rw [(i3 h0).1, (i3 h0).2, i2, h0, if_pos rfl]
        decide
      · by_cases h7 : hh = 6
        · rw [(i4 h7).1, (i4 h7).2.1, i2, h7, if_pos rfl]
          decide
        · obtain ⟨j1, j2, b, j3, j4, j5⟩ := i5 (by omega) (by omega)
          have hb := (iv.1.blk (q := p) (by omega) (by rw [qA_lo hp]; exact j4)).2.2
          rw [j3, if_neg (by simp)]
          simp only [rc_ok hb.1.1, Option.bind_some, j5.1.1]
    refine ⟨(mm_A M (B + 45) (3940 * p) - 1, M), (mm_A M (B + 45) (3940 * p) - 1, M), ?_, ?_, rfl, iv⟩
    · unfold f_X11_holds
      rw [(shelf_at iv).1, (shelf_at iv).2]
      simp only [Option.bind_some, placeAt_in iv.1.2.1 hp, rc_ok (iv.1.2.1.2.1.2.2.2.2 p hp).2, hc]
      rfl
    · unfold f_X12_holds
      rw [isPlace_eq, if_pos hv]
      simp only [Option.bind_some, m_of0 iv.1.1 hp]
      rfl
  · refine fin_no iv 3 (by decide) (by decide) (F2 := fun m => f_X12_holds K L (B + 44) w1 m) ?_ ?_
    · unfold f_X11_holds
      rw [(shelf_at iv).1, (shelf_at iv).2]
      simp only [Option.bind_some, placeAt_out hv, if_true]
      exact bind_eta _
    · unfold f_X12_holds
      rw [isPlace_eq, if_neg hv]
      exact bind_eta _
theorem isIn_l (v : Int32) {A C : Int64} {a c : Int} (ha : A.toInt = a) (hc : C.toInt = c) : f_X12_isIn v.toInt64 A C = some (if a ≤ v.toInt ∧ v.toInt ≤ c then 1 else 0) := by rw [isIn_eq, toI64, ha, hc]
/-- stands -/
theorem st_22 (fu : Nat) : so_22 Iv fu := by
  intro B n K L M w1 w2 iv
  refine gated iv w1 (kinds := 6) (kind := 1) (by unfold kb; simp) (F2 := fun m => f_X12_stands K L (B + 44) w1 w2 m) rfl (fun m => rfl) ?_
  intro p b hh hv hk g
  subst hv
  obtain ⟨g1, g2, g3, g4, g5, g6, g7, g8, g9, g10, g11⟩ := id g
  have hc1 : rc K (some b) 9 = some b := rc_ok g9.1.1
  have hr : mm_R M (32 * 9 + 9) b = some (b + 9) := g9.1.2.2.2.1
  have hc2 : rc K (some (b + 9)) 3 = some (b + 9) := rc_ok g9.2.2.2.1.1
  have hr2 : mm_R M (32 * 9 + 10) b = some (b + 11) := g9.1.2.2.2.2.1
  have hc3 : rc K (some (b + 11)) 0 = some (b + 11) := rc_ok g9.2.2.2.2.1
  have hc4 : rc K (some (B + 44)) 12 = some (B + 44) := rc_ok iv.1.1.1.1
  obtain ⟨k, z, l1, l2, l3, l4, l5, l6, l7, l8⟩ := g11.2.2.2.1
  have hb := g11.2.2.2.2.1
  by_cases hw : 0 ≤ w2.toInt ∧ w2.toInt ≤ 3
  · obtain ⟨v, v1, rfl⟩ := n_of (v := w2) (m := 3) hw.1 hw.2 (by decide)
    rcases (show v = 0 ∨ v = 1 ∨ v = 2 ∨ v = 3 by omega) with rfl | rfl | rfl | rfl
    · refine Or.inr ⟨(mm_A M (B + 45) (3940 * p + 69), M), (mm_A M (B + 45) (3940 * p + 69), M), ?_, sameS_rf, ?_, rfl, iv⟩
      · rw [if_pos (by decide)]
        simp only [hc1, hr, hc2, Option.bind_some]
        rw [show mm_I M (32 * 3 + 2) (b + 9) = mm_A M (B + 45) (3940 * p + 69) from l7.trans l5.symm]
      · dsimp only
        rw [isIn_l _ (a := 0) (c := 3) rfl rfl, if_pos hw]
        simp only [f_X12_stands_86, hc4, m_of (c := 69) iv.1.1 g1 69 rfl (by decide), Option.bind_some]
        rfl
    · refine Or.inr ⟨((if k = 0 then -1 else nI k), M), ((if k = 0 then -1 else nI k), M), ?_, sameS_rf, ?_, rfl, iv⟩
      · rw [if_neg (by decide), if_pos (by decide)]
        simp only [hc1, hr, hc2, Option.bind_some]
        rw [show mm_I M (32 * 3 + 1) (b + 9) = _ from l6]
      · dsimp only
        rw [isIn_l _ (a := 0) (c := 3) rfl rfl, if_pos hw]
        simp only [m_of (c := 48) iv.1.1 g1 48 rfl (by decide), Option.bind_some, l4]
        rw [if_neg (by decide), if_pos (by decide)]
        by_cases hk0 : k = 0
        · rw [hk0, if_pos (by decide), if_pos rfl]
        · rw [if_neg hk0, if_neg (nI_ne0 (by omega) (by omega))]
    · refine Or.inr ⟨(mm_A M (B + 45) (3940 * p + 75), M), (mm_A M (B + 45) (3940 * p + 75), M), ?_, sameS_rf, ?_, rfl, iv⟩
      · rw [if_neg (by decide), if_neg (by decide), if_pos (by decide)]
        simp only [hc1, hr2, hc3, Option.bind_some]
        rw [show mm_I M (32 * 0 + 5) (b + 11) = mm_A M (B + 45) (3940 * p + 75) from hb.2.2.2.2.2.1]
      · dsimp only
        rw [isIn_l _ (a := 0) (c := 3) rfl rfl, if_pos hw]
        simp only [f_X12_stands_86, hc4, m_of (c := 75) iv.1.1 g1 75 rfl (by decide), Option.bind_some]
        rfl
    · refine Or.inr ⟨(mm_A M (B + 45) (3940 * p + 76), M), (mm_A M (B + 45) (3940 * p + 76), M), ?_, sameS_rf, ?_, rfl, iv⟩
      · rw [if_neg (by decide), if_neg (by decide), if_neg (by decide), if_pos (by decide)]
        simp only [hc1, hr2, hc3, Option.bind_some]
        rw [show mm_I M (32 * 0 + 6) (b + 11) = mm_A M (B + 45) (3940 * p + 76) from hb.2.2.2.2.2.2.1]
      · dsimp only
        rw [isIn_l _ (a := 0) (c := 3) rfl rfl, if_pos hw]
        simp only [f_X12_stands_86, hc4, m_of (c := 76) iv.1.1 g1 76 rfl (by decide), Option.bind_some]
        rfl
  · refine Or.inl ⟨12, by decide, by decide, ?_, fun m _ => ?_⟩
    · rw [if_neg (fun e => hw (by rw [e]; decide)), if_neg (fun e => hw (by rw [e]; decide)), if_neg (fun e => hw (by rw [e]; decide)), if_neg (fun e => hw (by rw [e]; decide))]
      exact bind_eta _
    · rw [isIn_l w2 (a := 0) (c := 3) rfl rfl, if_neg hw]
      exact bind_eta _
/-- unrule -/
theorem st_10 (fu : Nat) : so_10 Iv fu := by
  intro B n K L M w1 iv
  refine gated iv w1 (kinds := 31) (kind := 0) (by unfold kb; simp) (F2 := fun m => f_X12_unrule K L (B + 44) w1 m) rfl (fun m => rfl) ?_
  intro p b hh hv hk g
  subst hv
  obtain ⟨g1, g2, g3, g4, g5, g6, g7, g8, g9, g10, g11⟩ := id g
  have hc1 : rc K (some b) 9 = some b := rc_ok g9.1.1
  have hr : mm_R M (32 * 9 + 3) b = some (b + 1) := g9.1.2.1
  have hc2 : rc K (some (b + 1)) 6 = some (b + 1) := rc_ok g9.2.1.1
  obtain ⟨k, k1, k2, k3, k4⟩ := g11.2.1
  have k3' : mm_I M (32 * 6 + 0) (b + 1) = nI k := k3
  by_cases hk0 : k = 0
  · subst hk0
    refine Or.inl ⟨2, by decide, by decide, ?_, fun m hm => ?_⟩
    · simp only [hc1, hr, hc2, Option.bind_some, f_X6_dropLast, k3']
      rw [if_pos (by decide)]
      simp only [Option.bind_some, f_X11_answer]
      rw [if_neg (by decide), bind_eta, bind_eta]
      rfl
    · have hms : MS B K L (mm_R m) := by rw [hm.1]; exact iv.1.1
      simp only [m_of (c := 3) hms g1 3 rfl (by decide), hm.2, k2, Option.bind_some]
      rw [if_pos (by decide)]
      exact bind_eta _
  · have e1 : nI k - 1 = nI (k - 1) := by
      obtain ⟨j, rfl⟩ : ∃ j, k = j + 1 := ⟨k - 1, by omega⟩
      exact nI_pred j
    have hms : MS B K L (mm_R (ms_I M (32 * 6 + 0) (b + 1) (nI (k - 1)))) := iv.1.1
    refine Or.inr ⟨(nI (k - 1), ms_I M (32 * 6 + 0) (b + 1) (nI (k - 1))), (nI (k - 1), mp (ms_I M (32 * 6 + 0) (b + 1) (nI (k - 1))) B (3940 * p + 3) (nI (k - 1))), ?_, ⟨rfl, rfl⟩, ?_, rfl, ?_⟩
    · simp only [hc1, hr, hc2, Option.bind_some, f_X6_dropLast, k3', e1, bn_eq]
      rw [if_neg (nI_ne0 (by omega) (by omega))]
      simp only [Option.bind_some, f_X11_answer, I_I, and_self, if_true]
      rw [if_pos (nI_pos' (by omega))]
      rfl
    · dsimp only
      have hms2 : MS B K L (mm_R (mp (ms_I M (32 * 6 + 0) (b + 1) (nI (k - 1))) B (3940 * p + 3) (nI (k - 1)))) := iv.1.1
      simp only [m_of (c := 3) hms g1 3 rfl (by decide), A_I, k2, e1, Option.bind_some, m_to' (c := 3) hms g1 3 rfl (by decide), m_of (c := 3) hms2 g1 3 rfl (by decide), mp_S, upd_eq, if_true]
      rw [if_neg (nI_ne0 (by omega) (by omega))]
    · refine iv_upd iv g rfl rfl (fun a h1 h2 => (eqAt.I (by omega)).tr (mp_e _ _ _ _ h2)) (S' := upd (mm_A M (B + 45)) (3940 * p + 3) (nI (k - 1))) (mp_S _ _ _ _) (fun i hi => by rw [upd_eq, if_neg (by omega)]) (by rw [upd_eq, if_neg (by omega)]) (by rw [upd_eq, if_neg (by omega)]) (by rw [upd_eq, if_neg (by omega)]) (rOk_upd (fun k hk => by rw [upd_eq, if_neg (by omega)]) g10) ?_
      refine but_Ru (fun c h1 h2 h3 => (eqAt.I (by omega)).tr (mp_e _ _ _ _ (by omega))) (fun k h1 h2 => by rw [upd_eq, if_neg (by omega)]) g11 ?_
      refine ⟨k - 1, by omega, by rw [upd_eq, if_pos rfl], by simp [mp_I, I_I], fun i hi => ?_⟩
      rw [upd_eq, upd_eq, upd_eq, upd_eq, if_neg (by omega), if_neg (by omega), if_neg (by omega), if_neg (by omega), mp_A _ _ _ _ (by omega), mp_A _ _ _ _ (by omega), mp_A _ _ _ _ (by omega), mp_A _ _ _ _ (by omega)]
      exact k4 i (by omega)
