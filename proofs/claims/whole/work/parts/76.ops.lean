/-! seat, tear, stands, caller, ring -/
theorem sameS_rf {B : Nat} {M : Mm} : sameS B M M := ⟨rfl, rfl⟩
theorem isIn32 (v : Int32) (a b : Int64) : f_X12_isIn v.toInt64 a b = some (if a.toInt ≤ v.toInt ∧ v.toInt ≤ b.toInt then 1 else 0) := by rw [isIn_eq, toI64]
def seatV (a n b : Int32) : Int32 := ((a.toInt64 * n.toInt64 + b.toInt64) - (a.toInt64 * n.toInt64 + b.toInt64) / 10000 * 10000).toInt32
theorem seatOf_c (K L : Nat → Nat) (M : Mm) (a : Nat) (v : Int32) : f_X9_seatOf K L M a v = some (seatV (mm_I M 289 a) v (mm_I M 290 a)) := rfl
theorem seatOf_m {B : Nat} {K L : Nat → Nat} {M : Mm} {p : Nat} (h : MS B K L (mm_R M)) (hp : p < 16) : f_X12_seatOf K L M (B + 44) (nI p) = some (seatV (mm_A M (B + 45) (3940 * p + 1)) (mm_I M 392 (B + 44)) (mm_A M (B + 45) (3940 * p + 2))) := by
  unfold f_X12_seatOf
  rw [m_of (c := 1) h hp 1 rfl (by decide), m_of (c := 2) h hp 2 rfl (by decide)]
  rfl
/-- seat -/
theorem st_1 (fu : Nat) : so_1 Iv fu := by
  intro B n K L M w1 iv
  refine gated iv w1 (kinds := 31) (kind := 0) (by unfold kb; simp) (F2 := fun m => f_X12_seat K L (B + 44) w1 m) rfl (fun m => rfl) ?_
  intro p b hh hv hk g
  subst hv
  obtain ⟨g1, g2, g3, g4, g5, g6, g7, g8, g9, g10, g11⟩ := id g
  have hr : mm_R M (32 * 11 + 3) B = some (B + 37) := iv.1.2.1.1.2.2.2.1
  have hc0 : rc K (some (B + 37)) 1 = some (B + 37) := rc_ok iv.1.2.1.2.2.2.1.1
  have hc1 : rc K (some b) 9 = some b := rc_ok g9.1.1
  have hn : mm_I M 32 (B + 37) = mm_I M 392 (B + 44) := iv.2.2.2.2.2.2.1.1
  refine Or.inr ⟨(seatV (mm_A M (B + 45) (3940 * p + 1)) (mm_I M 392 (B + 44)) (mm_A M (B + 45) (3940 * p + 2)), M), (seatV (mm_A M (B + 45) (3940 * p + 1)) (mm_I M 392 (B + 44)) (mm_A M (B + 45) (3940 * p + 2)), M), ?_, sameS_rf, ?_, rfl, iv⟩
  · simp only [hr, hc0, hc1, Option.bind_some, seatOf_c, g11.1.2.1, g11.1.2.2.1]
    rw [show mm_I M (32 * 1 + 0) (B + 37) = mm_I M 392 (B + 44) from hn]
  · simp only [seatOf_m iv.1.1 g1, Option.bind_some]
/-- tear -/
theorem st_17 (fu : Nat) : so_17 Iv fu := by
  intro B n K L M w1 iv
  refine gated iv w1 (kinds := 6) (kind := 1) (by unfold kb; simp) (F2 := fun m => f_X12_tear K L (B + 44) w1 m) rfl (fun m => rfl) ?_
  intro p b hh hv hk g
  subst hv
  obtain ⟨g1, g2, g3, g4, g5, g6, g7, g8, g9, g10, g11⟩ := id g
  have hr : mm_R M (32 * 9 + 9) b = some (b + 9) := g9.1.2.2.2.1
  have hc1 : rc K (some b) 9 = some b := rc_ok g9.1.1
  have hc2 : rc K (some (b + 9)) 3 = some (b + 9) := rc_ok g9.2.2.2.1.1
  obtain ⟨k, z, l1, l2, l3, l4, l5, l6, l7, l8⟩ := g11.2.2.2.1
  have l6' : mm_I M (32 * 3 + 1) (b + 9) = if k = 0 then -1 else nI k := l6
  have hms : MS B K L (mm_R (ms_I M (32 * 3 + 1) (b + 9) (-1))) := iv.1.1
  have ne : k ≠ 0 → ¬ nI k = -1 := fun hk e => by
    have := congrArg Int32.toInt e
    rw [nI_toInt (by omega)] at this
    have h1 : (-1 : Int32).toInt = -1 := rfl
    omega
  have gt : k ≠ 0 → ¬ nI k ≤ 0 := fun hk => nI_nle (by omega) (by omega)
  have iv' : Iv B n K L (ms_A (ms_I M (32 * 3 + 1) (b + 9) (-1)) (B + 45) (upd (mm_A M (B + 45)) (3940 * p + 48) 0)) := by
    refine iv_upd iv g rfl rfl (fun a h1 h2 => (eqAt.I (by omega)).tr (eqAt.A h2)) (S' := upd (mm_A M (B + 45)) (3940 * p + 48) 0) (by simp [A_A]) (fun i hi => by rw [upd_eq, if_neg (by omega)]) (by rw [upd_eq, if_neg (by omega)]) (by rw [upd_eq, if_neg (by omega)]) (by rw [upd_eq, if_neg (by omega)]) (rOk_upd (fun k hk => by rw [upd_eq, if_neg (by omega)]) g10) ?_
    refine but_La (fun c h1 h2 h3 h4 => (eqAt.I h3).tr (eqAt.A (by omega))) (fun k h1 h2 => by rw [upd_eq, if_neg (by omega)]) g11 ?_
    refine ⟨0, z, by omega, l2, fun h => by omega, by rw [upd_eq, if_pos rfl]; rfl, by rw [upd_eq, if_neg (by omega)]; exact l5, by simp [I_A, I_I], by simpa [I_A, I_I] using l7, fun i hi => by omega⟩
  by_cases hk0 : k = 0
  · refine Or.inr ⟨(0, ms_I M (32 * 3 + 1) (b + 9) (-1)), (0, ms_A (ms_I M (32 * 3 + 1) (b + 9) (-1)) (B + 45) (upd (mm_A M (B + 45)) (3940 * p + 48) 0)), ?_, ⟨rfl, rfl⟩, ?_, rfl, iv'⟩
    · simp only [hc1, hr, hc2, Option.bind_some, f_X3_dropRow, f_X3_hasRow, l6', if_pos hk0, if_true, bn_eq]
      rfl
    · simp only [m_of (c := 48) hms g1 48 rfl (by decide), Option.bind_some, f_X12_tear_32, m_to (c := 48) hms g1 48 rfl (by decide)]
      rw [show mm_A (ms_I M (32 * 3 + 1) (b + 9) (-1)) (B + 45) (3940 * p + 48) = nI 0 from by rw [A_I, l4, hk0], if_pos (by decide)]
      rfl
  · refine Or.inr ⟨(1, ms_I M (32 * 3 + 1) (b + 9) (-1)), (1, ms_A (ms_I M (32 * 3 + 1) (b + 9) (-1)) (B + 45) (upd (mm_A M (B + 45)) (3940 * p + 48) 0)), ?_, ⟨rfl, rfl⟩, ?_, rfl, iv'⟩
    · simp only [hc1, hr, hc2, Option.bind_some, f_X3_dropRow, f_X3_hasRow, l6', if_neg hk0, if_neg (ne hk0), bn_eq]
      rfl
    · simp only [m_of (c := 48) hms g1 48 rfl (by decide), Option.bind_some, f_X12_tear_32, m_to (c := 48) hms g1 48 rfl (by decide)]
      rw [show mm_A (ms_I M (32 * 3 + 1) (b + 9) (-1)) (B + 45) (3940 * p + 48) = nI k from by rw [A_I, l4], if_neg (gt hk0)]
      rfl
/-- caller -/
theorem st_0 (fu : Nat) : so_0 Iv fu := by
  intro B n K L M w1 w2 w3 w4 iv
  by_cases hw : (0 ≤ w1.toInt ∧ w1.toInt ≤ 999999) ∧ (0 ≤ w2.toInt ∧ w2.toInt ≤ 15) ∧ (0 ≤ w3.toInt ∧ w3.toInt ≤ 4000) ∧ (0 ≤ w4.toInt ∧ w4.toInt ≤ 7)
  · obtain ⟨h1, h2, h3, h4⟩ := hw
    have hr : mm_R M (32 * 11 + 3) B = some (B + 37) := iv.1.2.1.1.2.2.2.1
    have hc0 : rc K (some (B + 37)) 1 = some (B + 37) := rc_ok iv.1.2.1.2.2.2.1.1
    obtain ⟨v, v1, v2⟩ := n_of (v := w1) (m := 999999) h1.1 h1.2 (by decide)
    refine ⟨(1, ms_I (ms_I (ms_I (ms_I M 32 (B + 37) w1) 33 (B + 37) w2) 34 (B + 37) w3) 35 (B + 37) w4), (1, ms_I (ms_I (ms_I (ms_I (ms_I (ms_I (ms_I (ms_I M 32 (B + 37) w1) 33 (B + 37) w2) 34 (B + 37) w3) 35 (B + 37) w4) 392 (B + 44) w1) 393 (B + 44) w2) 394 (B + 44) w3) 395 (B + 44) w4), ?_, ?_, rfl, ?_⟩
    · unfold f_X11_caller
      simp only [within_eq, show (999999 : Int32).toInt = 999999 from rfl, show (15 : Int32).toInt = 15 from rfl, show (4000 : Int32).toInt = 4000 from rfl, show (7 : Int32).toInt = 7 from rfl, if_pos h1, if_pos h2, if_pos h3, if_pos h4, Option.bind_some, hr, hc0, f_X1_become, bn_eq]
      rfl
    · unfold f_X12_caller
      simp only [isIn32, show (0 : Int64).toInt = 0 from rfl, show (999999 : Int64).toInt = 999999 from rfl, show (15 : Int64).toInt = 15 from rfl, show (4000 : Int64).toInt = 4000 from rfl, show (7 : Int64).toInt = 7 from rfl, if_pos h1, if_pos h2, if_pos h3, if_pos h4, Option.bind_some, bn_eq]
      rfl
    · obtain ⟨g, c1, c2, c3, c4, c5, c6, c7, c8⟩ := id iv
      have hE : ∀ a, a ≠ B + 37 → a ≠ B + 44 → eqAt M (ms_I (ms_I (ms_I (ms_I (ms_I (ms_I (ms_I (ms_I M 32 (B + 37) w1) 33 (B + 37) w2) 34 (B + 37) w3) 35 (B + 37) w4) 392 (B + 44) w1) 393 (B + 44) w2) 394 (B + 44) w3) 395 (B + 44) w4) a := fun a h5 h6 => ((((((((eqAt.I h5).tr (eqAt.I h5)).tr (eqAt.I h5)).tr (eqAt.I h5)).tr (eqAt.I h6)).tr (eqAt.I h6)).tr (eqAt.I h6)).tr (eqAt.I h6))
      have hp := Cd.places g (fun a h => hE a (by omega) (by omega)) rfl rfl rfl rfl ⟨c1, c2⟩
      refine ⟨g, hp.1, hp.2, c3, c4, c5, ?_, ?_, ?_⟩
      · simp only [I_I]
        simp [v2]
        exact ⟨v, v1, rfl⟩
      · simp only [I_I]
        simpa using c7
      · obtain ⟨z, z1, z2, z3, z4⟩ := c8
        refine ⟨z, z1, ?_, ?_, z4⟩
        · simp only [I_I]
          simpa using z2
        · simp only [I_I]
          simpa using z3
  · refine fin_no iv 3 (by decide) (by decide) (F2 := fun m => f_X12_caller K L (B + 44) w1 w2 w3 w4 m) ?_ ?_
    · unfold f_X11_caller
      simp only [within_eq, show (999999 : Int32).toInt = 999999 from rfl, show (15 : Int32).toInt = 15 from rfl, show (4000 : Int32).toInt = 4000 from rfl, show (7 : Int32).toInt = 7 from rfl, Option.bind_some]
      by_cases h1 : 0 ≤ w1.toInt ∧ w1.toInt ≤ 999999
      · rw [if_pos h1, if_neg (by decide)]
        by_cases h2 : 0 ≤ w2.toInt ∧ w2.toInt ≤ 15
        · rw [if_pos h2, if_neg (by decide)]
          by_cases h3 : 0 ≤ w3.toInt ∧ w3.toInt ≤ 4000
          · rw [if_pos h3, if_neg (by decide), if_neg (fun h4 => hw ⟨h1, h2, h3, h4⟩), if_pos rfl]
            exact bind_eta _
          · rw [if_neg h3, if_pos rfl]
            exact bind_eta _
        · rw [if_neg h2, if_pos rfl]
          exact bind_eta _
      · rw [if_neg h1, if_pos rfl]
        exact bind_eta _
    · unfold f_X12_caller
      simp only [isIn32, show (0 : Int64).toInt = 0 from rfl, show (999999 : Int64).toInt = 999999 from rfl, show (15 : Int64).toInt = 15 from rfl, show (4000 : Int64).toInt = 4000 from rfl, show (7 : Int64).toInt = 7 from rfl, Option.bind_some]
      by_cases h1 : 0 ≤ w1.toInt ∧ w1.toInt ≤ 999999
      · rw [if_pos h1, if_neg (by decide)]
        by_cases h2 : 0 ≤ w2.toInt ∧ w2.toInt ≤ 15
        · rw [if_pos h2, if_neg (by decide)]
          by_cases h3 : 0 ≤ w3.toInt ∧ w3.toInt ≤ 4000
          · rw [if_pos h3, if_neg (by decide), if_neg (fun h4 => hw ⟨h1, h2, h3, h4⟩), if_pos rfl]
            exact bind_eta _
          · rw [if_neg h3, if_pos rfl]
            exact bind_eta _
        · rw [if_neg h2, if_pos rfl]
          exact bind_eta _
      · rw [if_neg h1, if_pos rfl]
        exact bind_eta _
