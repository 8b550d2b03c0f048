/-! counts -/
theorem counts_loop {B : Nat} {K L : Nat → Nat} {fu p w : Nat} {v5 : Int32} (hp : p < 16) (hw : w < 4) : ∀ (g i : Nat) (M : Mm), MS B K L (mm_R M) → i ≤ 960 → 960 - i < g → f_X12_counts_71 K L fu (B + 44) g (nI p) (nI w) v5 (nI i) M = some (v5, ms_A M (B + 45) (fun j => if 3940 * p + (100 + 960 * w) + i ≤ j ∧ j < 3940 * p + (1060 + 960 * w) then 0 else mm_A M (B + 45) j)) := by
  intro g
  induction g with
  | zero => intro i M _ h1 h2; omega
  | succ g ih =>
    intro i M hM h1 h2
    show f_X12_counts_71b K L fu (f_X12_counts_71 K L fu (B + 44) g) (B + 44) (nI p) (nI w) v5 (nI i) M = _
    unfold f_X12_counts_71b
    by_cases hi : i = 960
    · rw [if_pos (show (960 : Int32) ≤ nI i from nI_le (a := 960) (by omega) (by omega))]
      have e : (fun j => if 3940 * p + (100 + 960 * w) + i ≤ j ∧ j < 3940 * p + (1060 + 960 * w) then (0 : Int32) else mm_A M (B + 45) j) = mm_A M (B + 45) := by
        funext j
        rw [if_neg (by omega)]
      rw [e, ms_A_self]
    · rw [if_neg (show ¬ (960 : Int32) ≤ nI i from nI_ge (b := 960) (by omega) (by decide)), show f_X12_minuteAt (nI w) 0 = some (nI (100 + 4 * (240 * w + 0))) from minute_eq w 0]
      simp only [Option.bind_some]
      rw [m_to' (c := nI (100 + 4 * (240 * w + 0)) + nI i) hM hp (100 + 960 * w + i) (by rw [nI_add]; congr 1; omega) (by omega)]
      simp only [Option.bind_some]
      rw [nI_1, ih (i + 1) (mp M B (3940 * p + (100 + 960 * w + i)) 0) hM (by omega) (by omega)]
      unfold mp
      rw [ms_A_A]
      congr 3
      funext j
      rw [A_A, if_pos rfl, upd_eq]
      by_cases hj : j = 3940 * p + (100 + 960 * w + i)
      · have hC : 3940 * p + (100 + 960 * w) + i ≤ j ∧ j < 3940 * p + (1060 + 960 * w) := by omega
        rw [if_pos hj, if_pos hC]
        split <;> rfl
      · rw [if_neg hj]
        by_cases h : 3940 * p + (100 + 960 * w) + (i + 1) ≤ j ∧ j < 3940 * p + (1060 + 960 * w)
        · rw [if_pos h, if_pos (by omega)]
        · rw [if_neg h, if_neg (by omega)]
/-- counts -/
theorem st_27 {fu : Nat} (hfu : 1000 ≤ fu) : so_27 Iv fu := by
  intro B n K L M w1 w2 w3 iv
  have hz := bz_or w3
  generalize bz w3 = z at hz ⊢
  by_cases hw : 0 ≤ w2.toInt ∧ w2.toInt ≤ 3
  · obtain ⟨w, hw4, ew⟩ := n_of (v := w2) (m := 3) hw.1 hw.2 (by decide)
    subst ew
    have e2 : ∀ m, f_X12_counts K L fu (B + 44) w1 (nI w) z m = Option.bind (f_X12_why K L m (B + 44) w1 0) (fun x5 => f_X12_counts_25 K L fu (B + 44) w1 (nI w) z x5 m) := by
      intro m
      unfold f_X12_counts
      simp only [isPlace_eq, isWay_eq, Option.bind_some, if_pos hw]
      by_cases h : 0 ≤ w1.toInt ∧ w1.toInt ≤ 15
      · rw [if_pos h, if_neg (by decide), if_neg (by decide)]
      · rw [if_neg h, if_pos rfl, why_out h]
        rfl
    refine gated2 iv w1 (kinds := 31) (kind := 0) (by unfold kb; simp) (F2 := fun m => f_X12_counts K L fu (B + 44) w1 (nI w) z m) ?_ ?_ ?_
    · intro k _ _ h1 h2
      unfold f_X11_counts
      rw [within_eq, show (3 : Int32).toInt = 3 from rfl, if_pos hw]
      simp only [(shelf_at iv).1, (shelf_at iv).2, Option.bind_some, h1, h2, if_true]
      rw [if_neg (by decide)]
      exact bind_eta _
    · intro k m hk hy
      rw [e2, show f_X12_why K L m (B + 44) w1 0 = some (-(nI k)) from hy]
      simp only [Option.bind_some, f_X12_counts_25]
      rw [if_neg hk]
      exact bind_eta _
    · intro p b hh hv hk g hf hy
      subst hv
      right
      obtain ⟨g1, g2, g3, g4, g5, g6, g7, g8, g9, g10, g11⟩ := id g
      have hw' : w < 4 := by omega
      have hc1 : rc K (some b) 9 = some b := rc_ok g9.1.1
      have hc4 : rc K (some (B + 44)) 12 = some (B + 44) := rc_ok iv.1.1.1.1
      have hct := g11.ct (w := w) hw'
      have hrow := rowOf_eq g9 hw' hct
      obtain ⟨a1, a2, -⟩ := g9.2.2.2.2.2.2.2.2 w hw'
      have hms : ∀ m, mm_R m = mm_R M → MS B K L (mm_R m) := fun m e => by rw [e]; exact iv.1.1
      have hbr : f_X9_beginRow K L b (nI w) z M = some (ms_I (ms_I M 64 (b + 14 + 4 * w) z) 65 (b + 14 + 4 * w) 0) := by
        unfold f_X9_beginRow
        rw [within_eq, show (3 : Int32).toInt = 3 from rfl, if_pos hw, show mm_R M (32 * 9 + 12) b = some (b + 13) from g9.1.2.2.2.2.2.2]
        simp only [Option.bind_some, rx_ok g9.2.2.2.2.2.2.1 g9.2.2.2.2.2.2.2.1 hw' (by decide)]
        rw [if_neg (by decide), nI_clamp (by omega), a1, rc_ok a2]
        simp only [Option.bind_some, f_X2_begin, zb_ok hz, bn_eq]
      have E1 : f_X11_counts K L B (nI p) (nI w) z M = some (mm_A M (B + 45) (3940 * p + 90 + w), ms_I (ms_I M 64 (b + 14 + 4 * w) z) 65 (b + 14 + 4 * w) 0) := by
        unfold f_X11_counts
        rw [within_eq, show (3 : Int32).toInt = 3 from rfl, if_pos hw]
        simp only [(shelf_at iv).1, (shelf_at iv).2, Option.bind_some, hf, hc1, hrow, f_X11_counts_54, hbr]
        rw [if_neg (by decide), if_neg (by simp)]
        rcases hct.2.1 with h0 | h0
        · rw [h0]; rfl
        · rw [h0]; rfl
      refine ⟨_, (mm_A M (B + 45) (3940 * p + 90 + w), ms_A (mp (ms_I (ms_I M 64 (b + 14 + 4 * w) z) 65 (b + 14 + 4 * w) 0) B (3940 * p + (90 + w)) z) (B + 45) (fun j => if 3940 * p + (100 + 960 * w) + 0 ≤ j ∧ j < 3940 * p + (1060 + 960 * w) then 0 else upd (mm_A M (B + 45)) (3940 * p + (90 + w)) z j)), E1, ?_, rfl, ?_⟩
      · show f_X12_counts K L fu (B + 44) (nI p) (nI w) z (ms_I (ms_I M 64 (b + 14 + 4 * w) z) 65 (b + 14 + 4 * w) 0) = _
        have hsS : sameS B M (ms_I (ms_I M 64 (b + 14 + 4 * w) z) 65 (b + 14 + 4 * w) 0) := ⟨rfl, rfl⟩
        rw [e2, show f_X12_why K L (ms_I (ms_I M 64 (b + 14 + 4 * w) z) 65 (b + 14 + 4 * w) 0) (B + 44) (nI p) 0 = some 0 from hy _ hsS]
        simp only [Option.bind_some, f_X12_counts_25, if_true, f_X12_counts_65, hc4]
        rw [m_of (c := 90 + nI w) (hms _ (by rfl)) g1 (90 + w) (nI_add 90 w) (by omega)]
        simp only [Option.bind_some]
        rw [m_to' (c := 90 + nI w) (hms _ (by rfl)) g1 (90 + w) (nI_add 90 w) (by omega), m_to' (c := 90 + nI w) (hms _ (by rfl)) g1 (90 + w) (nI_add 90 w) (by omega)]
        simp only [Option.bind_some]
        have lp := fun v => counts_loop (fu := fu) (v5 := mm_A (ms_I (ms_I M 64 (b + 14 + 4 * w) z) 65 (b + 14 + 4 * w) 0) (B + 45) (3940 * p + (90 + w))) g1 hw' fu 0 (mp (ms_I (ms_I M 64 (b + 14 + 4 * w) z) 65 (b + 14 + 4 * w) 0) B (3940 * p + (90 + w)) v) (hms _ rfl) (by omega) (by omega)
        rw [show (nI 0) = (0 : Int32) from rfl] at lp
        rcases hz with rfl | rfl
        · rw [if_pos rfl, lp, mp_S, A_I, A_I, ← Nat.add_assoc]
        · rw [if_neg (by decide), lp, mp_S, A_I, A_I, ← Nat.add_assoc]
      · have S0 : ∀ j, ¬ (3940 * p + (100 + 960 * w) + 0 ≤ j ∧ j < 3940 * p + (1060 + 960 * w)) → j ≠ 3940 * p + (90 + w) → (fun j => if 3940 * p + (100 + 960 * w) + 0 ≤ j ∧ j < 3940 * p + (1060 + 960 * w) then (0 : Int32) else upd (mm_A M (B + 45)) (3940 * p + (90 + w)) z j) j = mm_A M (B + 45) j := by
          intro j h1 h2
          show (if _ then _ else _) = _
          rw [if_neg h1, upd_eq, if_neg h2]
        refine iv_upd iv g rfl rfl (fun y h5 h6 => (((eqAt.I (by omega)).tr (eqAt.I (by omega))).tr (mp_e _ _ _ _ h6)).tr (eqAt.A h6)) (S' := fun j => if 3940 * p + (100 + 960 * w) + 0 ≤ j ∧ j < 3940 * p + (1060 + 960 * w) then (0 : Int32) else upd (mm_A M (B + 45)) (3940 * p + (90 + w)) z j) (by rw [A_A, if_pos rfl]) (fun j hj => S0 j (by omega) (by omega)) (S0 _ (by omega) (by omega)) (S0 _ (by omega) (by omega)) (S0 _ (by omega) (by omega)) (rOk_upd (fun j hj => S0 _ (by omega) (by omega)) g10) ?_
        refine but_Ct (w := w) hw' (fun y h5 h6 h7 => (((eqAt.I (by omega)).tr (eqAt.I (by omega))).tr (mp_e _ _ _ _ (by omega))).tr (eqAt.A (by omega))) (fun j h5 h6 => S0 _ (by omega) (by omega)) g11 ?_
        have e90 : (fun j => if 3940 * p + (100 + 960 * w) + 0 ≤ j ∧ j < 3940 * p + (1060 + 960 * w) then (0 : Int32) else upd (mm_A M (B + 45)) (3940 * p + (90 + w)) z j) (3940 * p + 90 + w) = z := by
          show (if _ then _ else _) = _
          rw [if_neg (by omega), upd_eq, if_pos (by omega)]
        have eZ : ∀ j, 3940 * p + (100 + 960 * w) ≤ j → j < 3940 * p + (1060 + 960 * w) → (fun j => if 3940 * p + (100 + 960 * w) + 0 ≤ j ∧ j < 3940 * p + (1060 + 960 * w) then (0 : Int32) else upd (mm_A M (B + 45)) (3940 * p + (90 + w)) z j) j = 0 := by
          intro j h1 h2
          show (if _ then _ else _) = _
          rw [if_pos (by omega)]
        refine ⟨by rw [e90]; simp [I_A, mp_I, I_I], by rw [e90]; exact hz, 0, by omega, by simp [I_A, mp_I, I_I]; rfl, fun m hm => Or.inl ⟨eZ _ (by omega) (by omega), eZ _ (by omega) (by omega), eZ _ (by omega) (by omega), eZ _ (by omega) (by omega), fun h => by omega⟩⟩
  · refine fin_no iv 3 (by decide) (by decide) (F2 := fun m => f_X12_counts K L fu (B + 44) w1 w2 z m) ?_ ?_
    · unfold f_X11_counts
      rw [within_eq, show (3 : Int32).toInt = 3 from rfl, if_neg hw]
      exact bind_eta _
    · unfold f_X12_counts
      simp only [isPlace_eq, isWay_eq, Option.bind_some, if_neg hw, if_true, f_X12_counts_14, f_X12_counts_25]
      by_cases h : 0 ≤ w1.toInt ∧ w1.toInt ≤ 15
      · rw [if_pos h, if_neg (by decide), if_neg (by decide)]
        exact bind_eta _
      · rw [if_neg h, if_pos rfl, if_neg (by decide)]
        exact bind_eta _
