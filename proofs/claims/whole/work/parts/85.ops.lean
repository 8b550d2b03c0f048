/-! told -/
/-- the gate of the calls on counts: way and minute, place, row -/
theorem cgated {B n : Nat} {K L : Nat → Nat} {M : Mm} (iv : Iv B n K L M) (v u t : Int32) {F1 : Option (Int32 × Mm)} {F2 : Mm → Option (Int32 × Mm)} {G1 : Nat → Nat → Option (Int32 × Mm)} {G2 : Mm → Option (Int32 × Mm)}
    (e1 : F1 = Option.bind (f_X11_isCountedAt u t) (fun x1 => if x1 = 0 then Option.bind (f_X11_refuse K L B (-3) M) (fun x => some (x.1, x.2)) else Option.bind (rc K (mm_R M (32 * 11 + 0) B) 8) (fun a3 => Option.bind (f_X8_find K L M a3 v 31) (fun x5 => if x5 = none then Option.bind (f_X11_refuseAt K L B v 31 M) (fun x => some (x.1, x.2)) else Option.bind (rc K x5 9) (fun a7 => Option.bind (f_X9_rowOf K L M a7 u) (fun x9 => if x9 = none then Option.bind (f_X11_refuse K L B (-2) M) (fun x => some (x.1, x.2)) else Option.bind (rc K x9 2) (fun a11 => G1 a7 a11)))))))
    (e2 : ∀ m, F2 m = Option.bind (f_X12_whyCounts K L m (B + 44) v u t) (fun x1 => if x1 = 0 then G2 m else Option.bind (f_X12_no K L (B + 44) x1 m) (fun x => some (x.1, x.2))))
    (hG : ∀ p b hh w mi, v = nI p → u = nI w → t = nI mi → w < 4 → mi < 240 → Got B K L M p b hh → mm_A M (B + 45) (3940 * p + 90 + w) = 1 → (∃ k, 2 ≤ k ∧ k ≤ 13 ∧ G1 b (b + 14 + 4 * w) = f_X11_refuse K L B (-(nI k)) M ∧ ∀ m, sameS B M m → G2 m = f_X12_no K L (B + 44) (-(nI k)) m) ∨ ∃ x1 x2, G1 b (b + 14 + 4 * w) = some x1 ∧ sameS B M x1.2 ∧ G2 x1.2 = some x2 ∧ x1.1 = x2.1 ∧ Iv B n K L x2.2) :
    ∃ x1 x2, F1 = some x1 ∧ F2 x1.2 = some x2 ∧ x1.1 = x2.1 ∧ Iv B n K L x2.2 := by
  by_cases hc : (0 ≤ u.toInt ∧ u.toInt ≤ 3) ∧ (0 ≤ t.toInt ∧ t.toInt ≤ 239)
  · obtain ⟨w, w1, eu⟩ := n_of (v := u) (m := 3) hc.1.1 hc.1.2 (by decide)
    obtain ⟨mi, m1, et⟩ := n_of (v := t) (m := 239) hc.2.1 hc.2.2 (by decide)
    subst eu et
    refine gated2 iv v (kinds := 31) (kind := 0) (by unfold kb; simp) (F2 := F2) ?_ ?_ ?_
    · intro k _ _ h1 h2
      rw [e1, counted_eq, if_pos hc]
      simp only [(shelf_at iv).1, (shelf_at iv).2, Option.bind_some, h1, h2, if_true]
      rw [if_neg (by decide)]
      exact bind_eta _
    · intro k m hk hy
      rw [e2, wc_ok hc.1 hc.2, show f_X12_why K L m (B + 44) v 0 = some (-(nI k)) from hy]
      simp only [Option.bind_some]
      rw [if_neg hk]
      simp only [Option.bind_some]
      rw [if_neg hk]
      exact bind_eta _
    · intro p b hh hv hk g hf hy
      subst hv
      obtain ⟨g1, g2, g3, g4, g5, g6, g7, g8, g9, g10, g11⟩ := id g
      have hc1 : rc K (some b) 9 = some b := rc_ok g9.1.1
      have hct := g11.ct (w := w) (by omega)
      have hrow := rowOf_eq g9 (by omega) hct
      have hwc : ∀ m, sameS B M m → f_X12_whyCounts K L m (B + 44) (nI p) (nI w) (nI mi) = some (if mm_A M (B + 45) (3940 * p + 90 + w) = 0 then -2 else 0) := by
        intro m hm
        have hms : MS B K L (mm_R m) := by rw [hm.1]; exact iv.1.1
        rw [wc_ok hc.1 hc.2, show f_X12_why K L m (B + 44) (nI p) 0 = some 0 from hy m hm]
        simp only [Option.bind_some, if_true]
        rw [m_of (c := 90 + nI w) hms g1 (90 + w) (nI_add 90 w) (by omega), hm.2, ← Nat.add_assoc]
        simp only [Option.bind_some]
        split <;> rfl
      rcases hct.2.1 with h0 | h0
      · left
        refine ⟨2, by decide, by decide, ?_, fun m hm => ?_⟩
        · rw [e1, counted_eq, if_pos hc]
          simp only [(shelf_at iv).1, (shelf_at iv).2, Option.bind_some, hf, hc1, hrow, h0, if_true]
          rw [if_neg (by decide), if_neg (by simp)]
          exact bind_eta _
        · rw [e2, hwc m hm, if_pos h0]
          exact bind_eta _
      · have n0 : ¬ mm_A M (B + 45) (3940 * p + 90 + w) = 0 := by rw [h0]; decide
        have E1 : F1 = G1 b (b + 14 + 4 * w) := by
          rw [e1, counted_eq, if_pos hc]
          simp only [(shelf_at iv).1, (shelf_at iv).2, Option.bind_some, hf, hc1, hrow, if_neg n0, rc_ok (g9.2.2.2.2.2.2.2.2 w (by omega)).2.1]
          rw [if_neg (by decide), if_neg (by simp), if_neg (by simp)]
        have E2 : ∀ m, sameS B M m → F2 m = G2 m := by
          intro m hm
          rw [e2, hwc m hm, if_neg n0]
          rfl
        rcases hG p b hh w mi rfl rfl rfl (by omega) (by omega) g h0 with ⟨k, k1, k2, q1, q2⟩ | ⟨x1, x2, q1, q2, q3, q4, q5⟩
        · exact Or.inl ⟨k, k1, k2, E1.trans q1, fun m hm => (E2 m hm).trans (q2 m hm)⟩
        · exact Or.inr ⟨x1, x2, E1.trans q1, (E2 _ q2).trans q3, q4, q5⟩
  · refine fin_no iv 3 (by decide) (by decide) (F2 := F2) ?_ ?_
    · rw [e1, counted_eq, if_neg hc]
      exact bind_eta _
    · rw [e2, wc_bad hc]
      exact bind_eta _
/-- told -/
theorem st_28 (fu : Nat) : so_28 Iv fu := by
  intro B n K L M w1 w2 w3 w4 iv
  refine cgated iv w1 w2 w3 (F2 := fun m => f_X12_told K L (B + 44) w1 w2 w3 w4 m) (G1 := fun _ a11 => Option.bind (f_X2_isTold K L M a11 w3) (fun x13 => if x13 = 0 then Option.bind (f_X11_refuse K L B (-8) M) (fun x23 => some (x23.1, x23.2)) else if w4 = 0 then Option.bind (f_X2_callsAt K L M a11 w3) (fun x15 => some (x15, M)) else if w4 = 1 then Option.bind (f_X2_faultsAt K L M a11 w3) (fun x17 => some (x17, M)) else if w4 = 2 then Option.bind (f_X2_goodsAt K L M a11 w3) (fun x19 => some (x19, M)) else Option.bind (f_X11_refuse K L B (-12) M) (fun x21 => some (x21.1, x21.2)))) rfl (fun m => rfl) ?_
  intro p b hh w mi hv hu ht hw hmi g h0
  subst hv hu ht
  obtain ⟨g1, g2, g3, g4, g5, g6, g7, g8, g9, g10, g11⟩ := id g
  have hct := g11.ct (w := w) hw
  have M1 : ∀ m, sameS B M m → MS B K L (mm_R m) := fun m hm => by rw [hm.1]; exact iv.1.1
  simp only [isTold_eq g9 hw hct hmi, callsAt_eq g9 hw hct hmi, faultsAt_eq g9 hw hct hmi, goodsAt_eq g9 hw hct hmi, Option.bind_some, minute_eq, bind_eta]
  have ix : ∀ d, 3940 * p + (100 + d + 4 * (240 * w + mi)) = 3940 * p + (100 + d) + 4 * (240 * w + mi) := fun d => by omega
  have key : ∀ m, sameS B M m → ∀ d : Nat, d ≤ 3 → ∀ c : Int32, c = nI (100 + 4 * (240 * w + mi) + d) → f_X12_of K L m (B + 44) (nI p) c = some (mm_A M (B + 45) (3940 * p + (100 + d) + 4 * (240 * w + mi))) := by
    intro m hm d hd c hc
    rw [m_of (c := c) (M1 m hm) g1 (100 + 4 * (240 * w + mi) + d) hc (by omega), hm.2, show 3940 * p + (100 + 4 * (240 * w + mi) + d) = 3940 * p + (100 + d) + 4 * (240 * w + mi) by omega]
  have k0 : ∀ m, sameS B M m → f_X12_of K L m (B + 44) (nI p) (nI (100 + 4 * (240 * w + mi))) = some (mm_A M (B + 45) (3940 * p + 100 + 4 * (240 * w + mi))) := fun m hm => key m hm 0 (by decide) _ rfl
  by_cases ht : mm_A M (B + 45) (3940 * p + 100 + 4 * (240 * w + mi)) = 0
  · left
    refine ⟨8, by decide, by decide, by rw [if_pos ht]; rfl, fun m hm => ?_⟩
    rw [k0 m hm]
    simp only [Option.bind_some]
    rw [if_pos ht]
    rfl
  · by_cases h4 : 0 ≤ w4.toInt ∧ w4.toInt ≤ 2
    · right
      obtain ⟨q, q1, eq⟩ := n_of (v := w4) (m := 2) h4.1 h4.2 (by decide)
      subst eq
      have kq := key M sameS_rf (1 + q) (by omega) (nI (100 + 4 * (240 * w + mi)) + 1 + nI q) (by rw [nI_1, nI_add, Nat.add_assoc (100 + 4 * (240 * w + mi)) 1 q])
      refine ⟨(mm_A M (B + 45) (3940 * p + (100 + (1 + q)) + 4 * (240 * w + mi)), M), (mm_A M (B + 45) (3940 * p + (100 + (1 + q)) + 4 * (240 * w + mi)), M), ?_, sameS_rf, ?_, rfl, iv⟩
      · rw [if_neg ht]
        rcases (show q = 0 ∨ q = 1 ∨ q = 2 by omega) with rfl | rfl | rfl
        · rw [if_pos (by decide)]
        · rw [if_neg (by decide), if_pos (by decide)]
        · rw [if_neg (by decide), if_neg (by decide), if_pos (by decide)]
      · rw [k0 M sameS_rf]
        simp only [Option.bind_some]
        rw [if_neg ht, isIn_l _ (a := 0) (c := 2) rfl rfl, if_pos h4]
        simp only [Option.bind_some]
        rw [if_neg (by decide), kq]
        rfl
    · left
      refine ⟨12, by decide, by decide, ?_, fun m hm => ?_⟩
      · rw [if_neg ht, if_neg (fun e => h4 (by rw [e]; decide)), if_neg (fun e => h4 (by rw [e]; decide)), if_neg (fun e => h4 (by rw [e]; decide))]
        rfl
      · rw [k0 m hm]
        simp only [Option.bind_some]
        rw [if_neg ht, isIn_l _ (a := 0) (c := 2) rfl rfl, if_neg h4]
        rfl
