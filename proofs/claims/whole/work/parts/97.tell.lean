/-! count -/
theorem cgated' {B n : Nat} {K L : Nat → Nat} {M : Mm} (iv : Iv B n K L M) (v u t : Int32) {F1 : Option (Int32 × Mm)} {F2 : Mm → Option (Int32 × Mm)} {G1 : Option Nat → Nat → Option Nat → Option (Int32 × Mm)} {G2 : Mm → Option (Int32 × Mm)}
    (e1 : F1 = Option.bind (f_X11_isCountedAt u t) (fun x1 => if x1 = 0 then Option.bind (f_X11_refuse K L B (-3) M) (fun x => some (x.1, x.2)) else Option.bind (rc K (mm_R M (32 * 11 + 0) B) 8) (fun a3 => Option.bind (f_X8_find K L M a3 v 31) (fun x5 => if x5 = none then Option.bind (f_X11_refuseAt K L B v 31 M) (fun x => some (x.1, x.2)) else Option.bind (rc K x5 9) (fun a7 => Option.bind (f_X9_rowOf K L M a7 u) (fun x9 => if x9 = none then Option.bind (f_X11_refuse K L B (-2) M) (fun x => some (x.1, x.2)) else G1 x5 a7 x9))))))
    (e2 : ∀ m, F2 m = Option.bind (f_X12_whyCounts K L m (B + 44) v u t) (fun x1 => if x1 = 0 then G2 m else Option.bind (f_X12_no K L (B + 44) x1 m) (fun x => some (x.1, x.2))))
    (hG : ∀ p b hh w mi, v = nI p → u = nI w → t = nI mi → w < 4 → mi < 240 → Got B K L M p b hh → mm_A M (B + 45) (3940 * p + 90 + w) = 1 → (∃ k, 2 ≤ k ∧ k ≤ 13 ∧ G1 (some b) b (some (b + 14 + 4 * w)) = f_X11_refuse K L B (-(nI k)) M ∧ ∀ m, sameS B M m → G2 m = f_X12_no K L (B + 44) (-(nI k)) m) ∨ ∃ x1 x2, G1 (some b) b (some (b + 14 + 4 * w)) = some x1 ∧ sameS B M x1.2 ∧ G2 x1.2 = some x2 ∧ x1.1 = x2.1 ∧ Iv B n K L x2.2) :
    ∃ x1 x2, F1 = some x1 ∧ F2 x1.2 = some x2 ∧ x1.1 = x2.1 ∧ Iv B n K L x2.2 := by
  by_cases hc : (0 ≤ u.toInt ∧ u.toInt ≤ 3) ∧ (0 ≤ t.toInt ∧ t.toInt ≤ 239)
  · obtain ⟨w, w1, eu⟩ := n_of (v := u) (m := 3) hc.1.1 hc.1.2 (by decide)
    obtain ⟨mi, m1, et⟩ := n_of (v := t) (m := 239) hc.2.1 hc.2.2 (by decide)
    subst eu et
    refine gated2 iv v (kinds := 31) (kind := 0) (by unfold kb; simp) (F2 := F2) ?_ ?_ ?_
    · intro k _ _ h1 h2
      rw [e1, counted_eq, if_pos hc]
      simp only [(shelf_at iv).1, (shelf_at iv).2, Option.bind_some, h1, h2, if_true]
      rw [if_neg (by decide)]
      exact bind_eta _
    · intro k m hk hy
      rw [e2, wc_ok hc.1 hc.2, show f_X12_why K L m (B + 44) v 0 = some (-(nI k)) from hy]
      simp only [Option.bind_some]
      rw [if_neg hk]
      simp only [Option.bind_some]
      rw [if_neg hk]
      exact bind_eta _
    · intro p b hh hv hk g hf hy
      subst hv
      obtain ⟨g1, g2, g3, g4, g5, g6, g7, g8, g9, g10, g11⟩ := id g
      have hc1 : rc K (some b) 9 = some b := rc_ok g9.1.1
      have hct := g11.ct (w := w) (by omega)
      have hrow := rowOf_eq g9 (by omega) hct
      have hwc : ∀ m, sameS B M m → f_X12_whyCounts K L m (B + 44) (nI p) (nI w) (nI mi) = some (if mm_A M (B + 45) (3940 * p + 90 + w) = 0 then -2 else 0) := by
        intro m hm
        have hms : MS B K L (mm_R m) := by rw [hm.1]; exact iv.1.1
        rw [wc_ok hc.1 hc.2, show f_X12_why K L m (B + 44) (nI p) 0 = some 0 from hy m hm]
        simp only [Option.bind_some, if_true]
        rw [m_of (c := 90 + nI w) hms g1 (90 + w) (nI_add 90 w) (by omega), hm.2, ← Nat.add_assoc]
        simp only [Option.bind_some]
        split <;> rfl
      rcases hct.2.1 with h0 | h0
      · left
        refine ⟨2, by decide, by decide, ?_, fun m hm => ?_⟩
        · rw [e1, counted_eq, if_pos hc]
          simp only [(shelf_at iv).1, (shelf_at iv).2, Option.bind_some, hf, hc1, hrow, h0, if_true]
          rw [if_neg (by decide), if_neg (by simp)]
          exact bind_eta _
        · rw [e2, hwc m hm, if_pos h0]
          exact bind_eta _
      · have n0 : ¬ mm_A M (B + 45) (3940 * p + 90 + w) = 0 := by rw [h0]; decide
        have E1 : F1 = G1 (some b) b (some (b + 14 + 4 * w)) := by
          rw [e1, counted_eq, if_pos hc]
          simp only [(shelf_at iv).1, (shelf_at iv).2, Option.bind_some, hf, hc1, hrow, if_neg n0]
          rw [if_neg (by decide), if_neg (by simp), if_neg (by simp)]
        have E2 : ∀ m, sameS B M m → F2 m = G2 m := by
          intro m hm
          rw [e2, hwc m hm, if_neg n0]
          rfl
        rcases hG p b hh w mi rfl rfl rfl (by omega) (by omega) g h0 with ⟨k, k1, k2, q1, q2⟩ | ⟨x1, x2, q1, q2, q3, q4, q5⟩
        · exact Or.inl ⟨k, k1, k2, E1.trans q1, fun m hm => (E2 m hm).trans (q2 m hm)⟩
        · exact Or.inr ⟨x1, x2, E1.trans q1, (E2 _ q2).trans q3, q4, q5⟩
  · refine fin_no iv 3 (by decide) (by decide) (F2 := F2) ?_ ?_
    · rw [e1, counted_eq, if_neg hc]
      exact bind_eta _
    · rw [e2, wc_bad hc]
      exact bind_eta _
/-- what tell leaves of row w: b's -/
def tlOk (M M' : Mm) (b w e mi : Nat) (c f : Int32) : Prop := mm_R M' = mm_R M ∧ mm_C M' = mm_C M ∧ (∀ a, (a < b + 14 + 4 * w ∨ b + 17 + 4 * w < a) → eqAt M M' a) ∧ mm_I M' 64 (b + 14 + 4 * w) = mm_I M 64 (b + 14 + 4 * w) ∧ mm_I M' 65 (b + 14 + 4 * w) = (if mm_I M 65 (b + 14 + 4 * w) < nI mi + 1 then nI mi + 1 else mm_I M 65 (b + 14 + 4 * w)) ∧ (∀ j, mm_A M' (b + 15 + 4 * w) j = if j = mi then c else if e ≤ j ∧ j < mi then -1 else mm_A M (b + 15 + 4 * w) j) ∧ mm_A M' (b + 16 + 4 * w) = upd (mm_A M (b + 16 + 4 * w)) mi f ∧ mm_A M' (b + 17 + 4 * w) = upd (mm_A M (b + 17 + 4 * w)) mi 0
section TL
variable {K L : Nat → Nat} {fu b w mi : Nat} {c f : Int32} {C : Nat → Nat → Option Nat}
theorem tell_loop (hw : w < 4) (hm : mi < 240) : ∀ (d g i : Nat) (M : Mm), BS K L (mm_R M) C b → mi - i = d → i ≤ 240 → d < g → ∃ M', f_X2_tell_17 K L fu (b + 14 + 4 * w) g (nI mi) c f (nI i) M = some M' ∧ tlOk M M' b w i mi c f := by
  intro d
  induction d with
  | zero =>
    intro g i M h h1 h2 h3
    obtain ⟨g, rfl⟩ : ∃ g', g = g' + 1 := ⟨g - 1, by omega⟩
    obtain ⟨a1, a2, a3, a4, a5, a6, a7, a8, a9, a10, a11⟩ := h.2.2.2.2.2.2.2.2 w hw
    refine ⟨ms_A (ms_A (ms_A (ms_I M 65 (b + 14 + 4 * w) (if mm_I M 65 (b + 14 + 4 * w) < nI mi + 1 then nI mi + 1 else mm_I M 65 (b + 14 + 4 * w))) (b + 15 + 4 * w) (upd (mm_A M (b + 15 + 4 * w)) mi c)) (b + 16 + 4 * w) (upd (mm_A M (b + 16 + 4 * w)) mi f)) (b + 17 + 4 * w) (upd (mm_A M (b + 17 + 4 * w)) mi 0), ?_, rfl, rfl, fun a ha => (((eqAt.I (by omega)).tr (eqAt.A (by omega))).tr (eqAt.A (by omega))).tr (eqAt.A (by omega)), ?_, ?_, fun j => ?_, ?_, ?_⟩
    · show f_X2_tell_17b K L fu (f_X2_tell_17 K L fu (b + 14 + 4 * w) g) (b + 14 + 4 * w) (nI mi) c f (nI i) M = _
      unfold f_X2_tell_17b
      rw [if_pos (nI_le (by omega) (by omega))]
      simp only [bn_eq, R_I, R_A, show mm_R M (32 * 2 + 2) (b + 14 + 4 * w) = _ from a3, show mm_R M (32 * 2 + 3) (b + 14 + 4 * w) = _ from a4, show mm_R M (32 * 2 + 4) (b + 14 + 4 * w) = _ from a5, rx_ok a6 a7 hm (by decide), rx_ok a8 a9 hm (by decide), rx_ok a10 a11 hm (by decide), Option.bind_some, nI_clamp (show mi < 2 ^ 31 by omega), A_I, A_A]
      rw [if_neg (show ¬ b + 16 + 4 * w = b + 15 + 4 * w by omega), if_neg (show ¬ b + 17 + 4 * w = b + 16 + 4 * w by omega), if_neg (show ¬ b + 17 + 4 * w = b + 15 + 4 * w by omega)]
    · rw [I_A, I_A, I_A, I_I, if_neg (by omega)]
    · rw [I_A, I_A, I_A, I_I, if_pos ⟨rfl, rfl⟩]
    · rw [A_A, if_neg (by omega), A_A, if_neg (by omega), A_A, if_pos rfl, upd_eq, if_neg (show ¬ (i ≤ j ∧ j < mi) by omega)]
    · rw [A_A, if_neg (by omega), A_A, if_pos rfl]
    · rw [A_A, if_pos rfl]
  | succ d ih =>
    intro g i M h h1 h2 h3
    obtain ⟨g, rfl⟩ : ∃ g', g = g' + 1 := ⟨g - 1, by omega⟩
    obtain ⟨a1, a2, a3, a4, a5, a6, a7, a8, a9, a10, a11⟩ := h.2.2.2.2.2.2.2.2 w hw
    obtain ⟨M', i1, i2, i3, i4, i5, i6, i7, i8, i9⟩ := ih g (i + 1) (ms_A M (b + 15 + 4 * w) (upd (mm_A M (b + 15 + 4 * w)) i (-1))) h (by omega) (by omega) (by omega)
    refine ⟨M', ?_, i2, i3, fun a ha => (eqAt.A (by omega)).tr (i4 a ha), i5, i6, fun j => ?_, ?_, ?_⟩
    · show f_X2_tell_17b K L fu (f_X2_tell_17 K L fu (b + 14 + 4 * w) g) (b + 14 + 4 * w) (nI mi) c f (nI i) M = _
      unfold f_X2_tell_17b
      rw [if_neg (nI_ge (by omega) (by omega)), show mm_R M (32 * 2 + 2) (b + 14 + 4 * w) = _ from a3, rx_ok a6 a7 (show i < 240 by omega) (by decide)]
      simp only [Option.bind_some, bn_eq, nI_clamp (show i < 2 ^ 31 by omega), nI_1]
      exact i1
    · rw [i7, A_A, if_pos rfl, upd_eq]
      by_cases q1 : j = mi
      · rw [if_pos q1, if_pos q1]
      · rw [if_neg q1, if_neg q1]
        by_cases q2 : i + 1 ≤ j ∧ j < mi
        · rw [if_pos q2, if_pos (by omega)]
        · rw [if_neg q2]
          by_cases q3 : j = i
          · rw [if_pos q3, if_pos (by omega)]
          · rw [if_neg q3, if_neg (by omega)]
    · rw [i8, A_A, if_neg (by omega)]
    · rw [i9, A_A, if_neg (by omega)]
theorem tell_eq {M : Mm} {e : Nat} (hw : w < 4) (hm : mi < 240) (h : BS K L (mm_R M) C b) (he : mm_I M 65 (b + 14 + 4 * w) = nI e) (he1 : e ≤ 240) (hfu : 1000 ≤ fu) : ∃ M', f_X2_tell K L fu (b + 14 + 4 * w) (nI mi) c f M = some M' ∧ tlOk M M' b w e mi c f := by
  unfold f_X2_tell
  rw [within_eq, show (239 : Int32).toInt = 239 from rfl, if_pos (mi_t hm)]
  simp only [Option.bind_some, bn_eq]
  rw [if_neg (by decide), show mm_I M (32 * 2 + 1) (b + 14 + 4 * w) = _ from he]
  exact tell_loop hw hm (mi - e) fu e M h rfl he1 (by omega)
end TL
/-- the reference's row after a count -/
def tlS (S : Nat → Int32) (o w mi : Nat) (c f : Int32) : Nat → Int32 := upd (upd (upd (upd S (o + (100 + 4 * (240 * w + mi))) 1) (o + (100 + 4 * (240 * w + mi) + 1)) c) (o + (100 + 4 * (240 * w + mi) + 2)) f) (o + (100 + 4 * (240 * w + mi) + 3)) 0
theorem tlS_o {S : Nat → Int32} {o w mi i : Nat} {c f : Int32} (h : i < o + (100 + 4 * (240 * w + mi)) ∨ o + (103 + 4 * (240 * w + mi)) < i) : tlS S o w mi c f i = S i := by
  unfold tlS
  rw [upd_eq, if_neg (by omega), upd_eq, if_neg (by omega), upd_eq, if_neg (by omega), upd_eq, if_neg (by omega)]
theorem tell_rAll {M M' : Mm} {b o w mi e c f : Nat} {S : Nat → Int32} (hw : w < 4) (hm : mi < 240) (hc : c ≤ 1000000) (hf : f ≤ c) (r : rAll M b S o) (he : mm_I M 65 (b + 14 + 4 * w) = nI e) (he1 : e ≤ 240) (t : tlOk M M' b w e mi (nI c) (nI f)) : rAll M' b (tlS S o w mi (nI c) (nI f)) o := by
  obtain ⟨t1, t2, t3, t4, t5, t6, t7, t8⟩ := t
  have hs : ∀ j, j < 100 ∨ 103 + 4 * (240 * w + mi) < j → tlS S o w mi (nI c) (nI f) (o + j) = S (o + j) := fun j hj => tlS_o (by omega)
  refine but_Ct (w := w) hw (fun y h5 h6 h7 => t3 y h7) (fun j h5 h6 => tlS_o (by omega)) r ?_
  obtain ⟨r1, r2, e', r3, r4, r5⟩ := r.ct hw
  have : e' = e := (nI_eq (by omega) (by omega)).mp (r4.symm.trans he)
  subst this
  have e90 := hs (90 + w) (by omega)
  rw [← Nat.add_assoc] at e90
  have hlt : nI e' < nI mi + 1 ↔ e' < mi + 1 := by rw [nI_1, t_lt, nI_toInt (by omega), nI_toInt (by omega)]; omega
  refine ⟨by rw [t4, e90]; exact r1, by rw [e90]; exact r2, if e' < mi + 1 then mi + 1 else e', by split <;> omega, ?_, fun m hm' => ?_⟩
  · rw [t5, he]
    by_cases q : e' < mi + 1
    · rw [if_pos q, if_pos (hlt.mpr q), nI_1]
    · rw [if_neg q, if_neg (fun h => q (hlt.mp h))]
  · by_cases q : m = mi
    · subst q
      right
      have h0 : tlS S o w m (nI c) (nI f) (o + 100 + 4 * (240 * w + m)) = 1 := by
        unfold tlS
        rw [upd_eq, if_neg (by omega), upd_eq, if_neg (by omega), upd_eq, if_neg (by omega), upd_eq, if_pos (by omega)]
      have h1 : tlS S o w m (nI c) (nI f) (o + 101 + 4 * (240 * w + m)) = nI c := by
        unfold tlS
        rw [upd_eq, if_neg (by omega), upd_eq, if_neg (by omega), upd_eq, if_pos (by omega)]
      have h2 : tlS S o w m (nI c) (nI f) (o + 102 + 4 * (240 * w + m)) = nI f := by
        unfold tlS
        rw [upd_eq, if_neg (by omega), upd_eq, if_pos (by omega)]
      have h3 : tlS S o w m (nI c) (nI f) (o + 103 + 4 * (240 * w + m)) = 0 := by
        unfold tlS
        rw [upd_eq, if_pos (by omega)]
      rw [h0, h1, h2, h3, t6, t7, t8, if_pos rfl, upd_eq, if_pos rfl, upd_eq, if_pos rfl]
      exact ⟨rfl, by split <;> omega, rfl, rfl, rfl, c, f, 0, hc, hf, by omega, rfl, rfl, rfl⟩
    · have hk : ∀ k, k ≤ 3 → tlS S o w mi (nI c) (nI f) (o + (100 + k) + 4 * (240 * w + m)) = S (o + (100 + k) + 4 * (240 * w + m)) := fun k hk => tlS_o (by omega)
      rw [show tlS S o w mi (nI c) (nI f) (o + 100 + 4 * (240 * w + m)) = _ from hk 0 (by decide), show tlS S o w mi (nI c) (nI f) (o + 101 + 4 * (240 * w + m)) = _ from hk 1 (by decide), show tlS S o w mi (nI c) (nI f) (o + 102 + 4 * (240 * w + m)) = _ from hk 2 (by decide), show tlS S o w mi (nI c) (nI f) (o + 103 + 4 * (240 * w + m)) = _ from hk 3 (by decide), t6, t7, t8, if_neg q, upd_eq, if_neg q, upd_eq, if_neg q]
      rcases r5 m hm' with ⟨q1, q2, q3, q4, q5⟩ | ⟨q1, q2, q3, q4, q5, q6⟩
      · left
        refine ⟨q1, q2, q3, q4, fun h => ?_⟩
        by_cases x : e' ≤ m ∧ m < mi
        · rw [if_pos x]
        · rw [if_neg x]
          refine q5 ?_
          by_cases y : e' < mi + 1
          · rw [if_pos y] at h; omega
          · rw [if_neg y] at h; omega
      · right
        refine ⟨q1, by split <;> omega, ?_, q4, q5, q6⟩
        rw [if_neg (by omega)]
        exact q3
