/-! both -/
section BO
variable {B n : Nat} {K L : Nat → Nat} {fu : Nat} {M : Mm} {rk : Nat → Nat}
def boc (B : Nat) (M : Mm) (f p p' : Nat) : Nat → Int32
  | 0 => 0
  | i + 1 => if wn B M (f + i) p = 1 ∧ wn B M (f + i) p' = 1 then boc B M f p p' i + 1 else boc B M f p p' i
theorem both_c {f p p' m : Nat} (iv : Iv B n K L M) (h16 : ∀ p, rk p < 16) (hr : ∀ p q, p < 16 → q < 16 → ((hgo (mm_A M (B + 45)) p = some q) ∨ ∃ t, t < 16 ∧ stp (mm_A M (B + 45)) t p ∧ hgo (mm_A M (B + 45)) t = some q) → rk q < rk p) (hfu : 5000 ≤ fu) (hp : p < 16) (hi : isw (mm_A M (B + 45)) p) (hp' : p' < 16) (hi' : isw (mm_A M (B + 45)) p') (hm : m ≤ 2000) (hf : f + m ≤ 1000000) : ∀ (d g i : Nat) (N : Mm), scr B M N → stk B (mm_A M (B + 45)) N → i + d = m → d < g → ∃ N', f_X11_both_88 K L fu B g (nI p) (nI p') (nI f) (nI m) (boc B M f p p' i) (nI i) N = some (boc B M f p p' m, N') ∧ scr B M N' := by
  have hr3 : mm_R M (32 * 11 + 3) B = some (B + 37) := iv.1.2.1.1.2.2.2.1
  have hr0 : mm_R M (32 * 11 + 0) B = some (B + 1) := iv.1.2.1.1.2.1
  have hk1 : K (B + 37) = 1 := iv.1.2.1.2.2.2.1.1
  intro d
  induction d with
  | zero =>
    intro g i N sc st h1 h2
    obtain ⟨g, rfl⟩ : ∃ g', g = g' + 1 := ⟨g - 1, by omega⟩
    have : i = m := by omega
    subst this
    refine ⟨N, ?_, sc⟩
    show f_X11_both_88b K L fu (f_X11_both_88 K L fu B g) B (nI p) (nI p') (nI f) (nI i) _ (nI i) N = _
    unfold f_X11_both_88b
    rw [if_pos (nI_le (Nat.le_refl _) (by omega))]
  | succ d ih =>
    intro g i N sc st h1 h2
    obtain ⟨g, rfl⟩ : ∃ g', g = g' + 1 := ⟨g - 1, by omega⟩
    obtain ⟨N1, N2, a1, a2, a3, a4, a5⟩ := ask_way (fu := fu) (x := f + i) iv h16 hr (by omega) hp hi sc st
    obtain ⟨N3, c1, c2, c3⟩ := way_c (fu := fu) (WF_iv iv) h16 hr (by omega) 20 p' 0 hp' hi' (by have := h16 p'; omega) (by have := h16 p'; omega) N2 (iv_scr iv a4) a4.S a5
    have c4 := a4.tr c2
    have ea : boc B M f p p' (i + 1) = if wn B M (f + i) p = 1 ∧ wn B M (f + i) p' = 1 then boc B M f p p' i + 1 else boc B M f p p' i := rfl
    have E : f_X11_both_88 K L fu B (g + 1) (nI p) (nI p') (nI f) (nI m) (boc B M f p p' i) (nI i) N = if wn B M (f + i) p = 1 then (if wn B M (f + i) p' = 1 then f_X11_both_88 K L fu B g (nI p) (nI p') (nI f) (nI m) (boc B M f p p' i + 1) (nI (i + 1)) N3 else f_X11_both_88 K L fu B g (nI p) (nI p') (nI f) (nI m) (boc B M f p p' i) (nI (i + 1)) N3) else f_X11_both_88 K L fu B g (nI p) (nI p') (nI f) (nI m) (boc B M f p p' i) (nI (i + 1)) N2 := by
      show f_X11_both_88b K L fu (f_X11_both_88 K L fu B g) B (nI p) (nI p') (nI f) (nI m) (boc B M f p p' i) (nI i) N = _
      unfold f_X11_both_88b
      rw [if_neg (nI_ge (by omega) (by omega)), show mm_R N (32 * 11 + 3) B = some (B + 37) by rw [sc.1]; exact hr3, nI_add, nI_1]
      refine (rcb hk1 _).trans ?_
      refine (sb a1 _).trans ?_
      rw [show mm_R N1 (32 * 11 + 3) B = some (B + 37) by rw [a2]; exact hr3, show mm_R N1 (32 * 11 + 0) B = some (B + 1) by rw [a2]; exact hr0]
      refine (rcb hk1 _).trans ?_
      refine (sb a3 _).trans ?_
      by_cases q : wn B M (f + i) p = 1
      · rw [if_pos q, if_pos q, show mm_R N2 (32 * 11 + 3) B = some (B + 37) by rw [a4.1]; exact hr3, show mm_R N2 (32 * 11 + 0) B = some (B + 1) by rw [a4.1]; exact hr0]
        refine (rcb hk1 _).trans ?_
        exact sb c1 _
      · rw [if_neg q, if_neg q]
    rw [E]
    by_cases q : wn B M (f + i) p = 1
    · rw [if_pos q]
      obtain ⟨N4, b1, b2⟩ := ih g (i + 1) N3 c4 c3.stk (by omega) (by omega)
      refine ⟨N4, ?_, b2⟩
      rw [ea] at b1
      by_cases q2 : wn B M (f + i) p' = 1
      · rw [if_pos ⟨q, q2⟩] at b1
        rw [if_pos q2]
        exact b1
      · rw [if_neg (fun x => q2 x.2)] at b1
        rw [if_neg q2]
        exact b1
    · rw [if_neg q]
      obtain ⟨N4, b1, b2⟩ := ih g (i + 1) N2 a4 a5.stk (by omega) (by omega)
      refine ⟨N4, ?_, b2⟩
      rw [ea, if_neg (fun x => q x.1)] at b1
      exact b1
theorem both_m {f p p' m : Nat} {v6 : Int32} (iv : Iv B n K L M) (h16 : ∀ p, rk p < 16) (hr : ∀ p q, p < 16 → q < 16 → ((hgo (mm_A M (B + 45)) p = some q) ∨ ∃ t, t < 16 ∧ stp (mm_A M (B + 45)) t p ∧ hgo (mm_A M (B + 45)) t = some q) → rk q < rk p) (hfu : 5000 ≤ fu) (hp : p < 16) (hi : isw (mm_A M (B + 45)) p) (hp' : p' < 16) (hi' : isw (mm_A M (B + 45)) p') (hm : m ≤ 2000) (hf : f + m ≤ 1000000) (h6 : v6 = mm_I M 392 (B + 44)) : ∀ (d g i : Nat) (N : Mm), sc2 B M N → mm_I N 392 (B + 44) = nI (f + i) → i + d = m → d < g → ∃ N', f_X12_both_61 K L fu (B + 44) g (nI p) (nI p') (nI f) (nI m) v6 (boc B M f p p' i) N = some (boc B M f p p' m, N') ∧ scr B M N' := by
  have w := WF_iv iv
  intro d
  induction d with
  | zero =>
    intro g i N sc hn h1 h2
    obtain ⟨g, rfl⟩ : ∃ g', g = g' + 1 := ⟨g - 1, by omega⟩
    have : i = m := by omega
    subst this
    refine ⟨ms_I N 392 (B + 44) v6, ?_, by rw [h6]; exact sc⟩
    show f_X12_both_61b K L fu (f_X12_both_61 K L fu (B + 44) g) (B + 44) (nI p) (nI p') (nI f) (nI i) v6 _ N = _
    unfold f_X12_both_61b
    rw [show mm_I N (32 * 12 + 8) (B + 44) = nI (f + i) from hn, nI_add, if_pos (nI_le (Nat.le_refl _) (by omega))]
    rfl
  | succ d ih =>
    intro g i N sc hn h1 h2
    obtain ⟨g, rfl⟩ : ∃ g', g = g' + 1 := ⟨g - 1, by omega⟩
    obtain ⟨N3, f1, f2, f3⟩ := findWays_eq (fu := fu) (K := K) (L := L) (B := B) (M := N) (l := mm_I M 393 (B + 44)) (a := mm_I M 394 (B + 44)) (s := mm_I M 395 (B + 44)) (nu := nI (f + i)) w h16 hr (by omega) (sc.MS iv.1.1) sc.S ⟨hn, sc.I (by decide) (by decide), sc.I (by decide) (by decide), sc.I (by decide) (by decide)⟩
    have hN3 : MS B K L (mm_R N3) := f2.MS (sc.MS iv.1.1)
    have n3 : mm_I N3 392 (B + 44) = nI (f + i) := (f2.2.2.2.2.1 392 _ (by omega) (by omega)).trans hn
    have ea : boc B M f p p' (i + 1) = if wn B M (f + i) p = 1 ∧ wn B M (f + i) p' = 1 then boc B M f p p' i + 1 else boc B M f p p' i := rfl
    obtain ⟨N4, b1, b2⟩ := ih g (i + 1) (ms_I N3 392 (B + 44) (nI (f + (i + 1)))) ((sc.step f2).num _) (by rw [I_I, if_pos ⟨rfl, rfl⟩]) (by omega) (by omega)
    refine ⟨N4, ?_, b2⟩
    rw [ea] at b1
    have h103 : ∀ z : Int32, f_X12_both_103 K L fu (f_X12_both_61 K L fu (B + 44) g) (B + 44) (nI p) (nI p') (nI f) (nI m) v6 z (boc B M f p p' i) N3 = f_X12_both_61 K L fu (B + 44) g (nI p) (nI p') (nI f) (nI m) v6 (boc B M f p p' i + z) (ms_I N3 392 (B + 44) (nI (f + (i + 1)))) := by
      intro z
      unfold f_X12_both_103
      rw [bn_eq, bn_eq, show mm_I N3 (32 * 12 + 8) (B + 44) = nI (f + i) from n3, nI_1]
      rfl
    show f_X12_both_61b K L fu (f_X12_both_61 K L fu (B + 44) g) (B + 44) (nI p) (nI p') (nI f) (nI m) v6 (boc B M f p p' i) N = _
    unfold f_X12_both_61b f_X12_both_102
    rw [show mm_I N (32 * 12 + 8) (B + 44) = nI (f + i) from hn, nI_add, if_neg (nI_ge (by omega) (by omega))]
    refine (sb f1 _).trans ?_
    rw [show mm_R N3 (32 * 12 + 12) (B + 44) = some (B + 51) from hN3.1.2.2.2.2.2.2.2.1]
    refine (sb (rx_ok hN3.2.1.2.2.2.2.2.2.1 hN3.2.2.2.2.2.2.2.2.1 hp (by decide)) _).trans ?_
    rw [nI_clamp (by omega), f3 p hp hi, h103, h103]
    by_cases q : wn B M (f + i) p = 1
    · rw [if_pos q]
      refine (sb (rx_ok hN3.2.1.2.2.2.2.2.2.1 hN3.2.2.2.2.2.2.2.2.1 hp' (by decide)) _).trans ?_
      rw [nI_clamp (by omega), f3 p' hp' hi']
      by_cases q2 : wn B M (f + i) p' = 1
      · rw [if_pos ⟨q, q2⟩] at b1
        rw [if_pos q2]
        exact b1
      · rw [if_neg (fun x => q2 x.2)] at b1
        rw [if_neg q2, Int32.add_zero]
        exact b1
    · rw [if_neg (fun x => q x.1)] at b1
      rw [if_neg q, Int32.add_zero]
      exact b1
end BO
/-- both -/
theorem st_34 {fu : Nat} (hfu : 5000 ≤ fu) : so_34 Iv fu := by
  intro B n K L M w1 w2 w3 w4 iv
  by_cases hc : 0 ≤ w3.toInt ∧ w3.toInt ≤ 999999
  · obtain ⟨f, f1, rfl⟩ := n_of (v := w3) (m := 999999) hc.1 hc.2 (by decide)
    have e1 : f_X11_both K L fu B w1 w2 (nI f) w4 M = Option.bind (rc K (mm_R M (32 * 11 + 0) B) 8) (fun a3 => Option.bind (f_X8_find K L M a3 w1 (31 : Int32)) (fun x5 => if x5 = none then f_X11_both_42 K L fu B w1 w2 M else Option.bind (f_X8_find K L M a3 w2 (31 : Int32)) (fun x7 => if x7 = none then f_X11_both_42 K L fu B w1 w2 M else Option.bind (f_X11_crowdFault (nI f) w4) (fun x9 => if x9 = 0 then Option.bind (rc K (mm_R M (32 * 11 + 3) B) 1) (fun a11 => Option.bind (f_X1_begin K L fu a11 (mm_R M (32 * 11 + 0) B) M) (fun x13 => f_X11_both_88 K L fu B fu w1 w2 (nI f) w4 (0 : Int32) (0 : Int32) x13)) else Option.bind (f_X11_refuse K L B x9 M) (fun x15 => some (x15.1, x15.2)))))) := by
      unfold f_X11_both
      rw [within_eq, show (999999 : Int32).toInt = 999999 from rfl, if_pos hc]
      rfl
    have e2 : ∀ m, f_X12_both K L fu (B + 44) w1 w2 (nI f) w4 m = Option.bind (f_X12_whyTwo K L m (B + 44) w1 w2 (nI 0)) (fun x3 => f_X12_both_19 K L fu (B + 44) w1 w2 (nI f) w4 x3 m) := by
      intro m
      unfold f_X12_both
      rw [isNumber_eq, if_pos hc]
      rfl
    rcases gate_two iv w1 w2 (kinds := 31) (kind := 0) (by unfold kb; simp) with ⟨k, k1, k2, ⟨x, y, ex, ey, hxy⟩, h2, h3⟩ | ⟨p, b, hh, p', b', hh', rfl, rfl, ok1, ok2, g, g', q1, q2, h3⟩
    · refine fin_no iv k k1 k2 (F2 := fun m => f_X12_both K L fu (B + 44) w1 w2 (nI f) w4 m) ?_ ?_
      · rw [e1, (shelf_at iv).1, (shelf_at iv).2]
        refine (sb rfl _).trans ?_
        refine (sb ex _).trans ?_
        unfold f_X11_both_42
        rw [h2, bind_eta]
        by_cases q : x = none
        · rw [if_pos q]
        · rw [if_neg q]
          refine (sb ey _).trans ?_
          rw [if_pos (hxy.resolve_left q)]
      · show f_X12_both K L fu (B + 44) w1 w2 (nI f) w4 (bump M (B + 43) k) = _
        rw [e2]
        refine (sb (h3 _ sameS_bump) _).trans ?_
        unfold f_X12_both_19 f_X12_both_35
        rw [if_neg (ng_ne k1 k2), if_neg (ng_ne k1 k2)]
        exact bind_eta _
    · obtain ⟨c, k1, k2, k3, k4⟩ := crowd_eq f1 w4
      have E1 : f_X11_both K L fu B (nI p) (nI p') (nI f) w4 M = if c = 0 then Option.bind (rc K (mm_R M (32 * 11 + 3) B) 1) (fun a11 => Option.bind (f_X1_begin K L fu a11 (mm_R M (32 * 11 + 0) B) M) (fun x13 => f_X11_both_88 K L fu B fu (nI p) (nI p') (nI f) w4 (0 : Int32) (0 : Int32) x13)) else f_X11_refuse K L B c M := by
        rw [e1, (shelf_at iv).1, (shelf_at iv).2]
        refine (sb rfl _).trans ?_
        refine (sb q1 _).trans ?_
        rw [if_neg (by simp)]
        refine (sb q2 _).trans ?_
        rw [if_neg (by simp)]
        refine (sb k1 _).trans ?_
        rw [bind_eta]
      have E2 : ∀ m, sameS B M m → f_X12_both K L fu (B + 44) (nI p) (nI p') (nI f) w4 m = f_X12_both_35 K L fu (B + 44) (nI p) (nI p') (nI f) w4 c m := by
        intro m hm
        rw [e2]
        refine (sb (h3 m hm) _).trans ?_
        unfold f_X12_both_19
        rw [if_pos rfl]
        exact sb (k2 _) _
      have neg : ∀ k, 2 ≤ k → k ≤ 13 → c = -(nI k) → ∃ x1 x2, f_X11_both K L fu B (nI p) (nI p') (nI f) w4 M = some x1 ∧ f_X12_both K L fu (B + 44) (nI p) (nI p') (nI f) w4 x1.2 = some x2 ∧ x1.1 = x2.1 ∧ Iv B n K L x2.2 := by
        intro k h1 h2 hk
        refine fin_no iv k h1 h2 (F2 := fun m => f_X12_both K L fu (B + 44) (nI p) (nI p') (nI f) w4 m) ?_ ?_
        · rw [E1, hk, if_neg (ng_ne h1 h2)]
        · show f_X12_both K L fu (B + 44) (nI p) (nI p') (nI f) w4 (bump M (B + 43) k) = _
          rw [E2 _ sameS_bump, hk]
          unfold f_X12_both_35
          rw [if_neg (ng_ne h1 h2)]
          exact bind_eta _
      rcases k3 with h0 | h0 | h0
      · obtain ⟨m, m1, m2, rfl, m4⟩ := k4 h0
        have hp := g.1
        have hi := isw_ok g
        have hp' := g'.1
        have hi' := isw_ok g'
        obtain ⟨rk, h16, hr⟩ := rk_w (WF_iv iv) iv.2.2.2.1
        have hr3 : mm_R M (32 * 11 + 3) B = some (B + 37) := iv.1.2.1.1.2.2.2.1
        have hr0 : mm_R M (32 * 11 + 0) B = some (B + 1) := iv.1.2.1.1.2.1
        obtain ⟨N, sv, b1, b2, b3, b4, b5, b6⟩ := begin_c (fu := fu) iv rfl (by omega)
        obtain ⟨N1, a1, a2⟩ := both_c (fu := fu) iv h16 hr hfu hp hi hp' hi' m2 m4 m fu 0 N b2 ⟨sv, b4, b5, b6⟩ (by omega) (by omega)
        have e392 : mm_I N1 392 (B + 44) = mm_I M 392 (B + 44) := a2.2.2.2.2.1 392 _ (by omega) (by omega)
        obtain ⟨N2, d1, d2⟩ := both_m (fu := fu) (v6 := mm_I M 392 (B + 44)) iv h16 hr hfu hp hi hp' hi' m2 m4 rfl m fu 0 (ms_I N1 392 (B + 44) (nI f)) ((sc2.of a2).num _) (by rw [I_I, if_pos ⟨rfl, rfl⟩]; rfl) (by omega) (by omega)
        refine ⟨(boc B M f p p' m, N1), (boc B M f p p' m, N2), ?_, ?_, rfl, iv_scr iv d2⟩
        · rw [E1, if_pos h0, hr3, hr0]
          refine (rcb iv.1.2.1.2.2.2.1.1 _).trans ?_
          refine (sb b1 _).trans ?_
          exact a1
        · show f_X12_both K L fu (B + 44) (nI p) (nI p') (nI f) (nI m) N1 = _
          rw [E2 _ a2.same]
          unfold f_X12_both_35
          rw [if_pos h0, bn_eq, bn_eq, show mm_I N1 (32 * 12 + 8) (B + 44) = mm_I M 392 (B + 44) from e392]
          exact d1
      · exact neg 4 (by decide) (by decide) h0
      · exact neg 12 (by decide) (by decide) h0
  · refine fin_no iv 3 (by decide) (by decide) (F2 := fun m => f_X12_both K L fu (B + 44) w1 w2 w3 w4 m) ?_ ?_
    · unfold f_X11_both
      rw [within_eq, show (999999 : Int32).toInt = 999999 from rfl, if_neg hc]
      exact bind_eta _
    · show f_X12_both K L fu (B + 44) w1 w2 w3 w4 (bump M (B + 43) 3) = _
      unfold f_X12_both
      rw [isNumber_eq, if_neg hc]
      show f_X12_both_19 K L fu (B + 44) w1 w2 w3 w4 (-3) (bump M (B + 43) 3) = _
      unfold f_X12_both_19 f_X12_both_35
      rw [if_neg (by decide), if_neg (by decide)]
      exact bind_eta _
