/-! the class's ways; way, why -/
section WA
variable {B n : Nat} {K L : Nat → Nat} {fu : Nat} {S : Nat → Int32} {l a s nu : Int32} {rk : Nat → Nat}
theorem wyv_7 {W : Nat → Int32} {p : Nat} (w : WF S) (hp : p < 16) (hi : isw S p) : (wyv S l a s W p = 7) ∨ (∃ j : Nat, j < 16 ∧ wyv S l a s W p = nI (8 + j)) ∨ (wyv S l a s W p = 0) ∨ ∃ k j : Nat, k ≤ 6 ∧ S (3940 * p + 3) = nI k ∧ j < k ∧ wyv S l a s W p = nI (j + 1) := by
  obtain ⟨hh, h6, hSS, hok⟩ := w p hp
  have := (isw_h h6 hSS).mp hi
  obtain ⟨-, k, k1, k2⟩ := hok this.1 this.2
  unfold wyv
  rcases fst_or S W p 16 0 with y | ⟨j, -, j2, y⟩
  · rw [if_pos y]
    by_cases q : hgo S p = none ∨ W ((hgo S p).getD 0) = S (3940 * p + 45)
    · rw [if_pos q, k2, nI_clamp (by omega)]
      rcases rlv_or S (3940 * p) l a s k 0 with h | ⟨j, -, j2, h⟩
      · exact Or.inr (Or.inr (Or.inl h))
      · exact Or.inr (Or.inr (Or.inr ⟨k, j, k1, rfl, by omega, h⟩))
    · rw [if_neg q]; exact Or.inl rfl
  · have yn : ¬ fst' S W p 16 0 = -1 := by
      rw [y]
      intro e
      have := congrArg Int32.toInt e
      rw [nI_toInt (by omega), show (-1 : Int32).toInt = -1 from rfl] at this
      omega
    rw [if_neg yn, y, show (8 : Int32) = nI 8 from rfl, nI_add]
    exact Or.inr (Or.inl ⟨j, by omega, rfl⟩)
theorem wayBy_c {N : Mm} {p b hh : Nat} {W : Nat → Int32} (w : WF S) (hi : isw S p) (g : Got B K L N p b hh) (hS : mm_A N (B + 45) = S) (h36 : mm_I N 36 (B + 37) = nu) (hfu : 1000 ≤ fu) : f_X1_wayBy K L fu N (B + 37) (some b) (wyv S l a s W p) = some (wbv S nu p (wyv S l a s W p)) := by
  obtain ⟨g1, g2, g3, g4, g5, g6, g7, g8, g9, g10, g11⟩ := id g
  rw [hS] at g11
  unfold f_X1_wayBy wbv
  rcases wyv_7 (l := l) (a := a) (s := s) (W := W) w g1 hi with h | ⟨j, j1, h⟩ | h | ⟨k, j, k1, k2, j1, h⟩
  · rw [h, if_neg (by decide), if_neg (by decide)]
  · rw [h, if_neg (show ¬ nI (8 + j) < 7 by rw [t_lt, nI_toInt (by omega), show (7 : Int32).toInt = 7 from rfl]; omega), if_neg (show ¬ nI (8 + j) < 7 by rw [t_lt, nI_toInt (by omega), show (7 : Int32).toInt = 7 from rfl]; omega)]
  · rw [h, if_pos (by decide), if_pos rfl, if_pos (by decide), if_pos rfl]
    refine (rcb g9.1.1 _).trans ?_
    rw [show mm_I N (32 * 1 + 4) (B + 37) = nu from h36]
    refine (sb (show f_X9_seatOf K L N b nu = some (seatV (S (3940 * p + 1)) nu (S (3940 * p + 2))) by rw [seatOf_c, g11.1.2.1, g11.1.2.2.1]) _).trans ?_
    rw [show mm_R N (32 * 9 + 4) b = some (b + 6) from g9.1.2.2.1]
    refine (rcb g9.2.2.1.1 _).trans ?_
    exact (sb (show f_X7_wayOfSeat K L fu N (b + 6) (seatV (S (3940 * p + 1)) nu (S (3940 * p + 2))) = _ from seat_c (fu := fu) g9 g11.2.2.1 7 fu 1 (by omega) (by omega) (by omega)) _).trans rfl
  · obtain ⟨k', c1, c2, c3, c4⟩ := g11.2.1
    have ek : k' = k := (nI_eq (by omega) (by omega)).mp (c2.symm.trans k2)
    subst ek
    have e1 : nI (j + 1) - 1 = nI j := by rw [← nI_1, Int32.add_sub_cancel]
    rw [h, if_pos (show nI (j + 1) < 7 by rw [t_lt, nI_toInt (by omega), show (7 : Int32).toInt = 7 from rfl]; omega), if_neg (nI_ne0 (by omega) (by omega)), if_pos (show nI (j + 1) < 7 by rw [t_lt, nI_toInt (by omega), show (7 : Int32).toInt = 7 from rfl]; omega), if_neg (nI_ne0 (by omega) (by omega)), nI_clamp (by omega), show j + 1 - 1 = j from rfl]
    refine (rcb g9.1.1 _).trans ?_
    rw [show mm_R N (32 * 9 + 3) b = some (b + 1) from g9.1.2.1]
    refine (rcb g9.2.1.1 _).trans ?_
    have hwr : f_X6_wayOfRule K L N (b + 1) (nI (j + 1)) = some (S (3940 * p + 7 + 4 * j)) := by
      unfold f_X6_wayOfRule
      rw [if_neg (show ¬ nI (j + 1) < 1 by rw [t_lt, nI_toInt (by omega), show (1 : Int32).toInt = 1 from rfl]; omega), show mm_I N (32 * 6 + 0) (b + 1) = nI k' from c3, if_neg (show ¬ nI k' < nI (j + 1) by rw [t_lt, nI_toInt (by omega), nI_toInt (by omega)]; omega), e1, show mm_R N (32 * 6 + 4) (b + 1) = some (b + 5) from g9.2.1.2.2.2.2.1, rx_ok g9.2.1.2.2.2.2.2.2.2.2.2.2.2.1 g9.2.1.2.2.2.2.2.2.2.2.2.2.2.2 (show j < 6 by omega) (by decide)]
      refine (sb rfl _).trans ?_
      rw [nI_clamp (by omega), (c4 j j1).2.2.2.1]
    exact (sb hwr _).trans rfl
theorem way_c (w : WF S) (h16 : ∀ p, rk p < 16) (hr : ∀ p q, p < 16 → q < 16 → ((hgo S p = some q) ∨ ∃ t, t < 16 ∧ stp S t p ∧ hgo S t = some q) → rk q < rk p) (hfu : 1000 ≤ fu) : ∀ (g p dep : Nat), p < 16 → isw S p → rk p < g → dep + rk p ≤ 16 → asked B n K L S (Ww S l a s nu) l a s nu (f_X1_wayAt K L fu g) p dep := by
  intro g
  induction g with
  | zero => intro p dep hp hi h1; omega
  | succ g ih =>
    intro p dep hp hi h1 h2 N iv hS cw
    obtain ⟨b, hh, gb⟩ := sw_some iv hS hp hi
    obtain ⟨sv, kv, c1, c2, c3, c4, c5, c6, c7, c8, c9, c10⟩ := id cw
    have h37 := iv.1.2.1.2.2.2.1
    have hx : rx K L (some (B + 38)) 13 (nI p) = some (B + 38) := rx_ok h37.2.2.1 h37.2.2.2 hp (by decide)
    have hsw : f_X8_switchAt K L N (B + 1) (nI p) = some (some b) := by rw [switchAt_in iv.1.2.1 hp, gb.2.2.2.2.1]
    have hdep : nI dep ≤ (16 : Int32) := by rw [t_le, nI_toInt (by omega), show (16 : Int32).toInt = 16 from rfl]; omega
    have hE : f_X1_wayAt K L fu (g + 1) (B + 37) (some (B + 1)) (nI p) (nI dep) N = f_X1_wayAtb K L fu (f_X1_wayAt K L fu g) (B + 37) (some (B + 1)) (nI p) (nI dep) N := rfl
    by_cases q : kv / 2 ^ p % 2 = 1
    · refine ⟨N, ?_, scr.rf B N, cw⟩
      rw [hE]
      unfold f_X1_wayAtb
      refine (rcb iv.1.2.1.2.1.1 _).trans ?_
      refine (sb hsw _).trans ?_
      rw [if_neg (show ¬ some b = none by simp), if_pos hdep, show mm_I N (32 * 1 + 6) (B + 37) = nI kv from c5]
      refine (sb (hb_c c2 hp) _).trans ?_
      rw [if10, if_pos q, show mm_R N (32 * 1 + 7) (B + 37) = some (B + 38) from h37.2.1]
      refine (sb hx _).trans ?_
      rw [nI_clamp (by omega), c6 p hp q]
    · obtain ⟨N1, a1, a2, a3⟩ := why_c (fu := fu) (wf := f_X1_wayAt K L fu g) (dep := dep) w hp hi hfu (fun q hq => by
        have hq16 : q < 16 ∧ isw S q := by
          rcases hq with x | ⟨t, ht, -, x⟩
          · exact ⟨(hgo_16 w hp x).1, (hgo_16 w hp x).2.2.1⟩
          · exact ⟨(hgo_16 w ht x).1, (hgo_16 w ht x).2.2.1⟩
        have := hr p q hp hq16.1 hq
        exact ih q (dep + 1) hq16.1 hq16.2 (by omega) (by omega)) iv hS cw
      obtain ⟨sv', kv', d1, d2, d3, d4, d5, d6, d7, d8, d9, d10⟩ := id a3
      have iv1 := iv_scr iv a2
      have hS1 := a2.S.trans hS
      obtain ⟨b1, hh1, gb1⟩ := sw_some iv1 hS1 hp hi
      have eb : b1 = b := by
        have h1 := gb1.2.2.2.2.1
        rw [a2.1, gb.2.2.2.2.1] at h1
        cases h1; rfl
      subst eb
      have hwb := wayBy_c (fu := fu) (l := l) (a := a) (s := s) (W := Ww S l a s nu) w hi gb1 hS1 d7 hfu
      rw [Ww_eq (l := l) (a := a) (s := s) (nu := nu) w h16 hr hp hi] at hwb
      obtain ⟨N2, hN2⟩ : ∃ N2, N2 = ms_A N1 (B + 38) (upd (mm_A N1 (B + 38)) p (Ww S l a s nu p)) := ⟨_, rfl⟩
      obtain ⟨N3, hN3⟩ : ∃ N3, N3 = ms_I N2 38 (B + 37) (nI (kv' ||| 2 ^ p)) := ⟨_, rfl⟩
      have i38 : mm_I N2 38 (B + 37) = nI kv' := by rw [hN2]; exact d5
      have r39 : mm_R N3 39 (B + 37) = some (B + 38) := by rw [hN3, hN2]; exact iv1.1.2.1.2.2.2.1.2.1
      have a38 : mm_A N3 (B + 38) = upd (mm_A N1 (B + 38)) p (Ww S l a s nu p) := by rw [hN3, A_I, hN2, A_A, if_pos rfl]
      refine ⟨N3, ?_, ?_, ?_⟩
      · rw [hE]
        unfold f_X1_wayAtb
        refine (rcb iv.1.2.1.2.1.1 _).trans ?_
        refine (sb hsw _).trans ?_
        rw [if_neg (show ¬ some b1 = none by simp), if_pos hdep, show mm_I N (32 * 1 + 6) (B + 37) = nI kv from c5]
        refine (sb (hb_c c2 hp) _).trans ?_
        rw [if10, if_neg q]
        refine (sb a1 _).trans ?_
        refine (sb hwb _).trans ?_
        rw [show mm_R N (32 * 1 + 7) (B + 37) = some (B + 38) from h37.2.1]
        refine (sb hx _).trans ?_
        rw [nI_clamp (by omega), bn_eq, show ms_A N1 (B + 38) (upd (mm_A N1 (B + 38)) p (Ww S l a s nu p)) = N2 from hN2.symm, show mm_I N2 (32 * 1 + 6) (B + 37) = nI kv' from i38, or_b d2 hp, bn_eq, show ms_I N2 (32 * 1 + 6) (B + 37) (nI (kv' ||| 2 ^ p)) = N3 from hN3.symm, show mm_R N3 (32 * 1 + 7) (B + 37) = some (B + 38) from r39]
        refine (sb hx _).trans ?_
        rw [a38, upd_eq, if_pos rfl]
      · rw [hN3, hN2]
        exact (a2.tr (scr.Aa (by omega))).tr (scr.Ic (by omega))
      · have e : ∀ x, x ≠ 38 → mm_I N3 x (B + 37) = mm_I N1 x (B + 37) := fun x h => by rw [hN3, I_I, if_neg (fun y => h y.1), hN2, I_A]
        refine ⟨sv', kv' ||| 2 ^ p, d1, or_lt d2 hp, by rw [e 37 (by decide)]; exact d3, d4, by rw [hN3, I_I, if_pos ⟨rfl, rfl⟩], fun p' hp' h => ?_, by rw [e 36 (by decide)]; exact d7, by rw [e 33 (by decide)]; exact d8, by rw [e 34 (by decide)]; exact d9, by rw [e 35 (by decide)]; exact d10⟩
        rw [a38, upd_eq]
        by_cases ep : p' = p
        · rw [if_pos ep, ep]
        · rw [if_neg ep]
          exact d6 p' hp' ((or_t.mp h).resolve_right ep)
end WA
