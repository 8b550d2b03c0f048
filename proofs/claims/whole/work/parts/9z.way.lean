/-! way, why -/
section BE
variable {B n : Nat} {K L : Nat → Nat} {fu : Nat} {S : Nat → Int32}
theorem begin_loop (hfu : 1000 ≤ fu) : ∀ (d g i sv : Nat) (N : Mm), Iv B n K L N → mm_A N (B + 45) = S → mm_I N 37 (B + 37) = nI sv → sv < 65536 → (∀ t, t < 16 → (sv / 2 ^ t % 2 = 1 ↔ t < i ∧ S (3940 * t) = 5 ∧ S (3940 * t + 47) = 1)) → i + d = 16 → d < g → ∃ N' sv', f_X1_begin_7 K L fu (B + 37) g (some (B + 1)) (nI i) N = some N' ∧ scr B N N' ∧ (∀ x, x ≠ 37 → mm_I N' x (B + 37) = mm_I N x (B + 37)) ∧ mm_I N' 37 (B + 37) = nI sv' ∧ sv' < 65536 ∧ ∀ t, t < 16 → (sv' / 2 ^ t % 2 = 1 ↔ S (3940 * t) = 5 ∧ S (3940 * t + 47) = 1) := by
  intro d
  induction d with
  | zero =>
    intro g i sv N iv hS h37 hsv hb h1 h2
    obtain ⟨g, rfl⟩ : ∃ g', g = g' + 1 := ⟨g - 1, by omega⟩
    have : i = 16 := by omega
    subst this
    refine ⟨N, sv, ?_, scr.rf B N, fun _ _ => rfl, h37, hsv, fun t ht => ?_⟩
    · show f_X1_begin_7b K L fu (f_X1_begin_7 K L fu (B + 37) g) (B + 37) (some (B + 1)) (nI 16) N = _
      unfold f_X1_begin_7b
      rw [if_pos (by decide)]
    · rw [hb t ht]
      exact ⟨fun x => x.2, fun x => ⟨ht, x⟩⟩
  | succ d ih =>
    intro g i sv N iv hS h37 hsv hb h1 h2
    obtain ⟨g, rfl⟩ : ∃ g', g = g' + 1 := ⟨g - 1, by omega⟩
    have hi : i < 16 := by omega
    have skip : ¬ (S (3940 * i) = 5 ∧ S (3940 * i + 47) = 1) → ∃ N' sv', f_X1_begin_7 K L fu (B + 37) g (some (B + 1)) (nI (i + 1)) N = some N' ∧ scr B N N' ∧ (∀ x, x ≠ 37 → mm_I N' x (B + 37) = mm_I N x (B + 37)) ∧ mm_I N' 37 (B + 37) = nI sv' ∧ sv' < 65536 ∧ ∀ t, t < 16 → (sv' / 2 ^ t % 2 = 1 ↔ S (3940 * t) = 5 ∧ S (3940 * t + 47) = 1) := by
      intro hno
      refine ih g (i + 1) sv N iv hS h37 hsv (fun t ht => ?_) (by omega) (by omega)
      rw [hb t ht]
      constructor
      · exact fun x => ⟨by omega, x.2⟩
      · intro x
        refine ⟨?_, x.2⟩
        by_cases e : t = i
        · subst e; exact absurd x.2 hno
        · omega
    have hE : f_X1_begin_7 K L fu (B + 37) (g + 1) (some (B + 1)) (nI i) N = Option.bind (f_X8_switchAt K L N (B + 1) (nI i)) (fun x3 => if x3 = none then f_X1_begin_7 K L fu (B + 37) g (some (B + 1)) (nI (i + 1)) N else Option.bind (rc K x3 9) (fun a5 => if (mm_I N (32 * 9 + 0) a5) = (4 : Int32) then (if (mm_I N (32 * 9 + 8) a5) = 0 then f_X1_begin_7 K L fu (B + 37) g (some (B + 1)) (nI (i + 1)) N else bn (ms_I N (32 * 1 + 5) (B + 37) ((mm_I N (32 * 1 + 5) (B + 37)) ||| ((1 : Int32) <<< (nI i &&& 31)))) (fun M7 => f_X1_begin_7 K L fu (B + 37) g (some (B + 1)) (nI (i + 1)) M7)) else f_X1_begin_7 K L fu (B + 37) g (some (B + 1)) (nI (i + 1)) N)) := by
      show f_X1_begin_7b K L fu (f_X1_begin_7 K L fu (B + 37) g) (B + 37) (some (B + 1)) (nI i) N = _
      unfold f_X1_begin_7b
      rw [if_neg (show ¬ (16 : Int32) ≤ nI i by rw [t_le, nI_toInt (by omega), show (16 : Int32).toInt = 16 from rfl]; omega), nI_1]
      exact rcb iv.1.2.1.2.1.1 _
    by_cases hw : isw S i
    · obtain ⟨b, hh, gb⟩ := sw_some iv hS hi hw
      obtain ⟨g1, g2, g3, g4, g5, g6, g7, g8, g9, g10, g11⟩ := id gb
      rw [hS] at g4 g10 g11
      have i8 : mm_I N (32 * 9 + 0) b = S (3940 * i) - 1 := g11.1.1
      have i9 : mm_I N (32 * 9 + 8) b = S (3940 * i + 47) := g11.1.2.2.2.2.2.2
      have h2 : f_X1_begin_7 K L fu (B + 37) (g + 1) (some (B + 1)) (nI i) N = if S (3940 * i) - 1 = (4 : Int32) then (if S (3940 * i + 47) = 0 then f_X1_begin_7 K L fu (B + 37) g (some (B + 1)) (nI (i + 1)) N else bn (ms_I N (32 * 1 + 5) (B + 37) ((mm_I N (32 * 1 + 5) (B + 37)) ||| ((1 : Int32) <<< (nI i &&& 31)))) (fun M7 => f_X1_begin_7 K L fu (B + 37) g (some (B + 1)) (nI (i + 1)) M7)) else f_X1_begin_7 K L fu (B + 37) g (some (B + 1)) (nI (i + 1)) N := by
        rw [hE]
        refine (sb (show f_X8_switchAt K L N (B + 1) (nI i) = some (some b) by rw [switchAt_in iv.1.2.1 hi, g5]) _).trans ?_
        rw [if_neg (show ¬ some b = none by simp)]
        refine (rcb g9.1.1 _).trans ?_
        rw [i8, i9]
      rw [h2]
      have e5 : S (3940 * i) - 1 = 4 ↔ S (3940 * i) = 5 := by
        constructor
        · intro x
          rw [← Int32.sub_add_cancel (S (3940 * i)) 1, x]
          rfl
        · intro x; rw [x]; rfl
      by_cases q1 : S (3940 * i) = 5
      · rw [if_pos (e5.mpr q1)]
        rcases g10.2.2.2.2.1 with q2 | q2
        · rw [if_pos q2]
          exact skip (fun x => by rw [q2] at x; exact absurd x.2 (by decide))
        · rw [if_neg (by rw [q2]; decide), show mm_I N (32 * 1 + 5) (B + 37) = nI sv from h37, or_b hsv hi, bn_eq]
          have sc : scr B N (ms_I N (32 * 1 + 5) (B + 37) (nI (sv ||| 2 ^ i))) := scr.Ic (by omega)
          obtain ⟨N', sv', r1, r2, r3, r4, r5, r6⟩ := ih g (i + 1) (sv ||| 2 ^ i) (ms_I N (32 * 1 + 5) (B + 37) (nI (sv ||| 2 ^ i))) (iv_scr iv sc) hS (by rw [I_I, if_pos ⟨rfl, rfl⟩]) (or_lt hsv hi) (fun t ht => by
            rw [or_t, hb t ht]
            constructor
            · rintro (x | x)
              · exact ⟨by omega, x.2⟩
              · subst x; exact ⟨by omega, q1, q2⟩
            · intro x
              by_cases e : t = i
              · exact Or.inr e
              · exact Or.inl ⟨by omega, x.2⟩) (by omega) (by omega)
          exact ⟨N', sv', r1, sc.tr r2, fun x hx => by rw [r3 x hx, I_I, if_neg (fun y => hx y.1)], r4, r5, r6⟩
      · rw [if_neg (fun x => q1 (e5.mp x))]
        exact skip (fun x => q1 x.1)
    · have h2 : f_X1_begin_7 K L fu (B + 37) (g + 1) (some (B + 1)) (nI i) N = f_X1_begin_7 K L fu (B + 37) g (some (B + 1)) (nI (i + 1)) N := by
        rw [hE]
        refine (sb (show f_X8_switchAt K L N (B + 1) (nI i) = some none by rw [switchAt_in iv.1.2.1 hi, sw_none iv hS hi hw]) _).trans ?_
        rw [if_pos rfl]
      rw [h2]
      refine skip (fun x => hw ?_)
      unfold isw
      rw [x.1]
      decide
theorem begin_c {M : Mm} (iv : Iv B n K L M) (hS : mm_A M (B + 45) = S) (hfu : 1000 ≤ fu) : ∃ N sv, f_X1_begin K L fu (B + 37) (some (B + 1)) M = some N ∧ scr B M N ∧ (∀ x, x ≠ 37 → mm_I N x (B + 37) = mm_I M x (B + 37)) ∧ mm_I N 37 (B + 37) = nI sv ∧ sv < 65536 ∧ ∀ t, t < 16 → (sv / 2 ^ t % 2 = 1 ↔ S (3940 * t) = 5 ∧ S (3940 * t + 47) = 1) := by
  unfold f_X1_begin
  rw [bn_eq]
  have sc : scr B M (ms_I M (32 * 1 + 5) (B + 37) 0) := scr.Ic (by omega)
  obtain ⟨N', sv', r1, r2, r3, r4, r5, r6⟩ := begin_loop (fu := fu) (S := S) hfu 16 fu 0 0 (ms_I M (32 * 1 + 5) (B + 37) 0) (iv_scr iv sc) hS (by rw [I_I, if_pos ⟨rfl, rfl⟩]; rfl) (by omega) (fun t ht => by rw [Nat.zero_div]; constructor <;> intro x <;> omega) (by omega) (by omega)
  exact ⟨N', sv', r1, sc.tr r2, fun x hx => by rw [r3 x hx, I_I, if_neg (fun y => hx y.1)], r4, r5, r6⟩
/-- asked for a number: all is ready -/
theorem ask_c {N : Mm} {sv : Nat} {l a s nu : Int32} {W : Nat → Int32} (h1 : mm_I N 37 (B + 37) = nI sv) (h2 : sv < 65536) (h3 : ∀ t, t < 16 → (sv / 2 ^ t % 2 = 1 ↔ S (3940 * t) = 5 ∧ S (3940 * t + 47) = 1)) (h33 : mm_I N 33 (B + 37) = l) (h34 : mm_I N 34 (B + 37) = a) (h35 : mm_I N 35 (B + 37) = s) : ∃ N', f_X1_ask K L (B + 37) nu N = some N' ∧ scr B N N' ∧ cwr B S W l a s nu N' ∧ ∀ x, x ≠ 36 → x ≠ 38 → mm_I N' x (B + 37) = mm_I N x (B + 37) := by
  have e : ∀ x, x ≠ 36 → x ≠ 38 → mm_I (ms_I (ms_I N 36 (B + 37) nu) 38 (B + 37) 0) x (B + 37) = mm_I N x (B + 37) := fun x y1 y2 => by rw [I_I, if_neg (fun y => y2 y.1), I_I, if_neg (fun y => y1 y.1)]
  refine ⟨ms_I (ms_I N 36 (B + 37) nu) 38 (B + 37) 0, rfl, (scr.Ic (by omega)).tr (scr.Ic (by omega)), ⟨sv, 0, h2, by omega, by rw [e 37 (by decide) (by decide)]; exact h1, h3, by rw [I_I, if_pos ⟨rfl, rfl⟩]; rfl, fun p hp h => by rw [Nat.zero_div] at h; omega, by rw [I_I, if_neg (by omega), I_I, if_pos ⟨rfl, rfl⟩], by rw [e 33 (by decide) (by decide)]; exact h33, by rw [e 34 (by decide) (by decide)]; exact h34, by rw [e 35 (by decide) (by decide)]; exact h35⟩, e⟩
end BE
theorem isw_ok {B : Nat} {K L : Nat → Nat} {M : Mm} {p b hh : Nat} (g : Got B K L M p b hh) : isw (mm_A M (B + 45)) p := (isw_h (by have := g.2.2.1; omega) g.2.2.2.1).mpr ⟨g.2.1, g.2.2.1⟩
/-- way -/
theorem st_2 {fu : Nat} (hfu : 1000 ≤ fu) : so_2 Iv fu := by
  intro B n K L M w1 iv
  refine gated iv w1 (kinds := 31) (kind := 0) (by unfold kb; simp) (F2 := fun m => f_X12_way K L fu (B + 44) w1 m) (G1 := fun _ => Option.bind (rc K (mm_R M (32 * 11 + 3) B) 1) (fun a5 => Option.bind (f_X1_begin K L fu a5 (mm_R M (32 * 11 + 0) B) M) (fun x7 => Option.bind (rc K (mm_R x7 (32 * 11 + 3) B) 1) (fun a9 => Option.bind (f_X1_ask K L a9 (mm_I x7 (32 * 1 + 0) a9) x7) (fun x11 => Option.bind (rc K (mm_R x11 (32 * 11 + 3) B) 1) (fun a13 => Option.bind (f_X1_wayAt K L fu 20 a13 (mm_R x11 (32 * 11 + 0) B) w1 (0 : Int32) x11) (fun x15 => some (x15.1, x15.2)))))))) (G2 := fun m => Option.bind (f_X12_findWays K L fu (B + 44) m) (fun x3 => Option.bind (rx K L (mm_R x3 (32 * 12 + 12) (B + 44)) 13 w1) (fun a5 => some (mm_A x3 a5 w1.toNatClampNeg, x3)))) rfl (fun m => rfl) ?_
  intro p b hh hv hk g
  subst hv
  right
  have hp := g.1
  have hi := isw_ok g
  have w := WF_iv iv
  obtain ⟨rk, h16, hr⟩ := rk_w w iv.2.2.2.1
  have c6 := iv.2.2.2.2.2.2.1
  have hr3 : mm_R M (32 * 11 + 3) B = some (B + 37) := iv.1.2.1.1.2.2.2.1
  have hr0 : mm_R M (32 * 11 + 0) B = some (B + 1) := iv.1.2.1.1.2.1
  have hk1 : K (B + 37) = 1 := iv.1.2.1.2.2.2.1.1
  obtain ⟨N, sv, b1, b2, b3, b4, b5, b6⟩ := begin_c (fu := fu) iv rfl hfu
  obtain ⟨N1, a1, a2, a3, a4⟩ := ask_c (K := K) (L := L) (B := B) (nu := mm_I M 392 (B + 44)) (W := Ww (mm_A M (B + 45)) (mm_I M 393 (B + 44)) (mm_I M 394 (B + 44)) (mm_I M 395 (B + 44)) (mm_I M 392 (B + 44))) b4 b5 b6 ((b3 33 (by decide)).trans c6.2.1) ((b3 34 (by decide)).trans c6.2.2.1) ((b3 35 (by decide)).trans c6.2.2.2.1)
  have s1 := b2.tr a2
  obtain ⟨N2, e1, e2, e3⟩ := way_c (fu := fu) w h16 hr hfu 20 p 0 hp hi (by have := h16 p; omega) (by have := h16 p; omega) N1 (iv_scr iv s1) s1.S a3
  have s2 := s1.tr e2
  obtain ⟨N3, f1, f2, f3⟩ := findWays_eq (fu := fu) (K := K) (L := L) (B := B) (M := N2) (l := mm_I M 393 (B + 44)) (a := mm_I M 394 (B + 44)) (s := mm_I M 395 (B + 44)) (nu := mm_I M 392 (B + 44)) w h16 hr hfu (s2.MS iv.1.1) s2.S (cal.scr ⟨rfl, rfl, rfl, rfl⟩ s2)
  have hN3 : MS B K L (mm_R N3) := f2.MS (s2.MS iv.1.1)
  refine ⟨(Ww (mm_A M (B + 45)) (mm_I M 393 (B + 44)) (mm_I M 394 (B + 44)) (mm_I M 395 (B + 44)) (mm_I M 392 (B + 44)) p, N2), (Ww (mm_A M (B + 45)) (mm_I M 393 (B + 44)) (mm_I M 394 (B + 44)) (mm_I M 395 (B + 44)) (mm_I M 392 (B + 44)) p, N3), ?_, s2.same, ?_, rfl, iv_scr (iv_scr iv s2) f2⟩
  · show Option.bind (rc K (mm_R M (32 * 11 + 3) B) 1) _ = _
    rw [hr3, hr0]
    refine (rcb hk1 _).trans ?_
    refine (sb b1 _).trans ?_
    rw [show mm_R N (32 * 11 + 3) B = some (B + 37) by rw [b2.1]; exact hr3]
    refine (rcb hk1 _).trans ?_
    rw [show mm_I N (32 * 1 + 0) (B + 37) = mm_I M 392 (B + 44) from (b3 32 (by decide)).trans c6.1]
    refine (sb a1 _).trans ?_
    rw [show mm_R N1 (32 * 11 + 3) B = some (B + 37) by rw [s1.1]; exact hr3, show mm_R N1 (32 * 11 + 0) B = some (B + 1) by rw [s1.1]; exact hr0]
    refine (rcb hk1 _).trans ?_
    exact (bind_eta _).trans e1
  · show Option.bind (f_X12_findWays K L fu (B + 44) N2) _ = _
    refine (sb f1 _).trans ?_
    rw [show mm_R N3 (32 * 12 + 12) (B + 44) = some (B + 51) from hN3.1.2.2.2.2.2.2.2.1]
    refine (sb (rx_ok hN3.2.1.2.2.2.2.2.2.1 hN3.2.2.2.2.2.2.2.2.1 hp (by decide)) _).trans ?_
    rw [nI_clamp (by omega), f3 p hp hi]
/-- why, in the reference, once the ways are found -/
theorem why_ref {B : Nat} {K L : Nat → Nat} {fu p : Nat} {M : Mm} {S W : Nat → Int32} {l a s nu : Int32} (hM : MS B K L (mm_R M)) (hS : mm_A M (B + 45) = S) (w : WF S) (hp : p < 16) (hi : isw S p) (hc : cal B M l a s nu) (hfu : 1000 ≤ fu) (hW : ∀ q, q < 16 → isw S q → mm_A M (B + 51) q = W q) : Option.bind (f_X12_stoppedBy K L fu M (B + 44) (nI p)) (fun x5 => if x5 < 0 then Option.bind (f_X12_isOther K L M (B + 44) (nI p)) (fun x7 => if x7 = 0 then Option.bind (f_X12_ruleOf K L fu M (B + 44) (nI p)) (fun x9 => some (x9, M)) else some ((7 : Int32), M)) else some ((8 : Int32) + x5, M)) = some (wyv S l a s W p, M) := by
  have ey : wyv S l a s (mm_A M (B + 51)) p = wyv S l a s W p := wyv_cg (fun t q ht h1 h2 => hW q (hgo_16 w ht h2).1 (hgo_16 w ht h2).2.2.1) (fun q h2 => hW q (hgo_16 w hp h2).1 (hgo_16 w hp h2).2.2.1)
  rw [← ey]
  obtain ⟨c1, c2, c3, c4⟩ := hc
  obtain ⟨hh, h6, hSS, hok⟩ := w p hp
  have := (isw_h h6 hSS).mp hi
  obtain ⟨-, k, k1, k2⟩ := hok this.1 this.2
  refine (sb (show f_X12_stoppedBy K L fu M (B + 44) (nI p) = _ from stopped_loop (fu := fu) hM hS w hp 16 fu 0 (by omega) (by omega)) _).trans ?_
  unfold wyv
  rcases fst_or S (mm_A M (B + 51)) p 16 0 with y | ⟨j, -, j2, y⟩
  · rw [y, if_pos (by decide), if_pos rfl]
    refine (sb (other_m hM hS w hp) _).trans ?_
    by_cases ho : hgo S p = none ∨ mm_A M (B + 51) ((hgo S p).getD 0) = S (3940 * p + 45)
    · rw [if_pos ho, if_pos rfl, if_pos ho, k2, nI_clamp (by omega)]
      exact (sb (show f_X12_ruleOf K L fu M (B + 44) (nI p) = _ from rule_loop (fu := fu) hM hp hS c2 c3 c4 k1 k2 k fu 0 (by omega) (by omega)) _).trans rfl
    · rw [if_neg ho, if_neg (by decide), if_neg ho]
  · have yn : ¬ nI j = -1 := by
      intro e
      have := congrArg Int32.toInt e
      rw [nI_toInt (by omega), show (-1 : Int32).toInt = -1 from rfl] at this
      omega
    rw [y, if_neg yn, if_neg (nI_pos (by omega))]
/-- why -/
theorem st_3 {fu : Nat} (hfu : 1000 ≤ fu) : so_3 Iv fu := by
  intro B n K L M w1 iv
  refine gated iv w1 (kinds := 31) (kind := 0) (by unfold kb; simp) (F2 := fun m => f_X12_why_ K L fu (B + 44) w1 m) (G1 := fun _ => Option.bind (rc K (mm_R M (32 * 11 + 3) B) 1) (fun a5 => Option.bind (f_X1_begin K L fu a5 (mm_R M (32 * 11 + 0) B) M) (fun x7 => Option.bind (rc K (mm_R x7 (32 * 11 + 3) B) 1) (fun a9 => Option.bind (f_X1_ask K L a9 (mm_I x7 (32 * 1 + 0) a9) x7) (fun x11 => Option.bind (rc K (mm_R x11 (32 * 11 + 3) B) 1) (fun a13 => Option.bind (f_X1_whyAt K L fu (f_X1_wayAt K L fu 19) a13 (mm_R x11 (32 * 11 + 0) B) w1 (0 : Int32) x11) (fun x15 => some (x15.1, x15.2)))))))) (G2 := fun m => Option.bind (f_X12_findWays K L fu (B + 44) m) (fun x3 => Option.bind (f_X12_stoppedBy K L fu x3 (B + 44) w1) (fun x5 => if x5 < 0 then Option.bind (f_X12_isOther K L x3 (B + 44) w1) (fun x7 => if x7 = 0 then Option.bind (f_X12_ruleOf K L fu x3 (B + 44) w1) (fun x9 => some (x9, x3)) else some ((7 : Int32), x3)) else some ((8 : Int32) + x5, x3)))) rfl (fun m => rfl) ?_
  intro p b hh hv hk g
  subst hv
  right
  have hp := g.1
  have hi := isw_ok g
  have w := WF_iv iv
  obtain ⟨rk, h16, hr⟩ := rk_w w iv.2.2.2.1
  have c6 := iv.2.2.2.2.2.2.1
  have hr3 : mm_R M (32 * 11 + 3) B = some (B + 37) := iv.1.2.1.1.2.2.2.1
  have hr0 : mm_R M (32 * 11 + 0) B = some (B + 1) := iv.1.2.1.1.2.1
  have hk1 : K (B + 37) = 1 := iv.1.2.1.2.2.2.1.1
  obtain ⟨N, sv, b1, b2, b3, b4, b5, b6⟩ := begin_c (fu := fu) iv rfl hfu
  obtain ⟨N1, a1, a2, a3, a4⟩ := ask_c (K := K) (L := L) (B := B) (nu := mm_I M 392 (B + 44)) (W := Ww (mm_A M (B + 45)) (mm_I M 393 (B + 44)) (mm_I M 394 (B + 44)) (mm_I M 395 (B + 44)) (mm_I M 392 (B + 44))) b4 b5 b6 ((b3 33 (by decide)).trans c6.2.1) ((b3 34 (by decide)).trans c6.2.2.1) ((b3 35 (by decide)).trans c6.2.2.2.1)
  have s1 := b2.tr a2
  obtain ⟨N2, e1, e2, e3⟩ := why_c (fu := fu) (wf := f_X1_wayAt K L fu 19) (dep := 0) w hp hi hfu (fun q hq => by
    have hq16 : q < 16 ∧ isw (mm_A M (B + 45)) q := by
      rcases hq with x | ⟨t, ht, -, x⟩
      · exact ⟨(hgo_16 w hp x).1, (hgo_16 w hp x).2.2.1⟩
      · exact ⟨(hgo_16 w ht x).1, (hgo_16 w ht x).2.2.1⟩
    have := hr p q hp hq16.1 hq
    have := h16 p
    exact way_c (fu := fu) w h16 hr hfu 19 q (0 + 1) hq16.1 hq16.2 (by omega) (by omega)) (iv_scr iv s1) s1.S a3
  have s2 := s1.tr e2
  obtain ⟨N3, f1, f2, f3⟩ := findWays_eq (fu := fu) (K := K) (L := L) (B := B) (M := N2) (l := mm_I M 393 (B + 44)) (a := mm_I M 394 (B + 44)) (s := mm_I M 395 (B + 44)) (nu := mm_I M 392 (B + 44)) w h16 hr hfu (s2.MS iv.1.1) s2.S (cal.scr ⟨rfl, rfl, rfl, rfl⟩ s2)
  have s3 := s2.tr f2
  refine ⟨(wyv (mm_A M (B + 45)) (mm_I M 393 (B + 44)) (mm_I M 394 (B + 44)) (mm_I M 395 (B + 44)) (Ww (mm_A M (B + 45)) (mm_I M 393 (B + 44)) (mm_I M 394 (B + 44)) (mm_I M 395 (B + 44)) (mm_I M 392 (B + 44))) p, N2), (wyv (mm_A M (B + 45)) (mm_I M 393 (B + 44)) (mm_I M 394 (B + 44)) (mm_I M 395 (B + 44)) (Ww (mm_A M (B + 45)) (mm_I M 393 (B + 44)) (mm_I M 394 (B + 44)) (mm_I M 395 (B + 44)) (mm_I M 392 (B + 44))) p, N3), ?_, s2.same, ?_, rfl, iv_scr iv s3⟩
  · show Option.bind (rc K (mm_R M (32 * 11 + 3) B) 1) _ = _
    rw [hr3, hr0]
    refine (rcb hk1 _).trans ?_
    refine (sb b1 _).trans ?_
    rw [show mm_R N (32 * 11 + 3) B = some (B + 37) by rw [b2.1]; exact hr3]
    refine (rcb hk1 _).trans ?_
    rw [show mm_I N (32 * 1 + 0) (B + 37) = mm_I M 392 (B + 44) from (b3 32 (by decide)).trans c6.1]
    refine (sb a1 _).trans ?_
    rw [show mm_R N1 (32 * 11 + 3) B = some (B + 37) by rw [s1.1]; exact hr3, show mm_R N1 (32 * 11 + 0) B = some (B + 1) by rw [s1.1]; exact hr0]
    refine (rcb hk1 _).trans ?_
    exact (bind_eta _).trans e1
  · show Option.bind (f_X12_findWays K L fu (B + 44) N2) _ = _
    refine (sb f1 _).trans ?_
    exact why_ref (fu := fu) (s3.MS iv.1.1) s3.S w hp hi (cal.scr ⟨rfl, rfl, rfl, rfl⟩ s3) hfu f3
