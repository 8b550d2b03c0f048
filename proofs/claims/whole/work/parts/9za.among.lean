/-! among, both -/
def stk (B : Nat) (S : Nat → Int32) (N : Mm) : Prop := ∃ sv : Nat, mm_I N 37 (B + 37) = nI sv ∧ sv < 65536 ∧ ∀ t, t < 16 → (sv / 2 ^ t % 2 = 1 ↔ S (3940 * t) = 5 ∧ S (3940 * t + 47) = 1)
theorem cwr.stk {B : Nat} {S W : Nat → Int32} {l a s nu : Int32} {N : Mm} (h : cwr B S W l a s nu N) : stk B S N := by
  obtain ⟨sv, kv, c1, -, c3, c4, -⟩ := h
  exact ⟨sv, c3, c1, c4⟩
/-- all but the number asked for -/
def sc2 (B : Nat) (M N : Mm) : Prop := scr B M (ms_I N 392 (B + 44) (mm_I M 392 (B + 44)))
section S2
variable {B : Nat} {M N N' : Mm}
theorem sc2.of (h : scr B M N) : sc2 B M N := by
  refine h.tr ⟨rfl, rfl, rfl, fun _ _ _ _ _ _ _ _ => rfl, fun x a h1 h2 => ?_, fun _ _ _ => rfl⟩
  rw [I_I]
  by_cases q : x = 392 ∧ a = B + 44
  · rw [if_pos q, q.1, q.2]
    exact (h.2.2.2.2.1 392 (B + 44) (by omega) (by omega)).symm
  · rw [if_neg q]
theorem sc2.step (h : sc2 B M N) (h' : scr B N N') : sc2 B M N' := by
  refine scr.tr h ⟨h'.1, h'.2.1, h'.2.2.1, h'.2.2.2.1, fun x a h1 h2 => ?_, h'.2.2.2.2.2⟩
  rw [I_I, I_I]
  by_cases q : x = 392 ∧ a = B + 44
  · rw [if_pos q, if_pos q]
  · rw [if_neg q, if_neg q]
    exact h'.2.2.2.2.1 x a h1 h2
theorem sc2.num (h : sc2 B M N) (v : Int32) : sc2 B M (ms_I N 392 (B + 44) v) := by
  refine scr.tr h ⟨rfl, rfl, rfl, fun _ _ _ _ _ _ _ _ => rfl, fun x a h1 h2 => ?_, fun _ _ _ => rfl⟩
  rw [I_I, I_I, I_I]
  by_cases q : x = 392 ∧ a = B + 44
  · rw [if_pos q, if_pos q]
  · rw [if_neg q, if_neg q, if_neg q]
theorem sc2.MS {K L : Nat → Nat} (h : sc2 B M N) (q : MS B K L (mm_R M)) : MS B K L (mm_R N) := by
  have e : mm_R N = mm_R M := h.1
  rw [e]; exact q
theorem sc2.S (h : sc2 B M N) : mm_A N (B + 45) = mm_A M (B + 45) := h.2.2.2.1 (B + 45) (by omega) (by omega) (by omega) (by omega) (by omega) (by omega) (by omega)
theorem sc2.I (h : sc2 B M N) {x : Nat} (h1 : x < 400) (h2 : x ≠ 392) : mm_I N x (B + 44) = mm_I M x (B + 44) := by
  have := h.2.2.2.2.1 x (B + 44) (by omega) (by omega)
  rw [I_I, if_neg (fun q => h2 q.1)] at this
  exact this
end S2
theorem crowd_eq {f : Nat} (hf : f ≤ 999999) (v : Int32) : ∃ c, f_X11_crowdFault (nI f) v = some c ∧ (∀ a, f_X12_whyAmong a (nI f) v = some c) ∧ (c = 0 ∨ c = -(nI 4) ∨ c = -(nI 12)) ∧ (c = 0 → ∃ m : Nat, 1 ≤ m ∧ m ≤ 2000 ∧ v = nI m ∧ f + m ≤ 1000000) := by
  by_cases h0 : 0 ≤ v.toInt
  · have i0 : (0 : Int32) ≤ v := by rw [t_le, show (0 : Int32).toInt = 0 from rfl]; exact h0
    by_cases h1 : 1 ≤ v.toInt ∧ v.toInt ≤ 2000
    · obtain ⟨m, m1, rfl⟩ := n_of (v := v) (m := 2000) h0 h1.2 (by decide)
      have em : (nI m).toInt = m := nI_toInt (by omega)
      have e1 : nI f + nI m - 1 = nI (f + m - 1) := by rw [nI_add, show (1 : Int32) = nI 1 from rfl, pk_sub (by omega)]
      have c1 : (999999 : Int32) < nI (f + m - 1) ↔ 999999 < f + m - 1 := by rw [t_lt, nI_toInt (by omega), show (999999 : Int32).toInt = 999999 from rfl]; omega
      have c2 : nI (f + m) ≤ (1000000 : Int32) ↔ f + m ≤ 1000000 := by rw [t_le, nI_toInt (by omega), show (1000000 : Int32).toInt = 1000000 from rfl]; omega
      by_cases h2 : f + m ≤ 1000000
      · refine ⟨0, ?_, fun a => ?_, Or.inl rfl, fun _ => ⟨m, by omega, m1, rfl, h2⟩⟩
        · unfold f_X11_crowdFault f_X11_crowdFault_34
          rw [if_pos i0, if_neg (show ¬ nI m < 1 by rw [t_lt, em, show (1 : Int32).toInt = 1 from rfl]; omega), if_neg (show ¬ (2000 : Int32) < nI m by rw [t_lt, em, show (2000 : Int32).toInt = 2000 from rfl]; omega), e1, if_neg (fun x => by have := c1.mp x; omega), if_neg (by decide)]
        · unfold f_X12_whyAmong
          rw [if_pos i0, isIn_l (nI m) (A := 1) (C := 2000) (a := 1) (c := 2000) rfl rfl, if_pos h1]
          show (if (1 : Int32) = 0 then some (-12 : Int32) else if nI f + nI m ≤ 1000000 then some (0 : Int32) else some (-12)) = _
          rw [if_neg (by decide), nI_add, if_pos (c2.mpr h2)]
      · refine ⟨-(nI 12), ?_, fun a => ?_, Or.inr (Or.inr rfl), fun x => absurd x (by decide)⟩
        · unfold f_X11_crowdFault f_X11_crowdFault_33 f_X11_crowdFault_34
          rw [if_pos i0, if_neg (show ¬ nI m < 1 by rw [t_lt, em, show (1 : Int32).toInt = 1 from rfl]; omega), if_neg (show ¬ (2000 : Int32) < nI m by rw [t_lt, em, show (2000 : Int32).toInt = 2000 from rfl]; omega), e1, if_pos (c1.mpr (by omega)), if_pos rfl]
          rfl
        · unfold f_X12_whyAmong
          rw [if_pos i0, isIn_l (nI m) (A := 1) (C := 2000) (a := 1) (c := 2000) rfl rfl, if_pos h1]
          show (if (1 : Int32) = 0 then some (-12 : Int32) else if nI f + nI m ≤ 1000000 then some (0 : Int32) else some (-12)) = _
          rw [if_neg (by decide), nI_add, if_neg (fun x => h2 (c2.mp x))]
          rfl
    · refine ⟨-(nI 12), ?_, fun a => ?_, Or.inr (Or.inr rfl), fun x => absurd x (by decide)⟩
      · unfold f_X11_crowdFault f_X11_crowdFault_33 f_X11_crowdFault_34
        rw [if_pos i0]
        by_cases h2 : 1 ≤ v.toInt
        · rw [if_neg (show ¬ v < 1 by rw [t_lt, show (1 : Int32).toInt = 1 from rfl]; omega), if_pos (show (2000 : Int32) < v by rw [t_lt, show (2000 : Int32).toInt = 2000 from rfl]; omega), if_pos rfl]
          rfl
        · rw [if_pos (show v < 1 by rw [t_lt, show (1 : Int32).toInt = 1 from rfl]; omega), if_pos rfl]
          rfl
      · unfold f_X12_whyAmong
        rw [if_pos i0, isIn_l v (A := 1) (C := 2000) (a := 1) (c := 2000) rfl rfl, if_neg h1]
        rfl
  · have i0 : ¬ (0 : Int32) ≤ v := by rw [t_le, show (0 : Int32).toInt = 0 from rfl]; exact h0
    refine ⟨-(nI 4), ?_, fun a => ?_, Or.inr (Or.inl rfl), fun x => absurd x (by decide)⟩
    · unfold f_X11_crowdFault
      rw [if_neg i0]
      rfl
    · unfold f_X12_whyAmong
      rw [if_neg i0]
      rfl
theorem isNumber_eq (v : Int32) : f_X12_isNumber v = some (if 0 ≤ v.toInt ∧ v.toInt ≤ 999999 then 1 else 0) := by
  unfold f_X12_isNumber
  simp only [t_lt, show (0 : Int32).toInt = 0 from rfl, show (999999 : Int32).toInt = 999999 from rfl]
  by_cases h : v.toInt < 0
  · simp [h, show ¬ (0 ≤ v.toInt ∧ v.toInt ≤ 999999) by omega]
  · by_cases h2 : 999999 < v.toInt
    · simp [h, h2, show ¬ (0 ≤ v.toInt ∧ v.toInt ≤ 999999) by omega]
    · simp [h, h2, show (0 ≤ v.toInt ∧ v.toInt ≤ 999999) by omega]
section AM
variable {B n : Nat} {K L : Nat → Nat} {fu : Nat} {M : Mm} {rk : Nat → Nat}
abbrev wn (B : Nat) (M : Mm) (x p : Nat) : Int32 := Ww (mm_A M (B + 45)) (mm_I M 393 (B + 44)) (mm_I M 394 (B + 44)) (mm_I M 395 (B + 44)) (nI x) p
/-- the class asks one place for one number -/
theorem ask_way {N : Mm} {p x : Nat} (iv : Iv B n K L M) (h16 : ∀ p, rk p < 16) (hr : ∀ p q, p < 16 → q < 16 → ((hgo (mm_A M (B + 45)) p = some q) ∨ ∃ t, t < 16 ∧ stp (mm_A M (B + 45)) t p ∧ hgo (mm_A M (B + 45)) t = some q) → rk q < rk p) (hfu : 1000 ≤ fu) (hp : p < 16) (hi : isw (mm_A M (B + 45)) p) (sc : scr B M N) (st : stk B (mm_A M (B + 45)) N) : ∃ N1 N2, f_X1_ask K L (B + 37) (nI x) N = some N1 ∧ mm_R N1 = mm_R M ∧ f_X1_wayAt K L fu 20 (B + 37) (some (B + 1)) (nI p) 0 N1 = some (wn B M x p, N2) ∧ scr B M N2 ∧ cwr B (mm_A M (B + 45)) (wn B M x) (mm_I M 393 (B + 44)) (mm_I M 394 (B + 44)) (mm_I M 395 (B + 44)) (nI x) N2 := by
  have c6 := iv.2.2.2.2.2.2.1
  have w := WF_iv iv
  obtain ⟨sv, b4, b5, b6⟩ := st
  have em : ∀ y, y < 36 → mm_I N y (B + 37) = mm_I M y (B + 37) := fun y hy => sc.2.2.2.2.1 y _ (by omega) (by omega)
  obtain ⟨N1, a1, a2, a3, a4⟩ := ask_c (K := K) (L := L) (B := B) (nu := nI x) (W := wn B M x) b4 b5 b6 ((em 33 (by decide)).trans c6.2.1) ((em 34 (by decide)).trans c6.2.2.1) ((em 35 (by decide)).trans c6.2.2.2.1)
  have s1 := sc.tr a2
  obtain ⟨N2, e1, e2, e3⟩ := way_c (fu := fu) w h16 hr hfu 20 p 0 hp hi (by have := h16 p; omega) (by have := h16 p; omega) N1 (iv_scr iv s1) s1.S a3
  exact ⟨N1, N2, a1, s1.1, e1, s1.tr e2, e3⟩
def amc (B : Nat) (M : Mm) (f p : Nat) (v : Int32) : Nat → Int32
  | 0 => 0
  | i + 1 => if wn B M (f + i) p = v then amc B M f p v i + 1 else amc B M f p v i
theorem among_c {f p m : Nat} {v : Int32} (iv : Iv B n K L M) (h16 : ∀ p, rk p < 16) (hr : ∀ p q, p < 16 → q < 16 → ((hgo (mm_A M (B + 45)) p = some q) ∨ ∃ t, t < 16 ∧ stp (mm_A M (B + 45)) t p ∧ hgo (mm_A M (B + 45)) t = some q) → rk q < rk p) (hfu : 5000 ≤ fu) (hp : p < 16) (hi : isw (mm_A M (B + 45)) p) (hm : m ≤ 2000) (hf : f + m ≤ 1000000) : ∀ (d g i : Nat) (N : Mm), scr B M N → stk B (mm_A M (B + 45)) N → i + d = m → d < g → ∃ N', f_X11_among_83 K L fu B g (nI p) v (nI f) (nI m) (amc B M f p v i) (nI i) N = some (amc B M f p v m, N') ∧ scr B M N' := by
  have hr3 : mm_R M (32 * 11 + 3) B = some (B + 37) := iv.1.2.1.1.2.2.2.1
  have hr0 : mm_R M (32 * 11 + 0) B = some (B + 1) := iv.1.2.1.1.2.1
  have hk1 : K (B + 37) = 1 := iv.1.2.1.2.2.2.1.1
  intro d
  induction d with
  | zero =>
    intro g i N sc st h1 h2
    obtain ⟨g, rfl⟩ : ∃ g', g = g' + 1 := ⟨g - 1, by omega⟩
    have : i = m := by omega
    subst this
    refine ⟨N, ?_, sc⟩
    show f_X11_among_83b K L fu (f_X11_among_83 K L fu B g) B (nI p) v (nI f) (nI i) _ (nI i) N = _
    unfold f_X11_among_83b
    rw [if_pos (nI_le (Nat.le_refl _) (by omega))]
  | succ d ih =>
    intro g i N sc st h1 h2
    obtain ⟨g, rfl⟩ : ∃ g', g = g' + 1 := ⟨g - 1, by omega⟩
    obtain ⟨N1, N2, a1, a2, a3, a4, a5⟩ := ask_way (fu := fu) (x := f + i) iv h16 hr (by omega) hp hi sc st
    have ea : amc B M f p v (i + 1) = if wn B M (f + i) p = v then amc B M f p v i + 1 else amc B M f p v i := rfl
    obtain ⟨N3, b1, b2⟩ := ih g (i + 1) N2 a4 a5.stk (by omega) (by omega)
    refine ⟨N3, ?_, b2⟩
    rw [ea] at b1
    show f_X11_among_83b K L fu (f_X11_among_83 K L fu B g) B (nI p) v (nI f) (nI m) (amc B M f p v i) (nI i) N = _
    unfold f_X11_among_83b
    rw [if_neg (nI_ge (by omega) (by omega)), show mm_R N (32 * 11 + 3) B = some (B + 37) by rw [sc.1]; exact hr3, nI_add, nI_1]
    refine (rcb hk1 _).trans ?_
    refine (sb a1 _).trans ?_
    rw [show mm_R N1 (32 * 11 + 3) B = some (B + 37) by rw [a2]; exact hr3, show mm_R N1 (32 * 11 + 0) B = some (B + 1) by rw [a2]; exact hr0]
    refine (rcb hk1 _).trans ?_
    refine (sb a3 _).trans ?_
    by_cases q : wn B M (f + i) p = v
    · rw [if_pos q] at b1
      rw [if_pos q]
      exact b1
    · rw [if_neg q] at b1
      rw [if_neg q]
      exact b1
theorem among_m {f p m : Nat} {v v6 : Int32} (iv : Iv B n K L M) (h16 : ∀ p, rk p < 16) (hr : ∀ p q, p < 16 → q < 16 → ((hgo (mm_A M (B + 45)) p = some q) ∨ ∃ t, t < 16 ∧ stp (mm_A M (B + 45)) t p ∧ hgo (mm_A M (B + 45)) t = some q) → rk q < rk p) (hfu : 5000 ≤ fu) (hp : p < 16) (hi : isw (mm_A M (B + 45)) p) (hm : m ≤ 2000) (hf : f + m ≤ 1000000) (h6 : v6 = mm_I M 392 (B + 44)) : ∀ (d g i : Nat) (N : Mm), sc2 B M N → mm_I N 392 (B + 44) = nI (f + i) → i + d = m → d < g → ∃ N', f_X12_among_72 K L fu (B + 44) g (nI p) v (nI f) (nI m) v6 (amc B M f p v i) N = some (amc B M f p v m, N') ∧ scr B M N' := by
  have w := WF_iv iv
  intro d
  induction d with
  | zero =>
    intro g i N sc hn h1 h2
    obtain ⟨g, rfl⟩ : ∃ g', g = g' + 1 := ⟨g - 1, by omega⟩
    have : i = m := by omega
    subst this
    refine ⟨ms_I N 392 (B + 44) v6, ?_, by rw [h6]; exact sc⟩
    show f_X12_among_72b K L fu (f_X12_among_72 K L fu (B + 44) g) (B + 44) (nI p) v (nI f) (nI i) v6 _ N = _
    unfold f_X12_among_72b
    rw [show mm_I N (32 * 12 + 8) (B + 44) = nI (f + i) from hn, nI_add, if_pos (nI_le (Nat.le_refl _) (by omega))]
    rfl
  | succ d ih =>
    intro g i N sc hn h1 h2
    obtain ⟨g, rfl⟩ : ∃ g', g = g' + 1 := ⟨g - 1, by omega⟩
    obtain ⟨N3, f1, f2, f3⟩ := findWays_eq (fu := fu) (K := K) (L := L) (B := B) (M := N) (l := mm_I M 393 (B + 44)) (a := mm_I M 394 (B + 44)) (s := mm_I M 395 (B + 44)) (nu := nI (f + i)) w h16 hr (by omega) (sc.MS iv.1.1) sc.S ⟨hn, sc.I (by decide) (by decide), sc.I (by decide) (by decide), sc.I (by decide) (by decide)⟩
    have hN3 : MS B K L (mm_R N3) := f2.MS (sc.MS iv.1.1)
    have n3 : mm_I N3 392 (B + 44) = nI (f + i) := (f2.2.2.2.2.1 392 _ (by omega) (by omega)).trans hn
    have ea : amc B M f p v (i + 1) = if wn B M (f + i) p = v then amc B M f p v i + 1 else amc B M f p v i := rfl
    obtain ⟨N4, b1, b2⟩ := ih g (i + 1) (ms_I N3 392 (B + 44) (nI (f + (i + 1)))) ((sc.step f2).num _) (by rw [I_I, if_pos ⟨rfl, rfl⟩]) (by omega) (by omega)
    refine ⟨N4, ?_, b2⟩
    rw [ea] at b1
    have h104 : ∀ z : Int32, f_X12_among_104 K L fu (f_X12_among_72 K L fu (B + 44) g) (B + 44) (nI p) v (nI f) (nI m) v6 z (amc B M f p v i) N3 = f_X12_among_72 K L fu (B + 44) g (nI p) v (nI f) (nI m) v6 (amc B M f p v i + z) (ms_I N3 392 (B + 44) (nI (f + (i + 1)))) := by
      intro z
      unfold f_X12_among_104
      rw [bn_eq, bn_eq, show mm_I N3 (32 * 12 + 8) (B + 44) = nI (f + i) from n3, nI_1]
      rfl
    show f_X12_among_72b K L fu (f_X12_among_72 K L fu (B + 44) g) (B + 44) (nI p) v (nI f) (nI m) v6 (amc B M f p v i) N = _
    unfold f_X12_among_72b
    rw [show mm_I N (32 * 12 + 8) (B + 44) = nI (f + i) from hn, nI_add, if_neg (nI_ge (by omega) (by omega))]
    refine (sb f1 _).trans ?_
    rw [show mm_R N3 (32 * 12 + 12) (B + 44) = some (B + 51) from hN3.1.2.2.2.2.2.2.2.1]
    refine (sb (rx_ok hN3.2.1.2.2.2.2.2.2.1 hN3.2.2.2.2.2.2.2.2.1 hp (by decide)) _).trans ?_
    rw [nI_clamp (by omega), f3 p hp hi, h104, h104]
    by_cases q : wn B M (f + i) p = v
    · rw [if_pos q] at b1
      rw [if_pos q]
      exact b1
    · rw [if_neg q] at b1
      rw [if_neg q, Int32.add_zero]
      exact b1
end AM
/-- among -/
theorem st_33 {fu : Nat} (hfu : 5000 ≤ fu) : so_33 Iv fu := by
  intro B n K L M w1 w2 w3 w4 iv
  by_cases hc : (0 ≤ w2.toInt ∧ w2.toInt ≤ 7) ∧ (0 ≤ w3.toInt ∧ w3.toInt ≤ 999999)
  · obtain ⟨f, f1, rfl⟩ := n_of (v := w3) (m := 999999) hc.2.1 hc.2.2 (by decide)
    have e1 : f_X11_among K L fu B w1 w2 (nI f) w4 M = Option.bind (rc K (mm_R M (32 * 11 + 0) B) 8) (fun a5 => Option.bind (f_X8_find K L M a5 w1 (31 : Int32)) (fun x7 => if x7 = none then Option.bind (f_X11_refuseAt K L B w1 (31 : Int32) M) (fun x17 => some (x17.1, x17.2)) else Option.bind (f_X11_crowdFault (nI f) w4) (fun x9 => if x9 = 0 then Option.bind (rc K (mm_R M (32 * 11 + 3) B) 1) (fun a11 => Option.bind (f_X1_begin K L fu a11 (mm_R M (32 * 11 + 0) B) M) (fun x13 => f_X11_among_83 K L fu B fu w1 w2 (nI f) w4 (0 : Int32) (0 : Int32) x13)) else Option.bind (f_X11_refuse K L B x9 M) (fun x15 => some (x15.1, x15.2))))) := by
      unfold f_X11_among
      rw [within_eq, show (7 : Int32).toInt = 7 from rfl, if_pos hc.1, within_eq, show (999999 : Int32).toInt = 999999 from rfl, if_pos hc.2]
      rfl
    have e2 : ∀ m, f_X12_among K L fu (B + 44) w1 w2 (nI f) w4 m = Option.bind (f_X12_why K L m (B + 44) w1 (nI 0)) (fun x1 => if x1 = 0 then Option.bind (f_X12_whyAmong (B + 44) (nI f) w4) (fun x1 => f_X12_among_46 K L fu (B + 44) w1 w2 (nI f) w4 x1 m) else Option.bind (f_X12_no K L (B + 44) x1 m) (fun x => some (x.1, x.2))) := by
      intro m
      unfold f_X12_among
      rw [isIn_l w2 (A := 0) (C := 7) (a := 0) (c := 7) rfl rfl, if_pos hc.1, isNumber_eq, if_pos hc.2]
      show Option.bind (f_X12_why K L m (B + 44) w1 0) (fun x5 => f_X12_among_30 K L fu (B + 44) w1 w2 (nI f) w4 x5 m) = _
      congr 1
      funext x1
      unfold f_X12_among_30
      by_cases h : x1 = 0
      · rw [if_pos h, if_pos h]
      · rw [if_neg h, if_neg h]
        unfold f_X12_among_46
        rw [if_neg h]
    refine gated iv w1 (kinds := 31) (kind := 0) (by unfold kb; simp) (F2 := fun m => f_X12_among K L fu (B + 44) w1 w2 (nI f) w4 m) (G1 := fun _ => Option.bind (f_X11_crowdFault (nI f) w4) (fun x9 => if x9 = 0 then Option.bind (rc K (mm_R M (32 * 11 + 3) B) 1) (fun a11 => Option.bind (f_X1_begin K L fu a11 (mm_R M (32 * 11 + 0) B) M) (fun x13 => f_X11_among_83 K L fu B fu w1 w2 (nI f) w4 (0 : Int32) (0 : Int32) x13)) else Option.bind (f_X11_refuse K L B x9 M) (fun x15 => some (x15.1, x15.2)))) (G2 := fun m => Option.bind (f_X12_whyAmong (B + 44) (nI f) w4) (fun x1 => f_X12_among_46 K L fu (B + 44) w1 w2 (nI f) w4 x1 m)) e1 e2 ?_
    intro p b hh hv hk g
    subst hv
    obtain ⟨c, k1, k2, k3, k4⟩ := crowd_eq f1 w4
    have neg : ∀ k, 2 ≤ k → k ≤ 13 → c = -(nI k) → (Option.bind (f_X11_crowdFault (nI f) w4) (fun x9 => if x9 = 0 then Option.bind (rc K (mm_R M (32 * 11 + 3) B) 1) (fun a11 => Option.bind (f_X1_begin K L fu a11 (mm_R M (32 * 11 + 0) B) M) (fun x13 => f_X11_among_83 K L fu B fu (nI p) w2 (nI f) w4 (0 : Int32) (0 : Int32) x13)) else Option.bind (f_X11_refuse K L B x9 M) (fun x15 => some (x15.1, x15.2)))) = f_X11_refuse K L B (-(nI k)) M ∧ ∀ m, (Option.bind (f_X12_whyAmong (B + 44) (nI f) w4) (fun x1 => f_X12_among_46 K L fu (B + 44) (nI p) w2 (nI f) w4 x1 m)) = f_X12_no K L (B + 44) (-(nI k)) m := by
      intro k h1 h2 hk
      refine ⟨?_, fun m => ?_⟩
      · refine (sb k1 _).trans ?_
        rw [hk, if_neg (ng_ne h1 h2)]
        exact bind_eta _
      · refine (sb (k2 _) _).trans ?_
        unfold f_X12_among_46
        rw [hk, if_neg (ng_ne h1 h2)]
        exact bind_eta _
    rcases k3 with h0 | h0 | h0
    · right
      obtain ⟨m, m1, m2, rfl, m4⟩ := k4 h0
      have hp := g.1
      have hi := isw_ok g
      obtain ⟨rk, h16, hr⟩ := rk_w (WF_iv iv) iv.2.2.2.1
      have hr3 : mm_R M (32 * 11 + 3) B = some (B + 37) := iv.1.2.1.1.2.2.2.1
      have hr0 : mm_R M (32 * 11 + 0) B = some (B + 1) := iv.1.2.1.1.2.1
      obtain ⟨N, sv, b1, b2, b3, b4, b5, b6⟩ := begin_c (fu := fu) iv rfl (by omega)
      obtain ⟨N1, a1, a2⟩ := among_c (fu := fu) (v := w2) iv h16 hr hfu hp hi m2 m4 m fu 0 N b2 ⟨sv, b4, b5, b6⟩ (by omega) (by omega)
      have iv1 := iv_scr iv a2
      have e392 : mm_I N1 392 (B + 44) = mm_I M 392 (B + 44) := a2.2.2.2.2.1 392 _ (by omega) (by omega)
      obtain ⟨N2, d1, d2⟩ := among_m (fu := fu) (v := w2) (v6 := mm_I M 392 (B + 44)) iv h16 hr hfu hp hi m2 m4 rfl m fu 0 (ms_I N1 392 (B + 44) (nI f)) ((sc2.of a2).num _) (by rw [I_I, if_pos ⟨rfl, rfl⟩]; rfl) (by omega) (by omega)
      refine ⟨(amc B M f p w2 m, N1), (amc B M f p w2 m, N2), ?_, a2.same, ?_, rfl, iv_scr iv d2⟩
      · show Option.bind (f_X11_crowdFault (nI f) (nI m)) _ = _
        refine (sb k1 _).trans ?_
        rw [if_pos h0, hr3, hr0]
        refine (rcb iv.1.2.1.2.2.2.1.1 _).trans ?_
        refine (sb b1 _).trans ?_
        exact a1
      · show Option.bind (f_X12_whyAmong (B + 44) (nI f) (nI m)) (fun x1 => f_X12_among_46 K L fu (B + 44) (nI p) w2 (nI f) (nI m) x1 N1) = _
        refine (sb (k2 _) _).trans ?_
        unfold f_X12_among_46
        rw [if_pos h0, bn_eq, bn_eq, show mm_I N1 (32 * 12 + 8) (B + 44) = mm_I M 392 (B + 44) from e392]
        exact d1
    · exact Or.inl ⟨4, by decide, by decide, (neg 4 (by decide) (by decide) h0).1, fun m _ => (neg 4 (by decide) (by decide) h0).2 m⟩
    · exact Or.inl ⟨12, by decide, by decide, (neg 12 (by decide) (by decide) h0).1, fun m _ => (neg 12 (by decide) (by decide) h0).2 m⟩
  · refine fin_no iv 3 (by decide) (by decide) (F2 := fun m => f_X12_among K L fu (B + 44) w1 w2 w3 w4 m) ?_ ?_
    · unfold f_X11_among f_X11_among_18
      rw [within_eq, show (7 : Int32).toInt = 7 from rfl, within_eq, show (999999 : Int32).toInt = 999999 from rfl]
      by_cases h : 0 ≤ w2.toInt ∧ w2.toInt ≤ 7
      · rw [if_pos h, if_neg (fun x => hc ⟨h, x⟩)]
        exact bind_eta _
      · rw [if_neg h]
        exact bind_eta _
    · show f_X12_among K L fu (B + 44) w1 w2 w3 w4 (bump M (B + 43) 3) = _
      have h46 : f_X12_among_19 K L fu (B + 44) w1 w2 w3 w4 (bump M (B + 43) 3) = f_X12_no K L (B + 44) (-(nI 3)) (bump M (B + 43) 3) := by
        unfold f_X12_among_19 f_X12_among_30 f_X12_among_46
        rw [if_neg (by decide), if_neg (by decide)]
        exact bind_eta _
      unfold f_X12_among
      rw [isIn_l w2 (A := 0) (C := 7) (a := 0) (c := 7) rfl rfl, isNumber_eq, h46]
      by_cases h : 0 ≤ w2.toInt ∧ w2.toInt ≤ 7
      · rw [if_pos h, if_neg (fun x => hc ⟨h, x⟩)]
        rfl
      · rw [if_neg h]
        rfl
