/-! scratch: what calls may leave behind and nobody reads -/
def scr (B : Nat) (M M' : Mm) : Prop := mm_R M' = mm_R M ∧ mm_C M' = mm_C M ∧ mm_B M' = mm_B M ∧ (∀ a, a ≠ B + 38 → a ≠ B + 40 → a ≠ B + 41 → a ≠ B + 51 → a ≠ B + 52 → a ≠ B + 53 → a ≠ B + 54 → mm_A M' a = mm_A M a) ∧ (∀ x a, ¬ (a = B + 44 ∧ 400 ≤ x) → ¬ (a = B + 37 ∧ 36 ≤ x) → mm_I M' x a = mm_I M x a) ∧ ∀ x a, a ≠ B + 44 → mm_J M' x a = mm_J M x a
section SC
variable {B : Nat} {M M' M'' : Mm}
theorem scr.rf (B : Nat) (M : Mm) : scr B M M := ⟨rfl, rfl, rfl, fun _ _ _ _ _ _ _ _ => rfl, fun _ _ _ _ => rfl, fun _ _ _ => rfl⟩
theorem scr.tr (h : scr B M M') (h' : scr B M' M'') : scr B M M'' := ⟨h'.1.trans h.1, h'.2.1.trans h.2.1, h'.2.2.1.trans h.2.2.1, fun a h1 h2 h3 h4 h5 h6 h7 => (h'.2.2.2.1 a h1 h2 h3 h4 h5 h6 h7).trans (h.2.2.2.1 a h1 h2 h3 h4 h5 h6 h7), fun x a h1 h2 => (h'.2.2.2.2.1 x a h1 h2).trans (h.2.2.2.2.1 x a h1 h2), fun x a h1 => (h'.2.2.2.2.2 x a h1).trans (h.2.2.2.2.2 x a h1)⟩
theorem scr.Im {x : Nat} {v : Int32} (hx : 400 ≤ x) : scr B M (ms_I M x (B + 44) v) := ⟨rfl, rfl, rfl, fun _ _ _ _ _ _ _ _ => rfl, fun y a h1 _ => by rw [I_I, if_neg]; intro q; exact h1 ⟨q.2, by omega⟩, fun _ _ _ => rfl⟩
theorem scr.Ic {x : Nat} {v : Int32} (hx : 36 ≤ x) : scr B M (ms_I M x (B + 37) v) := ⟨rfl, rfl, rfl, fun _ _ _ _ _ _ _ _ => rfl, fun y a _ h1 => by rw [I_I, if_neg]; intro q; exact h1 ⟨q.2, by omega⟩, fun _ _ _ => rfl⟩
theorem scr.Jm {x : Nat} {v : Int64} : scr B M (ms_J M x (B + 44) v) := ⟨rfl, rfl, rfl, fun _ _ _ _ _ _ _ _ => rfl, fun _ _ _ _ => rfl, fun y a h1 => by rw [J_J, if_neg]; intro q; exact h1 q.2⟩
theorem scr.Aa {c : Nat} {g : Nat → Int32} (hc : c = B + 38 ∨ c = B + 40 ∨ c = B + 41 ∨ c = B + 51 ∨ c = B + 52 ∨ c = B + 53 ∨ c = B + 54) : scr B M (ms_A M c g) := ⟨rfl, rfl, rfl, fun a h1 h2 h3 h4 h5 h6 h7 => by rw [A_A, if_neg (by omega)], fun _ _ _ _ => rfl, fun _ _ _ => rfl⟩
theorem scr.S (h : scr B M M') : mm_A M' (B + 45) = mm_A M (B + 45) := h.2.2.2.1 _ (by omega) (by omega) (by omega) (by omega) (by omega) (by omega) (by omega)
theorem scr.same (h : scr B M M') : sameS B M M' := ⟨h.1, h.S⟩
theorem scr.MS {K L : Nat → Nat} (h : scr B M M') (q : MS B K L (mm_R M)) : MS B K L (mm_R M') := by rw [h.1]; exact q
theorem scr.e (h : scr B M M') {a : Nat} (h37 : a ≠ B + 37) (h38 : a < B + 38 ∨ B + 54 < a) : eqAt M M' a :=
  ⟨fun x => h.2.2.2.2.1 x a (fun q => by omega) (fun q => h37 q.1), fun x => h.2.2.2.2.2 x a (by omega), fun x => by rw [h.1], h.2.2.2.1 a (by omega) (by omega) (by omega) (by omega) (by omega) (by omega) (by omega), by rw [h.2.2.1], by rw [h.2.1]⟩
theorem iv_scr {n : Nat} {K L : Nat → Nat} (iv : Iv B n K L M) (h : scr B M M') : Iv B n K L M' := by
  obtain ⟨g, c1, c2, c3, c4, c5, c6, c7, c8⟩ := id iv
  have hA : ∀ a, a ≠ B + 38 → a ≠ B + 40 → a ≠ B + 41 → a ≠ B + 51 → a ≠ B + 52 → a ≠ B + 53 → a ≠ B + 54 → mm_A M' a = mm_A M a := h.2.2.2.1
  have hI : ∀ x a, ¬ (a = B + 44 ∧ 400 ≤ x) → ¬ (a = B + 37 ∧ 36 ≤ x) → mm_I M' x a = mm_I M x a := h.2.2.2.2.1
  have hp := Cd.places g (fun a ha => h.e (a := a) (by omega) (by omega)) h.S (hA (B + 46) (by omega) (by omega) (by omega) (by omega) (by omega) (by omega) (by omega)) (by rw [h.2.2.1]) (by rw [h.2.2.1]) ⟨c1, c2⟩
  refine ⟨by rw [h.1, h.2.1]; exact g, hp.1, hp.2, by rw [h.S]; exact c3, by rw [hA (B + 46) (by omega) (by omega) (by omega) (by omega) (by omega) (by omega) (by omega)]; exact c4, ?_, ?_, ?_, ?_⟩
  · intro i hi
    rw [hA (B + 43) (by omega) (by omega) (by omega) (by omega) (by omega) (by omega) (by omega), hA (B + 49) (by omega) (by omega) (by omega) (by omega) (by omega) (by omega) (by omega)]
    exact c5 i hi
  · rw [hI 32 (B + 37) (by omega) (by omega), hI 33 (B + 37) (by omega) (by omega), hI 34 (B + 37) (by omega) (by omega), hI 35 (B + 37) (by omega) (by omega), hI 392 (B + 44) (by omega) (by omega), hI 393 (B + 44) (by omega) (by omega), hI 394 (B + 44) (by omega) (by omega), hI 395 (B + 44) (by omega) (by omega)]
    exact c6
  · rw [hI 354 B (by omega) (by omega), hI 388 (B + 44) (by omega) (by omega)]
    exact c7
  · obtain ⟨z, z1, z2, z3, z4⟩ := c8
    refine ⟨z, z1, by rw [hI 163 (B + 39) (by omega) (by omega)]; exact z2, by rw [hI 391 (B + 44) (by omega) (by omega)]; exact z3, fun i hi => ?_⟩
    rw [hA (B + 42) (by omega) (by omega) (by omega) (by omega) (by omega) (by omega) (by omega), hA (B + 50) (by omega) (by omega) (by omega) (by omega) (by omega) (by omega) (by omega)]
    exact z4 i hi
end SC
/-! the window -/
def sm (f : Nat → Int32) (st : Nat) : Nat → Int64
  | 0 => 0
  | k + 1 => sm f st k + (f (st + k)).toInt64
abbrev ta (T : Nat → Int32) (st d : Nat) : Prop := ∀ i, i < d → T (st + i) = 1
theorem dec_1 (k : Nat) : nI (k + 1) - 1 + (-1) = nI k - 1 := by
  rw [← nI_1, Int32.add_sub_cancel, Int32.sub_eq_add_neg]
section WI
variable {B : Nat} {K L : Nat → Nat} {fu p m win : Nat} {S : Nat → Int32}
theorem win_loop (hp : p < 16) (hm : m < 240) (hw : S (3940 * p + 70) = nI win) (hw1 : win ≤ 60) (hT : ∀ k, k < 240 → S (3940 * p + 100 + 4 * (240 * 1 + k)) = 0 ∨ S (3940 * p + 100 + 4 * (240 * 1 + k)) = 1) : ∀ (d g : Nat) (M : Mm), MS B K L (mm_R M) → mm_A M (B + 45) = S → (mm_I M 400 (B + 44) = 0 ∨ mm_I M 400 (B + 44) = 1) → m + 1 - win + d ≤ m + 1 → d < g →
    ∃ M', f_X12_window_32 K L fu (B + 44) g (nI p) (nI m) (nI (m + 1 - win + d) - 1) M = some M' ∧ scr B M M' ∧ mm_I M' 400 (B + 44) = (if mm_I M 400 (B + 44) = 1 ∧ ta (fun k => S (3940 * p + 100 + 4 * (240 * 1 + k))) (m + 1 - win) d then 1 else 0) ∧ mm_J M' 401 (B + 44) = mm_J M 401 (B + 44) + sm (fun k => S (3940 * p + 101 + 4 * (240 * 1 + k))) (m + 1 - win) d ∧ mm_J M' 402 (B + 44) = mm_J M 402 (B + 44) + sm (fun k => S (3940 * p + 102 + 4 * (240 * 1 + k))) (m + 1 - win) d := by
  intro d
  induction d with
  | zero =>
    intro g M hM hS hF h1 h2
    obtain ⟨g, rfl⟩ : ∃ g', g = g' + 1 := ⟨g - 1, by omega⟩
    refine ⟨M, ?_, scr.rf B M, ?_, ?_, ?_⟩
    · show f_X12_window_32b K L fu (f_X12_window_32 K L fu (B + 44) g) (B + 44) (nI p) (nI m) (nI (m + 1 - win) - 1) M = _
      unfold f_X12_window_32b
      have e1 : (nI (m + 1 - win) - 1).toInt = ((m + 1 - win : Nat) : Int) - 1 := pk_sub_toInt (a := m + 1 - win) (b := 1) (by omega) (by decide)
      have e2 : (nI m - nI win).toInt = (m : Int) - win := pk_sub_toInt (a := m) (b := win) (by omega) (by omega)
      by_cases h0 : (nI (m + 1 - win) - 1) < 0
      · rw [if_pos h0]
      · rw [if_neg h0, m_of (c := 70) hM hp 70 rfl (by decide), hS, hw]
        simp only [Option.bind_some]
        rw [t_lt, e1, show (0 : Int32).toInt = 0 from rfl] at h0
        rw [if_pos (by rw [t_le, e1, e2]; omega)]
    · rcases hF with h | h
      · rw [h, if_neg (by intro q; exact absurd q.1 (by decide))]
      · rw [h, if_pos ⟨rfl, fun i hi => by omega⟩]
    · show _ = _ + 0
      rw [Int64.add_zero]
    · show _ = _ + 0
      rw [Int64.add_zero]
  | succ d ih =>
    intro g M hM hS hF h1 h2
    obtain ⟨g, rfl⟩ : ∃ g', g = g' + 1 := ⟨g - 1, by omega⟩
    have e0 : nI (m + 1 - win + (d + 1)) - 1 = nI (m + 1 - win + d) := by
      rw [show m + 1 - win + (d + 1) = (m + 1 - win + d) + 1 from rfl, ← nI_1, Int32.add_sub_cancel]
    have e2 : (nI m - nI win).toInt = (m : Int) - win := pk_sub_toInt (a := m) (b := win) (by omega) (by omega)
    have hk : m + 1 - win + d < 240 := by omega
    generalize hst : m + 1 - win = st at *
    have h44 : rc K (some (B + 44)) 12 = some (B + 44) := rc_ok hM.1.1
    have key : ∀ s0 : Int32, (s0 = 0 ∨ s0 = 1) → (s0 = if mm_I M 400 (B + 44) = 1 ∧ S (3940 * p + 100 + 4 * (240 * 1 + (st + d))) = 1 then 1 else 0) → ∃ M', f_X12_window_80 K L fu (f_X12_window_32 K L fu (B + 44) g) (B + 44) (nI p) (nI m) (nI (st + d)) (nI (100 + 4 * (240 * 1 + (st + d)))) s0 (some (B + 44)) M = some M' ∧ scr B M M' ∧ mm_I M' 400 (B + 44) = (if mm_I M 400 (B + 44) = 1 ∧ ta (fun k => S (3940 * p + 100 + 4 * (240 * 1 + k))) st (d + 1) then 1 else 0) ∧ mm_J M' 401 (B + 44) = mm_J M 401 (B + 44) + sm (fun k => S (3940 * p + 101 + 4 * (240 * 1 + k))) st (d + 1) ∧ mm_J M' 402 (B + 44) = mm_J M 402 (B + 44) + sm (fun k => S (3940 * p + 102 + 4 * (240 * 1 + k))) st (d + 1) := by
      intro s0 hs0 hs1
      unfold f_X12_window_80
      rw [h44, zb_ok hs0]
      simp only [Option.bind_some, bn_eq]
      rw [m_of (c := nI (100 + 4 * (240 * 1 + (st + d))) + 1) (M := ms_I M (32 * 12 + 16) (B + 44) s0) hM hp (100 + 4 * (240 * 1 + (st + d)) + 1) (nI_1 _) (by omega)]
      simp only [Option.bind_some]
      rw [m_of (c := nI (100 + 4 * (240 * 1 + (st + d))) + 2) (M := ms_J (ms_I M (32 * 12 + 16) (B + 44) s0) (32 * 12 + 17) (B + 44) _) hM hp (100 + 4 * (240 * 1 + (st + d)) + 2) (nI_add _ 2) (by omega)]
      simp only [Option.bind_some]
      have hv : nI (st + d) + -1 = nI (st + d) - 1 := by rw [Int32.sub_eq_add_neg]
      rw [hv]
      obtain ⟨M', i1, i2, i3, i4, i5⟩ := ih g (ms_J (ms_J (ms_I M (32 * 12 + 16) (B + 44) s0) (32 * 12 + 17) (B + 44) (mm_J (ms_I M (32 * 12 + 16) (B + 44) s0) (32 * 12 + 17) (B + 44) + (mm_A (ms_I M (32 * 12 + 16) (B + 44) s0) (B + 45) (3940 * p + (100 + 4 * (240 * 1 + (st + d)) + 1))).toInt64)) (32 * 12 + 18) (B + 44) (mm_J (ms_J (ms_I M (32 * 12 + 16) (B + 44) s0) (32 * 12 + 17) (B + 44) (mm_J (ms_I M (32 * 12 + 16) (B + 44) s0) (32 * 12 + 17) (B + 44) + (mm_A (ms_I M (32 * 12 + 16) (B + 44) s0) (B + 45) (3940 * p + (100 + 4 * (240 * 1 + (st + d)) + 1))).toInt64)) (32 * 12 + 18) (B + 44) + (mm_A (ms_J (ms_I M (32 * 12 + 16) (B + 44) s0) (32 * 12 + 17) (B + 44) (mm_J (ms_I M (32 * 12 + 16) (B + 44) s0) (32 * 12 + 17) (B + 44) + (mm_A (ms_I M (32 * 12 + 16) (B + 44) s0) (B + 45) (3940 * p + (100 + 4 * (240 * 1 + (st + d)) + 1))).toInt64)) (B + 45) (3940 * p + (100 + 4 * (240 * 1 + (st + d)) + 2))).toInt64)) hM hS (by rw [I_J, I_J, I_I, if_pos ⟨rfl, rfl⟩]; exact hs0) (by omega) (by omega)
      refine ⟨M', i1, (((scr.Im (by omega)).tr scr.Jm).tr scr.Jm).tr i2, ?_, ?_, ?_⟩
      · rw [i3, I_J, I_J, I_I, if_pos (show 400 = 32 * 12 + 16 ∧ B + 44 = B + 44 from ⟨rfl, rfl⟩), hs1]
        by_cases q : mm_I M 400 (B + 44) = 1 ∧ ta (fun k => S (3940 * p + 100 + 4 * (240 * 1 + k))) st (d + 1)
        · rw [if_pos q, if_pos ⟨if_pos ⟨q.1, q.2 d (by omega)⟩, fun i hi => q.2 i (by omega)⟩]
        · rw [if_neg q, if_neg]
          intro q'
          obtain ⟨q1, q2⟩ := q'
          by_cases q3 : mm_I M 400 (B + 44) = 1 ∧ S (3940 * p + 100 + 4 * (240 * 1 + (st + d))) = 1
          · refine q ⟨q3.1, fun i hi => ?_⟩
            by_cases e : i = d
            · subst e; exact q3.2
            · exact q2 i (by omega)
          · rw [if_neg q3] at q1
            exact absurd q1 (by decide)
      · rw [i4, J_J, if_neg (by omega), J_J, if_pos ⟨rfl, rfl⟩, J_I]
        show _ = _ + (_ + _)
        rw [A_I, hS, Int64.add_assoc, Int64.add_comm (sm _ st d), show 3940 * p + (100 + 4 * (240 * 1 + (st + d)) + 1) = 3940 * p + 101 + 4 * (240 * 1 + (st + d)) by omega]
      · rw [i5, J_J, if_pos ⟨rfl, rfl⟩, J_J, if_neg (by omega), J_I]
        show _ = _ + (_ + _)
        rw [A_J, A_I, hS, Int64.add_assoc, Int64.add_comm (sm _ st d), show 3940 * p + (100 + 4 * (240 * 1 + (st + d)) + 2) = 3940 * p + 102 + 4 * (240 * 1 + (st + d)) by omega]
    show ∃ M', f_X12_window_32b K L fu (f_X12_window_32 K L fu (B + 44) g) (B + 44) (nI p) (nI m) (nI (st + (d + 1)) - 1) M = some M' ∧ _
    unfold f_X12_window_32b
    rw [e0, if_neg (nI_pos (by omega)), m_of (c := 70) hM hp 70 rfl (by decide), hS, hw]
    simp only [Option.bind_some]
    rw [if_neg (by rw [t_le, nI_toInt (by omega), e2]; omega), show f_X12_minuteAt 1 (nI (st + d)) = some (nI (100 + 4 * (240 * 1 + (st + d)))) from minute_eq 1 (st + d)]
    simp only [Option.bind_some]
    rw [m_of (c := nI (100 + 4 * (240 * 1 + (st + d)))) hM hp (100 + 4 * (240 * 1 + (st + d))) rfl (by omega), hS, show 3940 * p + (100 + 4 * (240 * 1 + (st + d))) = 3940 * p + 100 + 4 * (240 * 1 + (st + d)) by omega]
    simp only [Option.bind_some]
    rw [show mm_I M (32 * 12 + 16) (B + 44) = mm_I M 400 (B + 44) from rfl]
    rcases hF with h | h
    · rw [if_pos h]
      exact key 0 (Or.inl rfl) (by rw [if_neg]; intro q; rw [h] at q; exact absurd q.1 (by decide))
    · rw [if_neg (by rw [h]; decide)]
      rcases hT (st + d) hk with h' | h'
      · rw [if_neg (by rw [h']; decide)]
        exact key 0 (Or.inl rfl) (by rw [if_neg]; intro q; rw [h'] at q; exact absurd q.2 (by decide))
      · rw [if_pos h']
        exact key 1 (Or.inr rfl) (by rw [if_pos ⟨h, h'⟩])
theorem window_eq (hp : p < 16) (hm : m < 240) (hw : S (3940 * p + 70) = nI win) (hw1 : win ≤ 60) (hw0 : 1 ≤ win) (hT : ∀ k, k < 240 → S (3940 * p + 100 + 4 * (240 * 1 + k)) = 0 ∨ S (3940 * p + 100 + 4 * (240 * 1 + k)) = 1) (hfu : 1000 ≤ fu) {M : Mm} (hM : MS B K L (mm_R M)) (hS : mm_A M (B + 45) = S) :
    ∃ M', f_X12_window K L fu (B + 44) (nI p) (nI m) M = some M' ∧ scr B M M' ∧ mm_I M' 400 (B + 44) = (if S (3940 * p + 91) = 1 ∧ ta (fun k => S (3940 * p + 100 + 4 * (240 * 1 + k))) (m + 1 - win) (m + 1 - (m + 1 - win)) then 1 else 0) ∧ mm_J M' 401 (B + 44) = sm (fun k => S (3940 * p + 101 + 4 * (240 * 1 + k))) (m + 1 - win) (m + 1 - (m + 1 - win)) ∧ mm_J M' 402 (B + 44) = sm (fun k => S (3940 * p + 102 + 4 * (240 * 1 + k))) (m + 1 - win) (m + 1 - (m + 1 - win)) := by
  have h44 : rc K (some (B + 44)) 12 = some (B + 44) := rc_ok hM.1.1
  have key : ∀ s0 : Int32, (s0 = if S (3940 * p + 91) = 1 then 1 else 0) → ∃ M', f_X12_window_17 K L fu (B + 44) (nI p) (nI m) s0 (some (B + 44)) M = some M' ∧ scr B M M' ∧ mm_I M' 400 (B + 44) = (if S (3940 * p + 91) = 1 ∧ ta (fun k => S (3940 * p + 100 + 4 * (240 * 1 + k))) (m + 1 - win) (m + 1 - (m + 1 - win)) then 1 else 0) ∧ mm_J M' 401 (B + 44) = sm (fun k => S (3940 * p + 101 + 4 * (240 * 1 + k))) (m + 1 - win) (m + 1 - (m + 1 - win)) ∧ mm_J M' 402 (B + 44) = sm (fun k => S (3940 * p + 102 + 4 * (240 * 1 + k))) (m + 1 - win) (m + 1 - (m + 1 - win)) := by
    intro s0 hs0
    have hs1 : s0 = 0 ∨ s0 = 1 := by rw [hs0]; split <;> simp
    unfold f_X12_window_17
    rw [h44, zb_ok hs1]
    simp only [Option.bind_some, bn_eq]
    obtain ⟨M', i1, i2, i3, i4, i5⟩ := win_loop (B := B) (K := K) (L := L) (fu := fu) hp hm hw hw1 hT (m + 1 - (m + 1 - win)) fu (ms_J (ms_J (ms_I M (32 * 12 + 16) (B + 44) s0) (32 * 12 + 17) (B + 44) 0) (32 * 12 + 18) (B + 44) 0) hM hS (by rw [I_J, I_J, I_I, if_pos ⟨rfl, rfl⟩]; exact hs1) (by omega) (by omega)
    rw [show nI (m + 1 - win + (m + 1 - (m + 1 - win))) - 1 = nI m by rw [show m + 1 - win + (m + 1 - (m + 1 - win)) = m + 1 by omega, ← nI_1, Int32.add_sub_cancel]] at i1
    refine ⟨M', i1, (((scr.Im (by omega)).tr scr.Jm).tr scr.Jm).tr i2, ?_, ?_, ?_⟩
    · rw [i3, I_J, I_J, I_I, if_pos (show 400 = 32 * 12 + 16 ∧ B + 44 = B + 44 from ⟨rfl, rfl⟩), hs0]
      by_cases q : S (3940 * p + 91) = 1
      · rw [if_pos q]; simp [q]
      · rw [if_neg q]; simp [q]
    · rw [i4, J_J, if_neg (by omega), J_J, if_pos ⟨rfl, rfl⟩, Int64.zero_add]
    · rw [i5, J_J, if_pos ⟨rfl, rfl⟩, Int64.zero_add]
  unfold f_X12_window
  rw [m_of (c := 91) hM hp 91 rfl (by decide), hS]
  simp only [Option.bind_some]
  by_cases q : S (3940 * p + 91) = 1
  · rw [if_pos q]
    exact key 1 (by rw [if_pos q])
  · rw [if_neg q]
    exact key 0 (by rw [if_neg q])
end WI
