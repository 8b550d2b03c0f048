/-! who goes over whom: shares, both sides -/
def ov (f s : Nat → Int32) (way fr n : Int32) : Nat → Int32
  | 0 => 0
  | k + 1 => if ¬ nI (7 - k) = way ∧ ¬ n ≤ 0 ∧ ¬ s (7 - k) ≤ 0 ∧ ¬ f (7 - k) + s (7 - k) ≤ fr ∧ ¬ fr + n ≤ f (7 - k) then 1 else ov f s way fr n k
theorem ov_01 (f s : Nat → Int32) (way fr n : Int32) (k : Nat) : ov f s way fr n k = 0 ∨ ov f s way fr n k = 1 := by
  induction k with
  | zero => exact Or.inl rfl
  | succ k ih =>
    unfold ov
    split
    · exact Or.inr rfl
    · exact ih
theorem over_m {B : Nat} {K L : Nat → Nat} {M : Mm} {fu p : Nat} {S : Nat → Int32} {way fr n : Int32} (h : MS B K L (mm_R M)) (hp : p < 16) (hS : mm_A M (B + 45) = S) : ∀ (k g : Nat), k ≤ 7 → k < g → f_X12_goesOver_3 K L fu M (B + 44) g (nI p) way fr n (nI (8 - k)) = some (ov (fun w => S (3940 * p + 28 + w)) (fun w => S (3940 * p + 36 + w)) way fr n k) := by
  intro k
  induction k with
  | zero =>
    intro g h1 h2
    obtain ⟨g, rfl⟩ : ∃ g', g = g' + 1 := ⟨g - 1, by omega⟩
    show f_X12_goesOver_3b K L fu (f_X12_goesOver_3 K L fu M (B + 44) g) M (B + 44) (nI p) way fr n (nI 8) = _
    unfold f_X12_goesOver_3b
    rw [if_pos (by decide)]
    rfl
  | succ k ih =>
    intro g h1 h2
    obtain ⟨g, rfl⟩ : ∃ g', g = g' + 1 := ⟨g - 1, by omega⟩
    show f_X12_goesOver_3b K L fu (f_X12_goesOver_3 K L fu M (B + 44) g) M (B + 44) (nI p) way fr n (nI (8 - (k + 1))) = _
    have ih' := ih g (by omega) (by omega)
    have e8 : nI (8 - (k + 1)) + 1 = nI (8 - k) := by rw [nI_1]; congr 1; omega
    have e7 : 8 - (k + 1) = 7 - k := by omega
    unfold f_X12_goesOver_3b
    rw [if_neg (show ¬ (8 : Int32) ≤ nI (8 - (k + 1)) from nI_ge (b := 8) (by omega) (by decide)), e8, ih', m_of (c := 28 + nI (8 - (k + 1))) h hp (28 + (8 - (k + 1))) (nI_add 28 _) (by omega), m_of (c := 36 + nI (8 - (k + 1))) h hp (36 + (8 - (k + 1))) (nI_add 36 _) (by omega), hS, e7, ← Nat.add_assoc, ← Nat.add_assoc]
    simp only [Option.bind_some]
    show _ = some (if _ then _ else _)
    by_cases c1 : nI (7 - k) = way
    · rw [if_pos c1, if_neg (fun q => q.1 c1)]
    · rw [if_neg c1]
      by_cases c2 : n ≤ 0
      · rw [if_pos c2, if_neg (fun q => q.2.1 c2)]
      · rw [if_neg c2]
        by_cases c3 : S (3940 * p + 36 + (7 - k)) ≤ 0
        · rw [if_pos c3, if_neg (fun q => q.2.2.1 c3)]
        · rw [if_neg c3]
          by_cases c4 : S (3940 * p + 28 + (7 - k)) + S (3940 * p + 36 + (7 - k)) ≤ fr
          · rw [if_pos c4, if_neg (fun q => q.2.2.2.1 c4)]
          · rw [if_neg c4]
            by_cases c5 : fr + n ≤ S (3940 * p + 28 + (7 - k))
            · rw [if_pos c5, if_neg (fun q => q.2.2.2.2 c5)]
            · rw [if_neg c5, if_pos ⟨c1, c2, c3, c4, c5⟩]
theorem goesOver_m {B : Nat} {K L : Nat → Nat} {M : Mm} {fu p : Nat} {S : Nat → Int32} {way fr n : Int32} (h : MS B K L (mm_R M)) (hp : p < 16) (hS : mm_A M (B + 45) = S) (hfu : 1000 ≤ fu) : f_X12_goesOver K L fu M (B + 44) (nI p) way fr n = some (ov (fun w => S (3940 * p + 28 + w)) (fun w => S (3940 * p + 36 + w)) way fr n 7) := over_m h hp hS 7 fu (by omega) (by omega)
theorem over_c {K L : Nat → Nat} {M : Mm} {fu b o : Nat} {S : Nat → Int32} {C : Nat → Nat → Option Nat} {way fr n : Int32} (h : BS K L (mm_R M) C b) (r : rSh M b S o) : ∀ (k g : Nat), k ≤ 7 → k < g → f_X7_fits_27 K L fu M (b + 6) g way fr n (nI (8 - k)) = some (if ov (fun w => S (o + 28 + w)) (fun w => S (o + 36 + w)) way fr n k = 0 then 1 else 0) := by
  obtain ⟨-, -, ⟨-, r1, r2, q1, q2, q3, q4⟩, -⟩ := h
  intro k
  induction k with
  | zero =>
    intro g h1 h2
    obtain ⟨g, rfl⟩ : ∃ g', g = g' + 1 := ⟨g - 1, by omega⟩
    show f_X7_fits_27b K L fu (f_X7_fits_27 K L fu M (b + 6) g) M (b + 6) way fr n (nI 8) = _
    unfold f_X7_fits_27b
    rw [if_pos (by decide)]
    rfl
  | succ k ih =>
    intro g h1 h2
    obtain ⟨g, rfl⟩ : ∃ g', g = g' + 1 := ⟨g - 1, by omega⟩
    show f_X7_fits_27b K L fu (f_X7_fits_27 K L fu M (b + 6) g) M (b + 6) way fr n (nI (8 - (k + 1))) = _
    have ih' := ih g (by omega) (by omega)
    have e8 : nI (8 - (k + 1)) + 1 = nI (8 - k) := by rw [nI_1]; congr 1; omega
    have e7 : 8 - (k + 1) = 7 - k := by omega
    obtain ⟨s1, s2, -⟩ := r (7 - k) (by omega) (by omega)
    unfold f_X7_fits_27b f_X7_goesOver
    rw [if_neg (show ¬ (8 : Int32) ≤ nI (8 - (k + 1)) from nI_ge (b := 8) (by omega) (by decide)), e8, ih', show mm_R M (32 * 7 + 0) (b + 6) = some (b + 7) from r1, show mm_R M (32 * 7 + 1) (b + 6) = some (b + 8) from r2, e7, rx_ok q1 q2 (show 7 - k < 8 by omega) (by decide), rx_ok q3 q4 (show 7 - k < 8 by omega) (by decide), nI_clamp (show 7 - k < 2 ^ 31 by omega)]
    simp only [Option.bind_some, s1, s2]
    have un : ov (fun w => S (o + 28 + w)) (fun w => S (o + 36 + w)) way fr n (k + 1) = if ¬ nI (7 - k) = way ∧ ¬ n ≤ 0 ∧ ¬ S (o + 36 + (7 - k)) ≤ 0 ∧ ¬ S (o + 28 + (7 - k)) + S (o + 36 + (7 - k)) ≤ fr ∧ ¬ fr + n ≤ S (o + 28 + (7 - k)) then 1 else ov (fun w => S (o + 28 + w)) (fun w => S (o + 36 + w)) way fr n k := rfl
    have hN : (¬ nI (7 - k) = way ∧ ¬ n ≤ 0 ∧ ¬ S (o + 36 + (7 - k)) ≤ 0 ∧ ¬ S (o + 28 + (7 - k)) + S (o + 36 + (7 - k)) ≤ fr ∧ ¬ fr + n ≤ S (o + 28 + (7 - k)) → False) → ov (fun w => S (o + 28 + w)) (fun w => S (o + 36 + w)) way fr n (k + 1) = ov (fun w => S (o + 28 + w)) (fun w => S (o + 36 + w)) way fr n k := fun q => un.trans (if_neg q)
    by_cases c1 : nI (7 - k) = way
    · rw [if_pos c1, hN (fun q => q.1 c1)]
    · rw [if_neg c1]
      by_cases c2 : n ≤ 0
      · rw [if_pos c2, hN (fun q => q.2.1 c2)]
        rfl
      · rw [if_neg c2]
        by_cases c3 : S (o + 36 + (7 - k)) ≤ 0
        · rw [if_pos c3, hN (fun q => q.2.2.1 c3)]
          rfl
        · rw [if_neg c3]
          by_cases c4 : S (o + 28 + (7 - k)) + S (o + 36 + (7 - k)) ≤ fr
          · rw [if_pos c4, hN (fun q => q.2.2.2.1 c4)]
            rfl
          · rw [if_neg c4]
            by_cases c5 : fr + n ≤ S (o + 28 + (7 - k))
            · rw [if_pos c5, hN (fun q => q.2.2.2.2 c5)]
              rfl
            · rw [if_neg c5, un.trans (if_pos ⟨c1, c2, c3, c4, c5⟩)]
              rfl
theorem fits_eq {K L : Nat → Nat} {M : Mm} {fu b o : Nat} {S : Nat → Int32} {C : Nat → Nat → Option Nat} {way fr n : Int32} (h : BS K L (mm_R M) C b) (r : rSh M b S o) (hfu : 1000 ≤ fu) : f_X7_fits K L fu M (b + 6) way fr n = some (if (0 ≤ fr.toInt ∧ fr.toInt ≤ 9999) ∧ (0 ≤ n.toInt ∧ n.toInt + fr.toInt ≤ 10000) ∧ ov (fun w => S (o + 28 + w)) (fun w => S (o + 36 + w)) way fr n 7 = 0 then 1 else 0) := by
  unfold f_X7_fits
  rw [within_eq, show (9999 : Int32).toInt = 9999 from rfl]
  simp only [Option.bind_some]
  by_cases h1 : 0 ≤ fr.toInt ∧ fr.toInt ≤ 9999
  · obtain ⟨v, v1, rfl⟩ := n_of (v := fr) (m := 9999) h1.1 h1.2 (by decide)
    have e : ((10000 : Int32) - nI v).toInt = 10000 - (v : Int) := pk_sub_toInt (a := 10000) (b := v) (by omega) (by omega)
    have ev : (nI v).toInt = v := nI_toInt (by omega)
    rw [if_pos h1, if_neg (by decide), within_eq, e]
    simp only [Option.bind_some]
    by_cases h2 : 0 ≤ n.toInt ∧ n.toInt ≤ 10000 - (v : Int)
    · rw [if_pos h2, if_neg (by decide), show (1 : Int32) = nI (8 - 7) from rfl, over_c h r 7 fu (by omega) (by omega)]
      by_cases h3 : ov (fun w => S (o + 28 + w)) (fun w => S (o + 36 + w)) way (nI v) n 7 = 0
      · rw [if_pos h3, if_pos ⟨h1, ⟨h2.1, by omega⟩, h3⟩]
        rfl
      · rw [if_neg h3, if_neg (fun q => h3 q.2.2)]
    · rw [if_neg h2, if_pos rfl, if_neg (fun q => h2 ⟨q.2.1.1, by have := q.2.1.2; omega⟩)]
  · rw [if_neg h1, if_pos rfl, if_neg (fun q => h1 q.1)]
theorem put_eq {K L : Nat → Nat} {M : Mm} {b w : Nat} {C : Nat → Nat → Option Nat} (h : BS K L (mm_R M) C b) (h1 : 1 ≤ w) (h2 : w < 8) (x y : Int32) : f_X7_put K L (b + 6) (nI w) x y M = some (ms_A (ms_A M (b + 7) (upd (mm_A M (b + 7)) w x)) (b + 8) (upd (mm_A M (b + 8)) w y)) := by
  obtain ⟨-, -, ⟨-, r1, r2, q1, q2, q3, q4⟩, -⟩ := h
  unfold f_X7_put
  rw [isShared_eq, if_pos (sw_t h1 h2), show mm_R M (32 * 7 + 0) (b + 6) = some (b + 7) from r1]
  simp only [Option.bind_some, rx_ok q1 q2 h2 (by decide), bn_eq, R_A]
  rw [if_neg (by decide), show mm_R M (32 * 7 + 1) (b + 6) = some (b + 8) from r2, rx_ok q3 q4 h2 (by decide)]
  simp only [Option.bind_some, A_A]
  rw [if_neg (by omega), nI_clamp (by omega)]
