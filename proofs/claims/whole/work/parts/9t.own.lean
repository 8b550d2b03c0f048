/-! ways: a switch's own way -/
def mkv (l a s m : Int32) : Int32 := if m = 0 then l else if m = 1 then a else s
def rlv (S : Nat → Int32) (o : Nat) (l a s : Int32) : Nat → Nat → Int32
  | 0, _ => 0
  | d + 1, i => if mkv l a s (S (o + 4 + 4 * i)) < S (o + 5 + 4 * i) then rlv S o l a s d (i + 1) else if S (o + 6 + 4 * i) < mkv l a s (S (o + 4 + 4 * i)) then rlv S o l a s d (i + 1) else nI (i + 1)
def swv (S : Nat → Int32) (o : Nat) (t : Int32) : Nat → Nat → Int32
  | 0, _ => 0
  | d + 1, i => if t < S (o + 28 + i) then swv S o t d (i + 1) else if S (o + 28 + i) + S (o + 36 + i) ≤ t then swv S o t d (i + 1) else nI i
theorem rlv_or (S : Nat → Int32) (o : Nat) (l a s : Int32) : ∀ d i : Nat, rlv S o l a s d i = 0 ∨ ∃ j : Nat, i ≤ j ∧ j < i + d ∧ rlv S o l a s d i = nI (j + 1)
  | 0, _ => Or.inl rfl
  | d + 1, i => by
    have h := rlv_or S o l a s d (i + 1)
    show (if mkv l a s (S (o + 4 + 4 * i)) < S (o + 5 + 4 * i) then rlv S o l a s d (i + 1) else if S (o + 6 + 4 * i) < mkv l a s (S (o + 4 + 4 * i)) then rlv S o l a s d (i + 1) else nI (i + 1)) = 0 ∨ ∃ j : Nat, i ≤ j ∧ j < i + (d + 1) ∧ (if mkv l a s (S (o + 4 + 4 * i)) < S (o + 5 + 4 * i) then rlv S o l a s d (i + 1) else if S (o + 6 + 4 * i) < mkv l a s (S (o + 4 + 4 * i)) then rlv S o l a s d (i + 1) else nI (i + 1)) = nI (j + 1)
    have h' : rlv S o l a s d (i + 1) = 0 ∨ ∃ j : Nat, i ≤ j ∧ j < i + (d + 1) ∧ rlv S o l a s d (i + 1) = nI (j + 1) := by
      rcases h with h | ⟨j, h1, h2, h3⟩
      · exact Or.inl h
      · exact Or.inr ⟨j, by omega, by omega, h3⟩
    by_cases q1 : mkv l a s (S (o + 4 + 4 * i)) < S (o + 5 + 4 * i)
    · rw [if_pos q1]; exact h'
    · rw [if_neg q1]
      by_cases q2 : S (o + 6 + 4 * i) < mkv l a s (S (o + 4 + 4 * i))
      · rw [if_pos q2]; exact h'
      · rw [if_neg q2]; exact Or.inr ⟨i, by omega, by omega, rfl⟩
section OWN
variable {B : Nat} {K L : Nat → Nat} {M : Mm} {fu b o p k : Nat} {S : Nat → Int32} {l a s : Int32}
theorem markOf_eq {c : Nat} (h1 : mm_I M 33 c = l) (h2 : mm_I M 34 c = a) (h3 : mm_I M 35 c = s) (m : Int32) : f_X1_markOf K L M c m = some (mkv l a s m) := by
  unfold f_X1_markOf mkv
  rw [show mm_I M (32 * 1 + 1) c = l from h1, show mm_I M (32 * 1 + 2) c = a from h2, show mm_I M (32 * 1 + 3) c = s from h3]
  by_cases q1 : m = 0
  · rw [if_pos q1, if_pos q1]
  · rw [if_neg q1, if_neg q1]
    by_cases q2 : m = 1
    · rw [if_pos q2, if_pos q2]
    · rw [if_neg q2, if_neg q2]
theorem first_loop {c : Nat} (h : BS K L (mm_R M) (mm_C M) b) (hc : K c = 1) (h1 : mm_I M 33 c = l) (h2 : mm_I M 34 c = a) (h3 : mm_I M 35 c = s) (hk : k ≤ 6) (i0 : mm_I M 192 (b + 1) = nI k) (hr : ∀ i, i < k → mm_A M (b + 2) i = S (o + 4 + 4 * i) ∧ mm_A M (b + 3) i = S (o + 5 + 4 * i) ∧ mm_A M (b + 4) i = S (o + 6 + 4 * i)) : ∀ (d g i : Nat), i + d = k → d < g → f_X6_firstFor_2 K L fu M (b + 1) g (some c) (nI i) = some (rlv S o l a s d i) := by
  obtain ⟨a1, a2, a3, a4, a5, a6, a7, a8, a9, a10, a11, a12, a13⟩ := h.2.1
  intro d
  induction d with
  | zero =>
    intro g i hi hg
    obtain ⟨g, rfl⟩ : ∃ g', g = g' + 1 := ⟨g - 1, by omega⟩
    have : i = k := by omega
    subst this
    show f_X6_firstFor_2b K L fu (f_X6_firstFor_2 K L fu M (b + 1) g) M (b + 1) (some c) (nI i) = _
    unfold f_X6_firstFor_2b
    rw [show mm_I M (32 * 6 + 0) (b + 1) = _ from i0, if_pos (nI_le (Nat.le_refl _) (by omega))]
    rfl
  | succ d ih =>
    intro g i hi hg
    obtain ⟨g, rfl⟩ : ∃ g', g = g' + 1 := ⟨g - 1, by omega⟩
    obtain ⟨e1, e2, e3⟩ := hr i (by omega)
    have ihk := ih g (i + 1) (by omega) (by omega)
    show f_X6_firstFor_2b K L fu (f_X6_firstFor_2 K L fu M (b + 1) g) M (b + 1) (some c) (nI i) = (some (if mkv l a s (S (o + 4 + 4 * i)) < S (o + 5 + 4 * i) then rlv S o l a s d (i + 1) else if S (o + 6 + 4 * i) < mkv l a s (S (o + 4 + 4 * i)) then rlv S o l a s d (i + 1) else nI (i + 1)))
    unfold f_X6_firstFor_2b
    rw [show mm_I M (32 * 6 + 0) (b + 1) = _ from i0, if_neg (nI_ge (by omega) (by omega)), show mm_R M (32 * 6 + 1) (b + 1) = _ from a2, show mm_R M (32 * 6 + 2) (b + 1) = _ from a3, show mm_R M (32 * 6 + 3) (b + 1) = _ from a4, rx_ok a6 a7 (show i < 6 by omega) (by decide), rx_ok a8 a9 (show i < 6 by omega) (by decide), rx_ok a10 a11 (show i < 6 by omega) (by decide), nI_clamp (by omega)]
    refine (sb rfl _).trans ?_
    refine (rcb hc _).trans ?_
    rw [e1]
    refine (sb (markOf_eq h1 h2 h3 _) _).trans ?_
    refine (sb rfl _).trans ?_
    rw [e2, nI_1, ihk]
    by_cases q1 : mkv l a s (S (o + 4 + 4 * i)) < S (o + 5 + 4 * i)
    · rw [if_pos q1, if_pos q1]
    · rw [if_neg q1, if_neg q1]
      refine (sb rfl _).trans ?_
      rw [e3]
      by_cases q2 : S (o + 6 + 4 * i) < mkv l a s (S (o + 4 + 4 * i))
      · rw [if_pos q2, if_pos q2]
      · rw [if_neg q2, if_neg q2]
theorem rule_loop (hM : MS B K L (mm_R M)) (hp : p < 16) (hS : mm_A M (B + 45) = S) (h1 : mm_I M 393 (B + 44) = l) (h2 : mm_I M 394 (B + 44) = a) (h3 : mm_I M 395 (B + 44) = s) (hk : k ≤ 6) (s3 : S (3940 * p + 3) = nI k) : ∀ (d g i : Nat), i + d = k → d < g → f_X12_ruleOf_2 K L fu M (B + 44) g (nI p) (nI i) = some (rlv S (3940 * p) l a s d i) := by
  have o3 : f_X12_of K L M (B + 44) (nI p) 3 = some (nI k) := by rw [m_of (c := 3) hM hp 3 rfl (by decide), hS, s3]
  intro d
  induction d with
  | zero =>
    intro g i hi hg
    obtain ⟨g, rfl⟩ : ∃ g', g = g' + 1 := ⟨g - 1, by omega⟩
    have : i = k := by omega
    subst this
    show f_X12_ruleOf_2b K L fu (f_X12_ruleOf_2 K L fu M (B + 44) g) M (B + 44) (nI p) (nI i) = _
    unfold f_X12_ruleOf_2b
    refine (sb o3 _).trans ?_
    rw [if_pos (nI_le (Nat.le_refl _) (by omega))]
    rfl
  | succ d ih =>
    intro g i hi hg
    obtain ⟨g, rfl⟩ : ∃ g', g = g' + 1 := ⟨g - 1, by omega⟩
    have ihk := ih g (i + 1) (by omega) (by omega)
    have e4 : (4 : Int32) + (4 : Int32) * nI i = nI (4 + 4 * i) := by rw [show (4 : Int32) = nI 4 from rfl, pk_mul, nI_add]
    have o4 : f_X12_of K L M (B + 44) (nI p) (nI (4 + 4 * i)) = some (S (3940 * p + 4 + 4 * i)) := by rw [m_of (c := nI (4 + 4 * i)) hM hp (4 + 4 * i) rfl (by omega), hS, ← Nat.add_assoc]
    have o5 : f_X12_of K L M (B + 44) (nI p) (nI (4 + 4 * i) + 1) = some (S (3940 * p + 5 + 4 * i)) := by rw [m_of (c := nI (4 + 4 * i) + 1) hM hp (5 + 4 * i) (by rw [nI_1]; congr 1; omega) (by omega), hS, ← Nat.add_assoc]
    have o6 : f_X12_of K L M (B + 44) (nI p) (nI (4 + 4 * i) + 2) = some (S (3940 * p + 6 + 4 * i)) := by rw [m_of (c := nI (4 + 4 * i) + 2) hM hp (6 + 4 * i) (by rw [show (2 : Int32) = nI 2 from rfl, nI_add]; congr 1; omega) (by omega), hS, ← Nat.add_assoc]
    have h55 : ∀ v : Int32, f_X12_ruleOf_55 K L fu (f_X12_ruleOf_2 K L fu M (B + 44) g) M (B + 44) (nI p) (nI i) (nI (4 + 4 * i)) v = some (if v < S (3940 * p + 5 + 4 * i) then rlv S (3940 * p) l a s d (i + 1) else if S (3940 * p + 6 + 4 * i) < v then rlv S (3940 * p) l a s d (i + 1) else nI (i + 1)) := by
      intro v
      unfold f_X12_ruleOf_55
      refine (sb o5 _).trans ?_
      rw [nI_1 i, ihk]
      by_cases q1 : v < S (3940 * p + 5 + 4 * i)
      · rw [if_pos q1, if_pos q1]
      · rw [if_neg q1, if_neg q1]
        refine (sb o6 _).trans ?_
        by_cases q2 : S (3940 * p + 6 + 4 * i) < v
        · rw [if_pos q2, if_pos q2]
        · rw [if_neg q2, if_neg q2]
    show f_X12_ruleOf_2b K L fu (f_X12_ruleOf_2 K L fu M (B + 44) g) M (B + 44) (nI p) (nI i) = (some (if mkv l a s (S (3940 * p + 4 + 4 * i)) < S (3940 * p + 5 + 4 * i) then rlv S (3940 * p) l a s d (i + 1) else if S (3940 * p + 6 + 4 * i) < mkv l a s (S (3940 * p + 4 + 4 * i)) then rlv S (3940 * p) l a s d (i + 1) else nI (i + 1)))
    unfold f_X12_ruleOf_2b
    refine (sb o3 _).trans ?_
    rw [if_neg (nI_ge (show i < k by omega) (by omega)), e4, bn_eq]
    refine (sb o4 _).trans ?_
    rw [show mm_I M (32 * 12 + 9) (B + 44) = l from h1, show mm_I M (32 * 12 + 10) (B + 44) = a from h2, show mm_I M (32 * 12 + 11) (B + 44) = s from h3, h55, h55, h55]
    unfold mkv
    by_cases q1 : S (3940 * p + 4 + 4 * i) = 0
    · rw [if_pos q1, if_pos q1]
    · rw [if_neg q1, if_neg q1]
      refine (sb o4 _).trans ?_
      by_cases q2 : S (3940 * p + 4 + 4 * i) = 1
      · rw [if_pos q2, if_pos q2]
      · rw [if_neg q2, if_neg q2]
theorem seat_c {t : Int32} (h : BS K L (mm_R M) (mm_C M) b) (r : rSh M b S o) : ∀ (d g i : Nat), 1 ≤ i → i + d = 8 → d < g → f_X7_wayOfSeat_2 K L fu M (b + 6) g t (nI i) = some (swv S o t d i) := by
  obtain ⟨a1, a2, a3, a4, a5, a6, a7⟩ := h.2.2.1
  intro d
  induction d with
  | zero =>
    intro g i h1 hi hg
    obtain ⟨g, rfl⟩ : ∃ g', g = g' + 1 := ⟨g - 1, by omega⟩
    have : i = 8 := by omega
    subst this
    show f_X7_wayOfSeat_2b K L fu (f_X7_wayOfSeat_2 K L fu M (b + 6) g) M (b + 6) t (nI 8) = _
    unfold f_X7_wayOfSeat_2b
    rw [if_pos (by decide)]
    rfl
  | succ d ih =>
    intro g i h1 hi hg
    obtain ⟨g, rfl⟩ : ∃ g', g = g' + 1 := ⟨g - 1, by omega⟩
    obtain ⟨e1, e2, -⟩ := r i h1 (by omega)
    have ihk := ih g (i + 1) (by omega) (by omega) (by omega)
    show f_X7_wayOfSeat_2b K L fu (f_X7_wayOfSeat_2 K L fu M (b + 6) g) M (b + 6) t (nI i) = some (if t < S (o + 28 + i) then swv S o t d (i + 1) else if S (o + 28 + i) + S (o + 36 + i) ≤ t then swv S o t d (i + 1) else nI i)
    unfold f_X7_wayOfSeat_2b
    rw [if_neg (show ¬ (8 : Int32) ≤ nI i by rw [t_le, nI_toInt (by omega), show (8 : Int32).toInt = 8 from rfl]; omega), show mm_R M (32 * 7 + 0) (b + 6) = _ from a2, show mm_R M (32 * 7 + 1) (b + 6) = _ from a3, rx_ok a4 a5 (show i < 8 by omega) (by decide), rx_ok a6 a7 (show i < 8 by omega) (by decide), nI_clamp (by omega), nI_1, ihk]
    refine (sb rfl _).trans ?_
    rw [e1]
    by_cases q1 : t < S (o + 28 + i)
    · rw [if_pos q1, if_pos q1]
    · rw [if_neg q1, if_neg q1]
      refine (sb rfl _).trans ?_
      rw [e2]
      by_cases q2 : S (o + 28 + i) + S (o + 36 + i) ≤ t
      · rw [if_pos q2, if_pos q2]
      · rw [if_neg q2, if_neg q2]
theorem seat_m {t : Int32} (hM : MS B K L (mm_R M)) (hp : p < 16) (hS : mm_A M (B + 45) = S) : ∀ (d g i : Nat), 1 ≤ i → i + d = 8 → d < g → f_X12_wayOfSeat_8 K L fu M (B + 44) g (nI p) t (nI i) = some (swv S (3940 * p) t d i) := by
  intro d
  induction d with
  | zero =>
    intro g i h1 hi hg
    obtain ⟨g, rfl⟩ : ∃ g', g = g' + 1 := ⟨g - 1, by omega⟩
    have : i = 8 := by omega
    subst this
    show f_X12_wayOfSeat_8b K L fu (f_X12_wayOfSeat_8 K L fu M (B + 44) g) M (B + 44) (nI p) t (nI 8) = _
    unfold f_X12_wayOfSeat_8b
    rw [if_pos (by decide)]
    rfl
  | succ d ih =>
    intro g i h1 hi hg
    obtain ⟨g, rfl⟩ : ∃ g', g = g' + 1 := ⟨g - 1, by omega⟩
    have ihk := ih g (i + 1) (by omega) (by omega) (by omega)
    have o28 : f_X12_of K L M (B + 44) (nI p) (28 + nI i) = some (S (3940 * p + 28 + i)) := by rw [m_of (c := 28 + nI i) hM hp (28 + i) (nI_add 28 i) (by omega), hS, ← Nat.add_assoc]
    have o36 : f_X12_of K L M (B + 44) (nI p) (36 + nI i) = some (S (3940 * p + 36 + i)) := by rw [m_of (c := 36 + nI i) hM hp (36 + i) (nI_add 36 i) (by omega), hS, ← Nat.add_assoc]
    show f_X12_wayOfSeat_8b K L fu (f_X12_wayOfSeat_8 K L fu M (B + 44) g) M (B + 44) (nI p) t (nI i) = some (if t < S (3940 * p + 28 + i) then swv S (3940 * p) t d (i + 1) else if S (3940 * p + 28 + i) + S (3940 * p + 36 + i) ≤ t then swv S (3940 * p) t d (i + 1) else nI i)
    unfold f_X12_wayOfSeat_8b
    rw [if_neg (show ¬ (8 : Int32) ≤ nI i by rw [t_le, nI_toInt (by omega), show (8 : Int32).toInt = 8 from rfl]; omega), nI_1, ihk]
    refine (sb o28 _).trans ?_
    by_cases q1 : t < S (3940 * p + 28 + i)
    · rw [if_pos q1, if_pos q1]
    · rw [if_neg q1, if_neg q1]
      refine (sb o28 _).trans ?_
      refine (sb o36 _).trans ?_
      by_cases q2 : S (3940 * p + 28 + i) + S (3940 * p + 36 + i) ≤ t
      · rw [if_pos q2, if_pos q2]
      · rw [if_neg q2, if_neg q2]
end OWN
