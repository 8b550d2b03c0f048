/-! rings: ways from place to place -/
def Pth (A : Nat → Nat → Prop) (g : Nat) : Nat → Nat → Prop
  | 0, p => p = g
  | n + 1, p => ∃ q, q < 16 ∧ A p q ∧ Pth A g n q
def Wk (A : Nat → Nat → Prop) : Nat → Nat → Prop
  | 0, _ => True
  | n + 1, p => ∃ q, q < 16 ∧ A p q ∧ Wk A n q
/-- more than so many cannot all differ -/
theorem pigeon : ∀ (n : Nat) (f : Nat → Nat), (∀ i, i ≤ n → f i < n) → ∃ i j, i < j ∧ j ≤ n ∧ f i = f j
  | 0, f, h => by have := h 0 (by omega); omega
  | n + 1, f, h => by
    by_cases c : ∃ i, i ≤ n ∧ f i = f (n + 1)
    · obtain ⟨i, h1, h2⟩ := c
      exact ⟨i, n + 1, by omega, by omega, h2⟩
    · -- send the value n to that of the last one
      obtain ⟨i, j, h1, h2, h3⟩ := pigeon n (fun i => if f i = n then f (n + 1) else f i) (fun i hi => by
        have a := h i (by omega)
        have b := h (n + 1) (by omega)
        have d : ¬ f i = f (n + 1) := fun e => c ⟨i, hi, e⟩
        by_cases e : f i = n
        · rw [if_pos e]; omega
        · rw [if_neg e]; omega)
      refine ⟨i, j, h1, by omega, ?_⟩
      have di : ¬ f i = f (n + 1) := fun e => c ⟨i, by omega, e⟩
      have dj : ¬ f j = f (n + 1) := fun e => c ⟨j, by omega, e⟩
      by_cases e1 : f i = n
      · by_cases e2 : f j = n
        · omega
        · rw [if_pos e1, if_neg e2] at h3
          exact absurd h3.symm dj
      · by_cases e2 : f j = n
        · rw [if_neg e1, if_pos e2] at h3
          exact absurd h3 di
        · rw [if_neg e1, if_neg e2] at h3
          exact h3
theorem Wk_seq {A : Nat → Nat → Prop} : ∀ (n p : Nat), p < 16 → Wk A n p → ∃ f : Nat → Nat, f 0 = p ∧ (∀ i, i ≤ n → f i < 16) ∧ ∀ i, i < n → A (f i) (f (i + 1))
  | 0, p, hp, _ => ⟨fun _ => p, rfl, fun _ _ => hp, fun i hi => by omega⟩
  | n + 1, p, hp, h => by
    obtain ⟨q, hq, h1, h2⟩ := h
    obtain ⟨f, f0, f1, f2⟩ := Wk_seq n q hq h2
    refine ⟨fun i => if i = 0 then p else f (i - 1), rfl, fun i hi => ?_, fun i hi => ?_⟩
    · dsimp only
      by_cases e : i = 0
      · rw [if_pos e]; exact hp
      · rw [if_neg e]; exact f1 _ (by omega)
    · dsimp only
      rw [if_neg (show ¬ i + 1 = 0 by omega), show i + 1 - 1 = i by omega]
      by_cases e : i = 0
      · rw [if_pos e, e, f0]; exact h1
      · rw [if_neg e]
        have := f2 (i - 1) (by omega)
        rw [show i - 1 + 1 = i by omega] at this
        exact this
theorem Pth_seq {A : Nat → Nat → Prop} {f : Nat → Nat} : ∀ (d i : Nat), (∀ j, j ≤ i + d → f j < 16) → (∀ j, i ≤ j → j < i + d → A (f j) (f (j + 1))) → Pth A (f (i + d)) d (f i)
  | 0, _, _, _ => rfl
  | d + 1, i, h1, h2 => by
    refine ⟨f (i + 1), h1 _ (by omega), h2 i (by omega) (by omega), ?_⟩
    have := Pth_seq (A := A) (f := f) d (i + 1) (fun j hj => h1 j (by omega)) (fun j h3 h4 => h2 j (by omega) (by omega))
    rw [show i + 1 + d = i + (d + 1) by omega] at this
    exact this
theorem Wk_top {A : Nat → Nat → Prop} {p : Nat} : ∀ n : Nat, ∃ m, m ≤ n ∧ Wk A m p ∧ ∀ k, k ≤ n → Wk A k p → k ≤ m
  | 0 => ⟨0, by omega, trivial, fun k hk _ => hk⟩
  | n + 1 => by
    obtain ⟨m, h1, h2, h3⟩ := Wk_top (A := A) (p := p) n
    by_cases c : Wk A (n + 1) p
    · exact ⟨n + 1, by omega, c, fun k hk _ => hk⟩
    · refine ⟨m, by omega, h2, fun k hk hw => ?_⟩
      by_cases e : k = n + 1
      · subst e; exact absurd hw c
      · exact h3 k (by omega) hw
/-- where nobody comes to itself, the places have ranks -/
theorem rank_of {A : Nat → Nat → Prop} (hno : ∀ g n, g < 16 → 1 ≤ n → n ≤ 16 → ¬ Pth A g n g) : ∃ rk : Nat → Nat, (∀ p, rk p < 16) ∧ ∀ p q, p < 16 → q < 16 → A p q → rk q < rk p := by
  have h16 : ∀ p, p < 16 → ¬ Wk A 16 p := by
    intro p hp h
    obtain ⟨f, f0, f1, f2⟩ := Wk_seq 16 p hp h
    obtain ⟨i, j, h1, h2, h3⟩ := pigeon 16 f f1
    refine hno (f i) (j - i) (f1 i (by omega)) (by omega) (by omega) ?_
    have := Pth_seq (A := A) (f := f) (j - i) i (fun k hk => f1 k (by omega)) (fun k h4 h5 => f2 k (by omega))
    rw [show i + (j - i) = j by omega, ← h3] at this
    exact this
  refine ⟨fun p => Classical.choose (Wk_top (A := A) (p := p) 15), fun p => ?_, fun p q hp hq ha => ?_⟩
  · have := (Classical.choose_spec (Wk_top (A := A) (p := p) 15)).1
    dsimp only
    omega
  · obtain ⟨a1, a2, a3⟩ := Classical.choose_spec (Wk_top (A := A) (p := q) 15)
    obtain ⟨b1, b2, b3⟩ := Classical.choose_spec (Wk_top (A := A) (p := p) 15)
    dsimp only
    generalize Classical.choose (Wk_top (A := A) (p := q) 15) = m at *
    generalize Classical.choose (Wk_top (A := A) (p := p) 15) = k at *
    have hw : Wk A (m + 1) p := ⟨q, hq, ha, a2⟩
    by_cases e : m = 15
    · subst e
      exact absurd hw (h16 p hp)
    · have := b3 (m + 1) (by omega) hw
      omega
