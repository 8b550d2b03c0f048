/-! moves: a change of way 1's size -/
section MV
variable {S S' : Nat → Int32} {p : Nat} {l a s nu : Int32} {rk : Nat → Nat}
theorem isw_cg (h : ∀ i, i ≠ 3940 * p + 37 → S' i = S i) (q : Nat) : isw S' q ↔ isw S q := by
  unfold isw
  rw [h (3940 * q) (by omega)]
theorem hgo_cg (h : ∀ i, i ≠ 3940 * p + 37 → S' i = S i) (q : Nat) : hgo S' q = hgo S q := by
  unfold hgo
  rw [h (3940 * q) (by omega), h (3940 * q + 44) (by omega)]
  by_cases c : (S (3940 * q) = 4 ∨ S (3940 * q) = 5) ∧ 0 ≤ S (3940 * q + 44) ∧ isw S (S (3940 * q + 44)).toNatClampNeg
  · rw [if_pos c, if_pos ⟨c.1, c.2.1, (isw_cg h _).mpr c.2.2⟩]
  · rw [if_neg c, if_neg (fun x => c ⟨x.1, x.2.1, (isw_cg h _).mp x.2.2⟩)]
theorem stp_cg (h : ∀ i, i ≠ 3940 * p + 37 → S' i = S i) (t q : Nat) : stp S' t q ↔ stp S t q := by
  unfold stp
  rw [h (3940 * t) (by omega), h (3940 * t + 47) (by omega), h (3940 * t + 46) (by omega)]
theorem rlv_cg (h : ∀ i, i ≠ 3940 * p + 37 → S' i = S i) {q : Nat} : ∀ (d i : Nat), i + d ≤ 6 → rlv S' (3940 * q) l a s d i = rlv S (3940 * q) l a s d i
  | 0, _, _ => rfl
  | d + 1, i, hd => by
    show (if mkv l a s (S' (3940 * q + 4 + 4 * i)) < S' (3940 * q + 5 + 4 * i) then rlv S' (3940 * q) l a s d (i + 1) else if S' (3940 * q + 6 + 4 * i) < mkv l a s (S' (3940 * q + 4 + 4 * i)) then rlv S' (3940 * q) l a s d (i + 1) else nI (i + 1)) = (if mkv l a s (S (3940 * q + 4 + 4 * i)) < S (3940 * q + 5 + 4 * i) then rlv S (3940 * q) l a s d (i + 1) else if S (3940 * q + 6 + 4 * i) < mkv l a s (S (3940 * q + 4 + 4 * i)) then rlv S (3940 * q) l a s d (i + 1) else nI (i + 1))
    rw [rlv_cg h d (i + 1) (by omega), h (3940 * q + 4 + 4 * i) (by omega), h (3940 * q + 5 + 4 * i) (by omega), h (3940 * q + 6 + 4 * i) (by omega)]
theorem swv_cg {o : Nat} {t : Int32} : ∀ (d i : Nat), (∀ j, i ≤ j → j < i + d → S' (o + 28 + j) = S (o + 28 + j) ∧ S' (o + 36 + j) = S (o + 36 + j)) → swv S' o t d i = swv S o t d i
  | 0, _, _ => rfl
  | d + 1, i, h => by
    show (if t < S' (o + 28 + i) then swv S' o t d (i + 1) else if S' (o + 28 + i) + S' (o + 36 + i) ≤ t then swv S' o t d (i + 1) else nI i) = (if t < S (o + 28 + i) then swv S o t d (i + 1) else if S (o + 28 + i) + S (o + 36 + i) ≤ t then swv S o t d (i + 1) else nI i)
    rw [swv_cg d (i + 1) (fun j h1 h2 => h j (by omega) (by omega)), (h i (by omega) (by omega)).1, (h i (by omega) (by omega)).2]
theorem swv_ge {o : Nat} {t : Int32} : ∀ (d i : Nat), swv S o t d i = 0 ∨ ∃ j : Nat, i ≤ j ∧ j < i + d ∧ swv S o t d i = nI j
  | 0, _ => Or.inl rfl
  | d + 1, i => by
    have h := swv_ge (o := o) (t := t) d (i + 1)
    have h' : swv S o t d (i + 1) = 0 ∨ ∃ j : Nat, i ≤ j ∧ j < i + (d + 1) ∧ swv S o t d (i + 1) = nI j := by
      rcases h with h | ⟨j, h1, h2, h3⟩
      · exact Or.inl h
      · exact Or.inr ⟨j, by omega, by omega, h3⟩
    show (if t < S (o + 28 + i) then swv S o t d (i + 1) else if S (o + 28 + i) + S (o + 36 + i) ≤ t then swv S o t d (i + 1) else nI i) = 0 ∨ ∃ j : Nat, i ≤ j ∧ j < i + (d + 1) ∧ (if t < S (o + 28 + i) then swv S o t d (i + 1) else if S (o + 28 + i) + S (o + 36 + i) ≤ t then swv S o t d (i + 1) else nI i) = nI j
    by_cases q1 : t < S (o + 28 + i)
    · rw [if_pos q1]; exact h'
    · rw [if_neg q1]
      by_cases q2 : S (o + 28 + i) + S (o + 36 + i) ≤ t
      · rw [if_pos q2]; exact h'
      · rw [if_neg q2]; exact Or.inr ⟨i, by omega, by omega, rfl⟩
theorem wbv_cg (h : ∀ i, i ≠ 3940 * p + 37 → S' i = S i) {q : Nat} (hne : q ≠ p) (y : Int32) : wbv S' nu q y = wbv S nu q y := by
  unfold wbv
  rw [h (3940 * q + 1) (by omega), h (3940 * q + 2) (by omega), h (3940 * q + 7 + 4 * (y.toNatClampNeg - 1)) (by omega), swv_cg 7 1 (fun j h1 h2 => ⟨h _ (by omega), h _ (by omega)⟩)]
theorem WF_cg (h : ∀ i, i ≠ 3940 * p + 37 → S' i = S i) (w : WF S) : WF S' := by
  intro q hq
  obtain ⟨hh, h6, h0, ho⟩ := w q hq
  refine ⟨hh, h6, by rw [h _ (by omega)]; exact h0, fun h1 h2 => ?_⟩
  obtain ⟨ok, k, k1, k2⟩ := ho h1 h2
  exact ⟨rOk_upd (fun j hj => h _ (by omega)) ok, k, k1, by rw [h _ (by omega)]; exact k2⟩
theorem fst_cg' (h : ∀ i, i ≠ 3940 * p + 37 → S' i = S i) {W : Nat → Int32} {q : Nat} : ∀ (d t : Nat), fst' S' W q d t = fst' S W q d t
  | 0, _ => rfl
  | d + 1, t => by
    show (if stp S' t q ∧ (hgo S' t = none ∨ W ((hgo S' t).getD 0) = S' (3940 * t + 45)) then nI t else fst' S' W q d (t + 1)) = (if stp S t q ∧ (hgo S t = none ∨ W ((hgo S t).getD 0) = S (3940 * t + 45)) then nI t else fst' S W q d (t + 1))
    rw [fst_cg' h d (t + 1), hgo_cg h, h (3940 * t + 45) (by omega)]
    by_cases c : stp S t q ∧ (hgo S t = none ∨ W ((hgo S t).getD 0) = S (3940 * t + 45))
    · rw [if_pos c, if_pos ⟨(stp_cg h t q).mpr c.1, c.2⟩]
    · rw [if_neg c, if_neg (fun x => c ⟨(stp_cg h t q).mp x.1, x.2⟩)]
theorem wyv_cg' (h : ∀ i, i ≠ 3940 * p + 37 → S' i = S i) (w : WF S) {W : Nat → Int32} {q : Nat} (hq : q < 16) (hi : isw S q) : wyv S' l a s W q = wyv S l a s W q := by
  obtain ⟨hh, h6, h0, ho⟩ := w q hq
  have := (isw_h h6 h0).mp hi
  obtain ⟨-, k, k1, k2⟩ := ho this.1 this.2
  unfold wyv
  rw [fst_cg' h, hgo_cg h, h (3940 * q + 45) (by omega), h (3940 * q + 3) (by omega), k2, nI_clamp (by omega), rlv_cg h k 0 (by omega)]
theorem Wf_low (h : ∀ i, i ≠ 3940 * p + 37 → S' i = S i) (w : WF S) (hr : ∀ p q, p < 16 → q < 16 → ((hgo S p = some q) ∨ ∃ t, t < 16 ∧ stp S t p ∧ hgo S t = some q) → rk q < rk p) : ∀ f q, q < 16 → rk q < rk p → Wf S' l a s nu f q = Wf S l a s nu f q
  | 0, _, _, _ => rfl
  | f + 1, q, hq, hlt => by
    have ih := Wf_low h w hr f
    show (if isw S' q then wbv S' nu q (wyv S' l a s (Wf S' l a s nu f) q) else 0) = (if isw S q then wbv S nu q (wyv S l a s (Wf S l a s nu f) q) else 0)
    by_cases hi : isw S q
    · rw [if_pos hi, if_pos ((isw_cg h q).mpr hi), wyv_cg' h w hq hi, wyv_cg (W := Wf S l a s nu f)]
      · have hne : q ≠ p := fun e => by subst e; omega
        exact wbv_cg h hne _
      · intro t x ht h1 h2
        obtain ⟨x1, -, -, -⟩ := hgo_16 w ht h2
        have := hr q x hq x1 (Or.inr ⟨t, ht, h1, h2⟩)
        exact ih x x1 (by omega)
      · intro x h2
        obtain ⟨x1, -, -, -⟩ := hgo_16 w hq h2
        have := hr q x hq x1 (Or.inl h2)
        exact ih x x1 (by omega)
    · rw [if_neg hi, if_neg (fun x => hi ((isw_cg h q).mp x))]
abbrev inn (f z t : Int32) : Prop := ¬ t < f ∧ ¬ f + z ≤ t
/-- a way moves just where a seat comes or goes, and nothing else speaks -/
theorem moves_iff (h : ∀ i, i ≠ 3940 * p + 37 → S' i = S i) (w : WF S) (h16 : ∀ p, rk p < 16) (hr : ∀ p q, p < 16 → q < 16 → ((hgo S p = some q) ∨ ∃ t, t < 16 ∧ stp S t p ∧ hgo S t = some q) → rk q < rk p) (hp : p < 16) (hi : isw S p) : (Ww S' l a s nu p = Ww S l a s nu p) ↔ ¬ (wyv S l a s (Ww S l a s nu) p = 0 ∧ ¬ (inn (S (3940 * p + 29)) (S (3940 * p + 37)) (seatV (S (3940 * p + 1)) nu (S (3940 * p + 2))) ↔ inn (S (3940 * p + 29)) (S' (3940 * p + 37)) (seatV (S (3940 * p + 1)) nu (S (3940 * p + 2))))) := by
  have w' := WF_cg h w
  have hr' : ∀ p q, p < 16 → q < 16 → ((hgo S' p = some q) ∨ ∃ t, t < 16 ∧ stp S' t p ∧ hgo S' t = some q) → rk q < rk p := by
    intro p1 q1 h1 h2 x
    refine hr p1 q1 h1 h2 ?_
    rcases x with x | ⟨t, ht, x1, x2⟩
    · rw [hgo_cg h] at x; exact Or.inl x
    · rw [hgo_cg h] at x2; exact Or.inr ⟨t, ht, (stp_cg h t p1).mp x1, x2⟩
  have e1 := Ww_eq (l := l) (a := a) (s := s) (nu := nu) w h16 hr hp hi
  have e2 := Ww_eq (l := l) (a := a) (s := s) (nu := nu) w' h16 hr' hp ((isw_cg h p).mpr hi)
  have ey : wyv S' l a s (Ww S' l a s nu) p = wyv S l a s (Ww S l a s nu) p := by
    rw [wyv_cg' h w hp hi]
    refine wyv_cg (fun t q ht h1 h2 => ?_) (fun q h2 => ?_)
    · obtain ⟨x1, -, -, -⟩ := hgo_16 w ht h2
      exact Wf_low h w hr 16 q x1 (hr p q hp x1 (Or.inr ⟨t, ht, h1, h2⟩))
    · obtain ⟨x1, -, -, -⟩ := hgo_16 w hp h2
      exact Wf_low h w hr 16 q x1 (hr p q hp x1 (Or.inl h2))
  rw [ey] at e2
  rw [← e1, ← e2]
  rcases wyv_7 (l := l) (a := a) (s := s) (W := Ww S l a s nu) w hp hi with y | ⟨j, j1, y⟩ | y | ⟨k, j, k1, k2, j1, y⟩
  · rw [y]
    refine ⟨fun _ x => absurd x.1 (by decide), fun _ => ?_⟩
    unfold wbv
    rw [if_neg (by decide), if_neg (by decide)]
  · rw [y]
    refine ⟨fun _ x => absurd x.1 (nI_ne0 (by omega) (by omega)), fun _ => ?_⟩
    unfold wbv
    rw [if_neg (show ¬ nI (8 + j) < 7 by rw [t_lt, nI_toInt (by omega), show (7 : Int32).toInt = 7 from rfl]; omega), if_neg (show ¬ nI (8 + j) < 7 by rw [t_lt, nI_toInt (by omega), show (7 : Int32).toInt = 7 from rfl]; omega)]
  · rw [y]
    unfold wbv
    rw [if_pos (by decide), if_pos rfl, if_pos (by decide), if_pos rfl, h (3940 * p + 1) (by omega), h (3940 * p + 2) (by omega)]
    generalize seatV (S (3940 * p + 1)) nu (S (3940 * p + 2)) = t
    have r1 : swv S' (3940 * p) t 6 2 = swv S (3940 * p) t 6 2 := swv_cg 6 2 (fun j h1 h2 => ⟨h _ (by omega), h _ (by omega)⟩)
    have rn : ¬ swv S (3940 * p) t 6 2 = 1 := by
      rcases swv_ge (S := S) (o := 3940 * p) (t := t) 6 2 with x | ⟨j, j1, j2, x⟩
      · rw [x]; decide
      · rw [x]
        intro e
        have := (nI_eq (b := 1) (by omega) (by omega)).mp e
        omega
    have s1 : swv S (3940 * p) t 7 1 = if inn (S (3940 * p + 29)) (S (3940 * p + 37)) t then 1 else swv S (3940 * p) t 6 2 := by
      show (if t < S (3940 * p + 28 + 1) then swv S (3940 * p) t 6 2 else if S (3940 * p + 28 + 1) + S (3940 * p + 36 + 1) ≤ t then swv S (3940 * p) t 6 2 else 1) = _
      by_cases q1 : t < S (3940 * p + 28 + 1)
      · rw [if_pos q1, if_neg (fun x => x.1 q1)]
      · rw [if_neg q1]
        by_cases q2 : S (3940 * p + 28 + 1) + S (3940 * p + 36 + 1) ≤ t
        · rw [if_pos q2, if_neg (fun x => x.2 q2)]
        · rw [if_neg q2, if_pos (show inn (S (3940 * p + 29)) (S (3940 * p + 37)) t from ⟨q1, q2⟩)]
    have s2 : swv S' (3940 * p) t 7 1 = if inn (S (3940 * p + 29)) (S' (3940 * p + 37)) t then 1 else swv S (3940 * p) t 6 2 := by
      show (if t < S' (3940 * p + 28 + 1) then swv S' (3940 * p) t 6 2 else if S' (3940 * p + 28 + 1) + S' (3940 * p + 36 + 1) ≤ t then swv S' (3940 * p) t 6 2 else 1) = _
      rw [r1, h (3940 * p + 28 + 1) (by omega)]
      by_cases q1 : t < S (3940 * p + 28 + 1)
      · rw [if_pos q1, if_neg (fun x => x.1 q1)]
      · rw [if_neg q1]
        by_cases q2 : S (3940 * p + 28 + 1) + S' (3940 * p + 36 + 1) ≤ t
        · rw [if_pos q2, if_neg (fun x => x.2 q2)]
        · rw [if_neg q2, if_pos (show inn (S (3940 * p + 29)) (S' (3940 * p + 37)) t from ⟨q1, q2⟩)]
    rw [s1, s2]
    by_cases q1 : inn (S (3940 * p + 29)) (S (3940 * p + 37)) t <;> by_cases q2 : inn (S (3940 * p + 29)) (S' (3940 * p + 37)) t
    · rw [if_pos q1, if_pos q2]
      exact ⟨fun _ x => x.2 ⟨fun _ => q2, fun _ => q1⟩, fun _ => rfl⟩
    · rw [if_pos q1, if_neg q2]
      exact ⟨fun x => absurd x rn, fun x => absurd ⟨rfl, fun z => q2 (z.mp q1)⟩ x⟩
    · rw [if_neg q1, if_pos q2]
      exact ⟨fun x => absurd x.symm rn, fun x => absurd ⟨rfl, fun z => q1 (z.mpr q2)⟩ x⟩
    · rw [if_neg q1, if_neg q2]
      exact ⟨fun _ x => x.2 ⟨fun z => absurd z q1, fun z => absurd z q2⟩, fun _ => rfl⟩
  · rw [y]
    refine ⟨fun _ x => absurd x.1 (nI_ne0 (by omega) (by omega)), fun _ => ?_⟩
    unfold wbv
    rw [if_pos (show nI (j + 1) < 7 by rw [t_lt, nI_toInt (by omega), show (7 : Int32).toInt = 7 from rfl]; omega), if_neg (nI_ne0 (by omega) (by omega)), if_pos (show nI (j + 1) < 7 by rw [t_lt, nI_toInt (by omega), show (7 : Int32).toInt = 7 from rfl]; omega), if_neg (nI_ne0 (by omega) (by omega)), nI_clamp (by omega), h _ (by omega)]
end MV
