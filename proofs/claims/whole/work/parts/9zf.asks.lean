/-! rings: who asks whom, in the reference -/
section AK
variable {B : Nat} {K L : Nat → Nat} {M : Mm} {fu p q : Nat} {S : Nat → Int32}
/-- t stops p, and hangs on q -/
def vias (S : Nat → Int32) (t p q : Nat) : Prop := S (3940 * t) = 5 ∧ ((S (3940 * t + 46)).toInt.toNat / 2 ^ p) % 2 = 1 ∧ S (3940 * t + 44) = nI q
theorem asks_loop (hM : MS B K L (mm_R M)) (hS : mm_A M (B + 45) = S) (w : WF S) (hp : p < 16) : ∀ (d g t : Nat) (v : Int32), (v = 0 ∨ v = 1) → t + d = 16 → d < g → ∃ r, f_X12_asks_28 K L fu M (B + 44) g (nI p) (nI q) v (nI t) = some r ∧ (r = 0 ∨ r = 1) ∧ (r = 1 ↔ v = 1 ∨ ∃ t', t ≤ t' ∧ t' < 16 ∧ vias S t' p q) := by
  intro d
  induction d with
  | zero =>
    intro g t v hv ht hg
    obtain ⟨g, rfl⟩ : ∃ g', g = g' + 1 := ⟨g - 1, by omega⟩
    have : t = 16 := by omega
    subst this
    refine ⟨v, ?_, hv, ⟨fun h => Or.inl h, fun h => h.elim id (fun ⟨t', h1, h2, _⟩ => by omega)⟩⟩
    show f_X12_asks_28b K L fu (f_X12_asks_28 K L fu M (B + 44) g) M (B + 44) (nI p) (nI q) v (nI 16) = _
    unfold f_X12_asks_28b
    rw [if_pos (by decide)]
    exact (ub (zb_ok hv) _).trans rfl
  | succ d ih =>
    intro g t v hv ht hg
    obtain ⟨g, rfl⟩ : ∃ g', g = g' + 1 := ⟨g - 1, by omega⟩
    obtain ⟨r0, a1, a2, a3⟩ := ih g (t + 1) 0 (Or.inl rfl) (by omega) (by omega)
    obtain ⟨r1, b1, b2, b3⟩ := ih g (t + 1) 1 (Or.inr rfl) (by omega) (by omega)
    have z01 : ¬ (0 : Int32) = 1 := by decide
    have yes : (v = 1 ∨ vias S t p q) → ∃ r, some r1 = some r ∧ (r = 0 ∨ r = 1) ∧ (r = 1 ↔ v = 1 ∨ ∃ t', t ≤ t' ∧ t' < 16 ∧ vias S t' p q) := by
      intro h
      refine ⟨r1, rfl, b2, ⟨fun _ => h.elim Or.inl (fun x => Or.inr ⟨t, by omega, by omega, x⟩), fun _ => b3.mpr (Or.inl rfl)⟩⟩
    have no : ¬ v = 1 → ¬ vias S t p q → ∃ r, some r0 = some r ∧ (r = 0 ∨ r = 1) ∧ (r = 1 ↔ v = 1 ∨ ∃ t', t ≤ t' ∧ t' < 16 ∧ vias S t' p q) := by
      intro h1 h2
      refine ⟨r0, rfl, a2, ?_⟩
      rw [a3]
      constructor
      · rintro (x | ⟨t', x1, x2, x3⟩)
        · exact absurd x z01
        · exact Or.inr ⟨t', by omega, x2, x3⟩
      · rintro (x | ⟨t', x1, x2, x3⟩)
        · exact absurd x h1
        · by_cases e : t' = t
          · subst e; exact absurd x3 h2
          · exact Or.inr ⟨t', by omega, x2, x3⟩
    obtain ⟨hh, h6, h0, ho⟩ := w t (by omega)
    have E : f_X12_asks_28 K L fu M (B + 44) (g + 1) (nI p) (nI q) v (nI t) = if v = 0 then Option.bind (f_X12_of K L M (B + 44) (nI t) (0 : Int32)) (fun x3 => if x3 = (5 : Int32) then Option.bind (f_X12_of K L M (B + 44) (nI t) (46 : Int32)) (fun x5 => if ((x5 >>> (nI p &&& 31)) &&& (1 : Int32)) = (1 : Int32) then Option.bind (f_X12_of K L M (B + 44) (nI t) (44 : Int32)) (fun x7 => if x7 = nI q then some r1 else some r0) else some r0) else some r0) else some r1 := by
      show f_X12_asks_28b K L fu (f_X12_asks_28 K L fu M (B + 44) g) M (B + 44) (nI p) (nI q) v (nI t) = _
      unfold f_X12_asks_28b f_X12_asks_78 f_X12_asks_82
      rw [if_neg (show ¬ (16 : Int32) ≤ nI t by rw [t_le, nI_toInt (by omega), show (16 : Int32).toInt = 16 from rfl]; omega), nI_1, a1, b1]
    rw [E]
    rcases hv with hv | hv
    · have hv1 : ¬ v = 1 := by rw [hv]; decide
      rw [if_pos hv, sb (show f_X12_of K L M (B + 44) (nI t) 0 = some (S (3940 * t)) by rw [m_of0 hM (by omega), hS])]
      by_cases q1 : S (3940 * t) = 5
      · rw [if_pos q1]
        have h5 : hh = 5 := (nI_eq (b := 5) (by omega) (by omega)).mp (h0.symm.trans q1)
        obtain ⟨ok, -⟩ := ho (by omega) (by omega)
        obtain ⟨u, u1, u2⟩ := ok.2.2.2.1
        have eu : (S (3940 * t + 46)).toInt.toNat = u := by rw [u2, nI_toInt (by omega)]; omega
        rw [sb (show f_X12_of K L M (B + 44) (nI t) 46 = some (nI u) by rw [m_of (c := 46) hM (by omega) 46 rfl (by decide), hS, u2])]
        by_cases q2 : u / 2 ^ p % 2 = 1
        · rw [if_pos ((hb_m u1 hp).mpr q2), sb (show f_X12_of K L M (B + 44) (nI t) 44 = some (S (3940 * t + 44)) by rw [m_of (c := 44) hM (by omega) 44 rfl (by decide), hS])]
          by_cases q3 : S (3940 * t + 44) = nI q
          · rw [if_pos q3]
            exact yes (Or.inr ⟨q1, by rw [eu]; exact q2, q3⟩)
          · rw [if_neg q3]
            exact no hv1 (fun x => q3 x.2.2)
        · rw [if_neg (fun x => q2 ((hb_m u1 hp).mp x))]
          exact no hv1 (fun x => q2 (by have := x.2.1; rw [eu] at this; exact this))
      · rw [if_neg q1]
        exact no hv1 (fun x => q1 x.1)
    · rw [if_neg (by rw [hv]; decide)]
      exact yes (Or.inl hv)
theorem asks_m (hM : MS B K L (mm_R M)) (hS : mm_A M (B + 45) = S) (w : WF S) (hp : p < 16) (hfu : 1000 ≤ fu) : ∃ r, f_X12_asks K L fu M (B + 44) (nI p) (nI q) = some r ∧ (r = 0 ∨ r = 1) ∧ (r = 1 ↔ asksS S p q) := by
  obtain ⟨hh, h6, h0, ho⟩ := w p hp
  have o0 : f_X12_of K L M (B + 44) (nI p) 0 = some (nI hh) := by rw [m_of0 hM hp, hS, h0]
  have hha : f_X12_hangs K L M (B + 44) (nI p) = some (if hh = 4 ∨ hh = 5 then 1 else 0) := by
    unfold f_X12_hangs
    rw [o0]
    simp only [Option.bind_some]
    rcases six h6 with rfl | rfl | rfl | rfl | rfl | rfl | rfl <;> decide
  have c4 : S (3940 * p) = 4 ↔ hh = 4 := by rw [h0]; exact nI_eq (b := 4) (by omega) (by omega)
  have c5 : S (3940 * p) = 5 ↔ hh = 5 := by rw [h0]; exact nI_eq (b := 5) (by omega) (by omega)
  obtain ⟨r0, a1, a2, a3⟩ := asks_loop (fu := fu) (q := q) hM hS w hp 16 fu 0 0 (Or.inl rfl) (by omega) (by omega)
  obtain ⟨r1, b1, b2, b3⟩ := asks_loop (fu := fu) (q := q) hM hS w hp 16 fu 0 1 (Or.inr rfl) (by omega) (by omega)
  have E : f_X12_asks K L fu M (B + 44) (nI p) (nI q) = if hh = 4 ∨ hh = 5 then (if S (3940 * p + 44) = nI q then some r1 else some r0) else some r0 := by
    unfold f_X12_asks f_X12_asks_23 f_X12_asks_24
    refine (sb hha _).trans ?_
    rw [if10, show f_X12_asks_28 K L fu M (B + 44) fu (nI p) (nI q) 0 0 = _ from a1, show f_X12_asks_28 K L fu M (B + 44) fu (nI p) (nI q) 1 0 = _ from b1]
    by_cases x : hh = 4 ∨ hh = 5
    · rw [if_pos x, if_pos x]
      exact sb (show f_X12_of K L M (B + 44) (nI p) 44 = some (S (3940 * p + 44)) by rw [m_of (c := 44) hM hp 44 rfl (by decide), hS]) _
    · rw [if_neg x, if_neg x]
  rw [E]
  unfold asksS
  by_cases x : (hh = 4 ∨ hh = 5) ∧ S (3940 * p + 44) = nI q
  · rw [if_pos x.1, if_pos x.2]
    exact ⟨r1, rfl, b2, ⟨fun _ => Or.inl ⟨by rw [c4, c5]; exact x.1, x.2⟩, fun _ => b3.mpr (Or.inl rfl)⟩⟩
  · have e : (if hh = 4 ∨ hh = 5 then (if S (3940 * p + 44) = nI q then some r1 else some r0) else some r0) = some r0 := by
      by_cases y : hh = 4 ∨ hh = 5
      · rw [if_pos y, if_neg (fun z => x ⟨y, z⟩)]
      · rw [if_neg y]
    rw [e]
    refine ⟨r0, rfl, a2, ?_⟩
    rw [a3]
    constructor
    · rintro (y | ⟨t, -, y2, y3⟩)
      · exact absurd y (by decide)
      · exact Or.inr ⟨t, y2, y3.1, y3.2.1, y3.2.2⟩
    · rintro (y | ⟨t, y1, y2, y3, y4⟩)
      · exact absurd ⟨by rw [← c4, ← c5]; exact y.1, y.2⟩ x
      · exact Or.inr ⟨t, by omega, y1, y2, y3, y4⟩
end AK
