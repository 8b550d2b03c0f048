/-! the reference finds the ways -/
def WF (S : Nat → Int32) : Prop := ∀ p, p < 16 → ∃ hh : Nat, hh ≤ 6 ∧ S (3940 * p) = nI hh ∧ (1 ≤ hh → hh ≤ 5 → rOk S (3940 * p) ∧ ∃ k : Nat, k ≤ 6 ∧ S (3940 * p + 3) = nI k)
theorem WF_iv {B n : Nat} {K L : Nat → Nat} {M : Mm} (iv : Iv B n K L M) : WF (mm_A M (B + 45)) := by
  intro p hp
  obtain ⟨hh, i1, i2, -, -, i5⟩ := iv.2.1 p hp
  refine ⟨hh, i1, i2, fun h1 h2 => ?_⟩
  obtain ⟨-, j2, b, -, -, j5⟩ := i5 h1 h2
  obtain ⟨k, k1, k2, -⟩ := j5.2.1
  exact ⟨j2, k, k1, k2⟩
section WR
variable {S : Nat → Int32} {p t : Nat}
theorem isw_h {hh : Nat} (h6 : hh ≤ 6) (hS : S (3940 * p) = nI hh) : isw S p ↔ 1 ≤ hh ∧ hh ≤ 5 := by
  have z0 : S (3940 * p) = 0 ↔ hh = 0 := by rw [hS]; exact nI_eq (b := 0) (by omega) (by omega)
  have z6 : S (3940 * p) = 6 ↔ hh = 6 := by rw [hS]; exact nI_eq (b := 6) (by omega) (by omega)
  unfold isw
  rw [z0, z6]
  omega
/-- on which place it hangs -/
theorem hgo_h (w : WF S) (hp : p < 16) : (hgo S p = none) ∨ ∃ q hh, q < 16 ∧ hgo S p = some q ∧ S (3940 * p + 44) = nI q ∧ isw S q ∧ (hh = 4 ∨ hh = 5) ∧ S (3940 * p) = nI hh := by
  by_cases c : (S (3940 * p) = 4 ∨ S (3940 * p) = 5) ∧ 0 ≤ S (3940 * p + 44) ∧ isw S (S (3940 * p + 44)).toNatClampNeg
  · right
    obtain ⟨hh, h6, hS, ho⟩ := w p hp
    have h45 : hh = 4 ∨ hh = 5 := by
      rcases c.1 with x | x
      · exact Or.inl ((nI_eq (b := 4) (by omega) (by omega)).mp (hS.symm.trans x))
      · exact Or.inr ((nI_eq (b := 5) (by omega) (by omega)).mp (hS.symm.trans x))
    obtain ⟨ok, -⟩ := ho (by omega) (by omega)
    rcases ok.2.2.1 with x | ⟨v, v1, v2⟩
    · rw [x] at c
      exact absurd c.2.1 (by decide)
    · have e : (S (3940 * p + 44)).toNatClampNeg = v := by rw [v2, nI_clamp (by omega)]
      refine ⟨v, hh, v1, ?_, v2, ?_, h45, hS⟩
      · unfold hgo
        rw [if_pos c, e]
      · have := c.2.2
        rw [e] at this
        exact this
  · left
    unfold hgo
    rw [if_neg c]
theorem hgo_16 (w : WF S) {q : Nat} (hp : p < 16) (h : hgo S p = some q) : q < 16 ∧ S (3940 * p + 44) = nI q ∧ isw S q ∧ (S (3940 * p) = 4 ∨ S (3940 * p) = 5) := by
  rcases hgo_h w hp with x | ⟨q', hh, h1, h2, h3, h4, h5, h6⟩
  · rw [x] at h; cases h
  · rw [h2] at h
    cases h
    refine ⟨h1, h3, h4, ?_⟩
    rcases h5 with x | x
    · exact Or.inl (by rw [h6, x]; rfl)
    · exact Or.inr (by rw [h6, x]; rfl)
theorem rk_w (w : WF S) (r : noRing S) : ∃ rk : Nat → Nat, (∀ p, rk p < 16) ∧ ∀ p q, p < 16 → q < 16 → ((hgo S p = some q) ∨ ∃ t, t < 16 ∧ stp S t p ∧ hgo S t = some q) → rk q < rk p := by
  obtain ⟨rk, h16, hr⟩ := r
  refine ⟨rk, h16, fun p q hp hq h => hr p q hp hq ?_⟩
  rcases h with h | ⟨t, ht, h1, h2⟩
  · obtain ⟨-, a2, -, a4⟩ := hgo_16 w hp h
    exact Or.inl ⟨a4, a2⟩
  · obtain ⟨-, a2, -, -⟩ := hgo_16 w ht h2
    exact Or.inr ⟨t, ht, h1.1, h1.2.2, a2⟩
end WR
section WM
variable {B : Nat} {K L : Nat → Nat} {M : Mm} {fu p t : Nat} {S : Nat → Int32}
theorem isSw_m (hM : MS B K L (mm_R M)) (hS : mm_A M (B + 45) = S) (w : WF S) (hp : p < 16) : f_X12_isSwitch K L M (B + 44) (nI p) = some (if isw S p then 1 else 0) := by
  obtain ⟨hh, h6, h0, -⟩ := w p hp
  have e := isw_h h6 h0
  unfold f_X12_isSwitch
  refine (sb (show f_X12_of K L M (B + 44) (nI p) 0 = some (nI hh) by rw [m_of0 hM hp, hS, h0]) _).trans ?_
  rw [show f_X12_of K L M (B + 44) (nI p) 0 = some (nI hh) by rw [m_of0 hM hp, hS, h0]]
  by_cases q : isw S p
  · rw [if_pos q]
    have := e.mp q
    rw [if_neg (show ¬ nI hh < 1 by rw [t_lt, nI_toInt (by omega), show (1 : Int32).toInt = 1 from rfl]; omega)]
    refine (sb rfl _).trans ?_
    rw [if_neg (show ¬ (5 : Int32) < nI hh by rw [t_lt, nI_toInt (by omega), show (5 : Int32).toInt = 5 from rfl]; omega)]
  · rw [if_neg q]
    have : ¬ (1 ≤ hh ∧ hh ≤ 5) := fun x => q (e.mpr x)
    by_cases x : hh = 0
    · rw [if_pos (by rw [x]; decide)]
    · rw [if_neg (show ¬ nI hh < 1 by rw [t_lt, nI_toInt (by omega), show (1 : Int32).toInt = 1 from rfl]; omega)]
      refine (sb rfl _).trans ?_
      rw [if_pos (show (5 : Int32) < nI hh by rw [t_lt, nI_toInt (by omega), show (5 : Int32).toInt = 5 from rfl]; omega)]
def hgv (S : Nat → Int32) (p : Nat) : Int32 := match hgo S p with
  | none => -1
  | some q => nI q
theorem hangsOn_m (hM : MS B K L (mm_R M)) (hS : mm_A M (B + 45) = S) (w : WF S) (hp : p < 16) : f_X12_hangsOn K L M (B + 44) (nI p) = some (hgv S p) := by
  obtain ⟨hh, h6, h0, ho⟩ := w p hp
  have o0 : f_X12_of K L M (B + 44) (nI p) 0 = some (nI hh) := by rw [m_of0 hM hp, hS, h0]
  have hha : f_X12_hangs K L M (B + 44) (nI p) = some (if hh = 4 ∨ hh = 5 then 1 else 0) := by
    unfold f_X12_hangs
    rw [o0]
    simp only [Option.bind_some]
    rcases six h6 with rfl | rfl | rfl | rfl | rfl | rfl | rfl <;> decide
  have c4 : S (3940 * p) = 4 ↔ hh = 4 := by rw [h0]; exact nI_eq (b := 4) (by omega) (by omega)
  have c5 : S (3940 * p) = 5 ↔ hh = 5 := by rw [h0]; exact nI_eq (b := 5) (by omega) (by omega)
  unfold f_X12_hangsOn hgv
  refine (sb hha _).trans ?_
  by_cases q : hh = 4 ∨ hh = 5
  · rw [if_pos q, if_neg (by decide)]
    obtain ⟨ok, -⟩ := ho (by omega) (by omega)
    refine (sb (show f_X12_of K L M (B + 44) (nI p) 44 = some (S (3940 * p + 44)) by rw [m_of (c := 44) hM hp 44 rfl (by decide), hS]) _).trans ?_
    unfold f_X12_hangsOn_19
    rcases ok.2.2.1 with x | ⟨v, v1, v2⟩
    · rw [x, if_pos (by decide)]
      have : hgo S p = none := by
        unfold hgo
        rw [if_neg (fun y => by have := y.2.1; rw [x] at this; exact absurd this (by decide))]
      rw [this]
    · rw [v2, if_neg (nI_pos (by omega))]
      refine (sb (isSw_m hM hS w v1) _).trans ?_
      have e : (S (3940 * p + 44)).toNatClampNeg = v := by rw [v2, nI_clamp (by omega)]
      by_cases y : isw S v
      · have : hgo S p = some v := by
          unfold hgo
          rw [if_pos ⟨by rw [c4, c5]; exact q, by rw [v2]; exact Int32.not_lt.mp (nI_pos (by omega)), by rw [e]; exact y⟩, e]
        rw [if_pos y, if_neg (by decide), this]
      · have : hgo S p = none := by
          unfold hgo
          rw [if_neg (fun z => y (by have := z.2.2; rw [e] at this; exact this))]
        rw [if_neg y, if_pos rfl, this]
  · have : hgo S p = none := by
      unfold hgo
      rw [if_neg (fun z => q (by have := z.1; rw [c4, c5] at this; exact this))]
    rw [if_neg q, if_pos rfl, this]
    unfold f_X12_hangsOn_19
    rw [if_pos (by decide)]
theorem stops_m (hM : MS B K L (mm_R M)) (hS : mm_A M (B + 45) = S) (w : WF S) (ht : t < 16) (hp : p < 16) : f_X12_stops K L M (B + 44) (nI t) (nI p) = some (if stp S t p then 1 else 0) := by
  obtain ⟨hh, h6, h0, ho⟩ := w t ht
  unfold f_X12_stops
  refine (sb (show f_X12_of K L M (B + 44) (nI t) 0 = some (S (3940 * t)) by rw [m_of0 hM ht, hS]) _).trans ?_
  by_cases q : S (3940 * t) = 5
  · rw [if_pos q]
    have h5 : hh = 5 := (nI_eq (b := 5) (by omega) (by omega)).mp (h0.symm.trans q)
    obtain ⟨ok, -⟩ := ho (by omega) (by omega)
    refine (sb (show f_X12_of K L M (B + 44) (nI t) 47 = some (S (3940 * t + 47)) by rw [m_of (c := 47) hM ht 47 rfl (by decide), hS]) _).trans ?_
    by_cases q2 : S (3940 * t + 47) = 1
    · rw [if_pos q2]
      obtain ⟨v, v1, v2⟩ := ok.2.2.2.1
      refine (sb (show f_X12_of K L M (B + 44) (nI t) 46 = some (nI v) by rw [m_of (c := 46) hM ht 46 rfl (by decide), hS, v2]) _).trans ?_
      have e : (S (3940 * t + 46)).toInt.toNat = v := by rw [v2, nI_toInt (by omega)]; omega
      by_cases q3 : v / 2 ^ p % 2 = 1
      · rw [if_pos ((hb_m v1 hp).mpr q3), if_pos ⟨q, q2, by rw [e]; exact q3⟩]
      · rw [if_neg (fun x => q3 ((hb_m v1 hp).mp x)), if_neg (fun x => q3 (by have := x.2.2; rw [e] at this; exact this))]
    · rw [if_neg q2, if_neg (fun x => q2 x.2.1)]
  · rw [if_neg q, if_neg (fun x => q x.1)]
theorem hgv_neg (w : WF S) (hp : p < 16) : hgv S p < 0 ↔ hgo S p = none := by
  unfold hgv
  rcases hgo_h w hp with x | ⟨q, hh, h1, h2, -⟩
  · rw [x]; simp
  · rw [h2]
    simp
    exact Int32.not_lt.mp (nI_pos (by omega))
theorem hgv_some {q : Nat} (h : hgo S p = some q) : hgv S p = nI q := by
  unfold hgv
  rw [h]
theorem ready_loop {v : Int32} (hM : MS B K L (mm_R M)) (hS : mm_A M (B + 45) = S) (w : WF S) (hp : p < 16) : ∀ (d g t : Nat) (v : Int32), (v = 0 ∨ v = 1) → t + d = 16 → d < g → ∃ r, f_X12_isReady_28 K L fu M (B + 44) g (nI p) v (nI t) = some r ∧ (r = 0 ∨ r = 1) ∧ (r = 1 ↔ v = 1 ∧ ∀ t', t ≤ t' → t' < 16 → stp S t' p → ∀ q, hgo S t' = some q → ¬ mm_A M (B + 52) q = 0) := by
  intro d
  induction d with
  | zero =>
    intro g t v hv ht hg
    obtain ⟨g, rfl⟩ : ∃ g', g = g' + 1 := ⟨g - 1, by omega⟩
    have : t = 16 := by omega
    subst this
    refine ⟨v, ?_, hv, ⟨fun h => ⟨h, fun t' h1 h2 => by omega⟩, fun h => h.1⟩⟩
    show f_X12_isReady_28b K L fu (f_X12_isReady_28 K L fu M (B + 44) g) M (B + 44) (nI p) v (nI 16) = _
    unfold f_X12_isReady_28b
    rw [if_pos (by decide)]
    exact (ub (zb_ok hv) _).trans rfl
  | succ d ih =>
    intro g t v hv ht hg
    obtain ⟨g, rfl⟩ : ∃ g', g = g' + 1 := ⟨g - 1, by omega⟩
    have h55 : ∀ x : Int32, f_X12_isReady_55 K L fu (f_X12_isReady_28 K L fu M (B + 44) g) M (B + 44) (nI p) v (nI t) x = if v = 0 then f_X12_isReady_28 K L fu M (B + 44) g (nI p) 0 (nI (t + 1)) else if x < 0 then f_X12_isReady_28 K L fu M (B + 44) g (nI p) 1 (nI (t + 1)) else Option.bind (rx K L (mm_R M (32 * 12 + 13) (B + 44)) 15 x) (fun a1 => if mm_A M a1 x.toNatClampNeg = 0 then f_X12_isReady_28 K L fu M (B + 44) g (nI p) 0 (nI (t + 1)) else f_X12_isReady_28 K L fu M (B + 44) g (nI p) 1 (nI (t + 1))) := by
      intro x
      unfold f_X12_isReady_55 f_X12_isReady_76 f_X12_isReady_80
      rw [nI_1]
    have go0 := ih g (t + 1) 0 (Or.inl rfl) (by omega) (by omega)
    have go1 := ih g (t + 1) 1 (Or.inr rfl) (by omega) (by omega)
    obtain ⟨r0, a1, a2, a3⟩ := go0
    obtain ⟨r1, b1, b2, b3⟩ := go1
    have r00 : r0 = 0 := by
      rcases a2 with x | x
      · exact x
      · exact absurd (a3.mp x).1 (by decide)
    have split : ∀ P : Nat → Prop, (∀ t', t ≤ t' → t' < 16 → P t') ↔ P t ∧ ∀ t', t + 1 ≤ t' → t' < 16 → P t' := by
      intro P
      constructor
      · exact fun h => ⟨h t (by omega) (by omega), fun t' x y => h t' (by omega) y⟩
      · intro h t' x y
        by_cases e : t' = t
        · subst e; exact h.1
        · exact h.2 t' (by omega) y
    show ∃ r, f_X12_isReady_28b K L fu (f_X12_isReady_28 K L fu M (B + 44) g) M (B + 44) (nI p) v (nI t) = some r ∧ _
    unfold f_X12_isReady_28b
    rw [if_neg (show ¬ (16 : Int32) ≤ nI t by rw [t_le, nI_toInt (by omega), show (16 : Int32).toInt = 16 from rfl]; omega), stops_m hM hS w (show t < 16 by omega) hp, hangsOn_m hM hS w (show t < 16 by omega)]
    show ∃ r, (if (if stp S t p then (1 : Int32) else 0) = 0 then f_X12_isReady_55 K L fu (f_X12_isReady_28 K L fu M (B + 44) g) M (B + 44) (nI p) v (nI t) (-1) else f_X12_isReady_55 K L fu (f_X12_isReady_28 K L fu M (B + 44) g) M (B + 44) (nI p) v (nI t) (hgv S t)) = some r ∧ _
    rw [if10, h55, h55]
    rcases hv with hv | hv
    · rw [if_pos hv, if_pos hv]
      refine ⟨r0, by split <;> exact a1, a2, ⟨fun h => absurd (r00.symm.trans h) (by decide), fun h => absurd (hv.symm.trans h.1) (by decide)⟩⟩
    · rw [if_neg (show ¬ v = 0 by rw [hv]; decide), if_neg (show ¬ v = 0 by rw [hv]; decide)]
      rw [split (fun t' => stp S t' p → ∀ q, hgo S t' = some q → ¬ mm_A M (B + 52) q = 0)]
      by_cases q1 : stp S t p
      · rw [if_pos q1]
        by_cases q2 : hgo S t = none
        · rw [if_pos ((hgv_neg w (by omega)).mpr q2)]
          refine ⟨r1, b1, b2, ?_⟩
          rw [b3]
          exact ⟨fun h => ⟨hv, fun _ q hq => (by rw [q2] at hq; cases hq), h.2⟩, fun h => ⟨rfl, h.2.2⟩⟩
        · rw [if_neg (fun x => q2 ((hgv_neg w (by omega)).mp x))]
          rcases hgo_h w (show t < 16 by omega) with x | ⟨q, hh, h1, h2, -⟩
          · exact absurd x q2
          · rw [hgv_some h2, show mm_R M (32 * 12 + 13) (B + 44) = _ from hM.1.2.2.2.2.2.2.2.2.1, rx_ok hM.2.1.2.2.2.2.2.2.2.1 hM.2.2.2.2.2.2.2.2.2.1 h1 (by decide), nI_clamp (by omega)]
            show ∃ r, (if mm_A M (B + 52) q = 0 then f_X12_isReady_28 K L fu M (B + 44) g (nI p) 0 (nI (t + 1)) else f_X12_isReady_28 K L fu M (B + 44) g (nI p) 1 (nI (t + 1))) = some r ∧ _
            by_cases q3 : mm_A M (B + 52) q = 0
            · rw [if_pos q3]
              refine ⟨r0, a1, a2, ⟨fun h => absurd (r00.symm.trans h) (by decide), fun h => absurd q3 (h.2.1 q1 q h2)⟩⟩
            · rw [if_neg q3]
              refine ⟨r1, b1, b2, ?_⟩
              rw [b3]
              exact ⟨fun h => ⟨hv, fun _ q' hq => (by rw [h2] at hq; cases hq; exact q3), h.2⟩, fun h => ⟨rfl, h.2.2⟩⟩
      · rw [if_neg q1, if_pos (by decide)]
        refine ⟨r1, b1, b2, ?_⟩
        rw [b3]
        exact ⟨fun h => ⟨hv, fun x => absurd x q1, h.2⟩, fun h => ⟨rfl, h.2.2⟩⟩
theorem ready_m (hM : MS B K L (mm_R M)) (hS : mm_A M (B + 45) = S) (w : WF S) (hp : p < 16) (hfu : 1000 ≤ fu) : ∃ r, f_X12_isReady K L fu M (B + 44) (nI p) = some r ∧ (r = 0 ∨ r = 1) ∧ (r = 1 ↔ (∀ q, hgo S p = some q → ¬ mm_A M (B + 52) q = 0) ∧ ∀ t', t' < 16 → stp S t' p → ∀ q, hgo S t' = some q → ¬ mm_A M (B + 52) q = 0) := by
  obtain ⟨r0, a1, a2, a3⟩ := ready_loop (fu := fu) (v := 0) hM hS w hp 16 fu 0 0 (Or.inl rfl) (by omega) (by omega)
  obtain ⟨r1, b1, b2, b3⟩ := ready_loop (fu := fu) (v := 0) hM hS w hp 16 fu 0 1 (Or.inr rfl) (by omega) (by omega)
  unfold f_X12_isReady f_X12_isReady_19 f_X12_isReady_24
  rw [hangsOn_m hM hS w hp]
  show ∃ r, (if hgv S p < 0 then f_X12_isReady_28 K L fu M (B + 44) fu (nI p) 1 0 else Option.bind (rx K L (mm_R M (32 * 12 + 13) (B + 44)) 15 (hgv S p)) (fun a3 => if mm_A M a3 (hgv S p).toNatClampNeg = 0 then f_X12_isReady_28 K L fu M (B + 44) fu (nI p) 0 0 else f_X12_isReady_28 K L fu M (B + 44) fu (nI p) 1 0)) = some r ∧ _
  rcases hgo_h w hp with x | ⟨q, hh, h1, h2, -⟩
  · rw [if_pos ((hgv_neg w hp).mpr x)]
    refine ⟨r1, b1, b2, ?_⟩
    rw [b3]
    exact ⟨fun h => ⟨fun q hq => (by rw [x] at hq; cases hq), fun t' ht => h.2 t' (by omega) ht⟩, fun h => ⟨rfl, fun t' _ ht => h.2 t' ht⟩⟩
  · rw [if_neg (fun y => by have := (hgv_neg w hp).mp y; rw [h2] at this; cases this), hgv_some h2, show mm_R M (32 * 12 + 13) (B + 44) = _ from hM.1.2.2.2.2.2.2.2.2.1, rx_ok hM.2.1.2.2.2.2.2.2.2.1 hM.2.2.2.2.2.2.2.2.2.1 h1 (by decide), nI_clamp (by omega)]
    show ∃ r, (if mm_A M (B + 52) q = 0 then f_X12_isReady_28 K L fu M (B + 44) fu (nI p) 0 0 else f_X12_isReady_28 K L fu M (B + 44) fu (nI p) 1 0) = some r ∧ _
    by_cases q3 : mm_A M (B + 52) q = 0
    · rw [if_pos q3]
      refine ⟨r0, a1, a2, ⟨fun h => absurd (a3.mp h).1 (by decide), fun h => absurd q3 (h.1 q h2)⟩⟩
    · rw [if_neg q3]
      refine ⟨r1, b1, b2, ?_⟩
      rw [b3]
      exact ⟨fun h => ⟨fun q' hq => (by rw [h2] at hq; cases hq; exact q3), fun t' ht => h.2 t' (by omega) ht⟩, fun h => ⟨rfl, fun t' _ ht => h.2 t' ht⟩⟩
theorem stopped_loop (hM : MS B K L (mm_R M)) (hS : mm_A M (B + 45) = S) (w : WF S) (hp : p < 16) : ∀ (d g t : Nat), t + d = 16 → d < g → f_X12_stoppedBy_2 K L fu M (B + 44) g (nI p) (nI t) = some (fst' S (mm_A M (B + 51)) p d t) := by
  intro d
  induction d with
  | zero =>
    intro g t ht hg
    obtain ⟨g, rfl⟩ : ∃ g', g = g' + 1 := ⟨g - 1, by omega⟩
    have : t = 16 := by omega
    subst this
    show f_X12_stoppedBy_2b K L fu (f_X12_stoppedBy_2 K L fu M (B + 44) g) M (B + 44) (nI p) (nI 16) = _
    unfold f_X12_stoppedBy_2b
    rw [if_pos (by decide)]
    rfl
  | succ d ih =>
    intro g t ht hg
    obtain ⟨g, rfl⟩ : ∃ g', g = g' + 1 := ⟨g - 1, by omega⟩
    have ihk := ih g (t + 1) (by omega) (by omega)
    show f_X12_stoppedBy_2b K L fu (f_X12_stoppedBy_2 K L fu M (B + 44) g) M (B + 44) (nI p) (nI t) = some (if stp S t p ∧ (hgo S t = none ∨ mm_A M (B + 51) ((hgo S t).getD 0) = S (3940 * t + 45)) then nI t else fst' S (mm_A M (B + 51)) p d (t + 1))
    unfold f_X12_stoppedBy_2b
    rw [if_neg (show ¬ (16 : Int32) ≤ nI t by rw [t_le, nI_toInt (by omega), show (16 : Int32).toInt = 16 from rfl]; omega), nI_1, ihk]
    refine (sb (hangsOn_m hM hS w (show t < 16 by omega)) _).trans ?_
    refine (sb (stops_m hM hS w (show t < 16 by omega) hp) _).trans ?_
    rw [if10]
    by_cases q1 : stp S t p
    · rw [if_pos q1]
      rcases hgo_h w (show t < 16 by omega) with x | ⟨q, hh, h1, h2, -⟩
      · rw [if_pos ((hgv_neg w (by omega)).mpr x), if_pos ⟨q1, Or.inl x⟩]
      · rw [if_neg (fun y => by have := (hgv_neg w (by omega)).mp y; rw [h2] at this; cases this), hgv_some h2, show mm_R M (32 * 12 + 12) (B + 44) = _ from hM.1.2.2.2.2.2.2.2.1, rx_ok hM.2.1.2.2.2.2.2.2.1 hM.2.2.2.2.2.2.2.2.1 h1 (by decide), nI_clamp (by omega)]
        refine (sb rfl _).trans ?_
        refine (sb (show f_X12_of K L M (B + 44) (nI t) 45 = some (S (3940 * t + 45)) by rw [m_of (c := 45) hM (by omega) 45 rfl (by decide), hS]) _).trans ?_
        rw [h2]
        by_cases q3 : mm_A M (B + 51) q = S (3940 * t + 45)
        · rw [if_pos q3, if_pos ⟨q1, Or.inr q3⟩]
        · rw [if_neg q3, if_neg (fun y => y.2.elim (fun z => by cases z) (fun z => q3 z))]
    · rw [if_neg q1, if_neg (fun y => q1 y.1)]
theorem other_m (hM : MS B K L (mm_R M)) (hS : mm_A M (B + 45) = S) (w : WF S) (hp : p < 16) : f_X12_isOther K L M (B + 44) (nI p) = some (if hgo S p = none ∨ mm_A M (B + 51) ((hgo S p).getD 0) = S (3940 * p + 45) then 0 else 1) := by
  unfold f_X12_isOther
  refine (sb (hangsOn_m hM hS w hp) _).trans ?_
  rcases hgo_h w hp with x | ⟨q, hh, h1, h2, -⟩
  · rw [if_pos ((hgv_neg w hp).mpr x), if_pos (Or.inl x)]
  · rw [if_neg (fun y => by have := (hgv_neg w hp).mp y; rw [h2] at this; cases this), hgv_some h2, show mm_R M (32 * 12 + 12) (B + 44) = _ from hM.1.2.2.2.2.2.2.2.1, rx_ok hM.2.1.2.2.2.2.2.2.1 hM.2.2.2.2.2.2.2.2.1 h1 (by decide), nI_clamp (by omega)]
    refine (sb rfl _).trans ?_
    refine (sb (show f_X12_of K L M (B + 44) (nI p) 45 = some (S (3940 * p + 45)) by rw [m_of (c := 45) hM hp 45 rfl (by decide), hS]) _).trans ?_
    rw [h2, Option.getD_some]
    by_cases q3 : mm_A M (B + 51) q = S (3940 * p + 45)
    · rw [if_pos q3, if_pos (Or.inr q3)]
    · rw [if_neg q3, if_neg (fun y => y.elim (fun z => by cases z) (fun z => q3 z))]
end WM
