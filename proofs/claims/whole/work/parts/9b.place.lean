/-! a place changes wholly: empty, note -/
def cl0 (S : Nat → Int32) (o i : Nat) : Nat → Int32 := fun j => if o + i ≤ j ∧ j < o + 3940 then 0 else S j
def clS (S : Nat → Int32) (o : Nat) : Nat → Int32 := upd (upd (upd (upd (upd (upd (upd (upd (upd (upd (upd (cl0 S o 0) (o + 44) (-1)) (o + 69) (-1)) (o + 70) 1) (o + 72) 10000) (o + 78) 1) (o + 79) 500) (o + 80) 1) (o + 90) 1) (o + 91) 1) (o + 92) 1) (o + 93) 1
def clr (k : Nat) : Int32 := if k = 93 then 1 else if k = 92 then 1 else if k = 91 then 1 else if k = 90 then 1 else if k = 80 then 1 else if k = 79 then 500 else if k = 78 then 1 else if k = 72 then 10000 else if k = 70 then 1 else if k = 69 then -1 else if k = 44 then -1 else 0
theorem clS_at {S : Nat → Int32} {o k : Nat} (h : k < 3940) : clS S o (o + k) = clr k := by
  unfold clS clr cl0
  simp only [upd_eq, Nat.add_left_cancel_iff]
  rw [if_pos (show o + 0 ≤ o + k ∧ o + k < o + 3940 by omega)]
theorem clS_o {S : Nat → Int32} {o i : Nat} (h : i < o ∨ o + 3940 ≤ i) : clS S o i = S i := by
  unfold clS cl0
  simp only [upd_eq]
  repeat rw [if_neg (by omega)]
theorem clr_0 {k : Nat} (h : 93 < k ∨ (k < 69 ∧ k ≠ 44)) : clr k = 0 := by
  unfold clr
  repeat rw [if_neg (by omega)]
section CL
variable {B : Nat} {K L : Nat → Nat} {fu p : Nat}
theorem clears_loop (hp : p < 16) (hfu : 5000 ≤ fu) : ∀ (d g i : Nat) (M : Mm), MS B K L (mm_R M) → i + d = 3940 → d < g → f_X12_clears_2 K L fu (B + 44) g (nI p) (nI i) M = some (ms_A M (B + 45) (upd (upd (upd (upd (upd (upd (upd (upd (upd (upd (upd (cl0 (mm_A M (B + 45)) (3940 * p) i) (3940 * p + 44) (-1)) (3940 * p + 69) (-1)) (3940 * p + 70) 1) (3940 * p + 72) 10000) (3940 * p + 78) 1) (3940 * p + 79) 500) (3940 * p + 80) 1) (3940 * p + 90) 1) (3940 * p + 91) 1) (3940 * p + 92) 1) (3940 * p + 93) 1)) := by
  intro d
  induction d with
  | zero =>
    intro g i M hM h1 h2
    obtain ⟨g, rfl⟩ : ∃ g', g = g' + 1 := ⟨g - 1, by omega⟩
    have hi : i = 3940 := by omega
    subst hi
    obtain ⟨f, rfl⟩ : ∃ f', fu = f' + 5 := ⟨fu - 5, by omega⟩
    have hms : ∀ T, MS B K L (mm_R (ms_A M (B + 45) T)) := fun _ => hM
    have e0 : cl0 (mm_A M (B + 45)) (3940 * p) 3940 = mm_A M (B + 45) := by
      funext j
      unfold cl0
      rw [if_neg (by omega)]
    rw [e0]
    show f_X12_clears_2b K L (f + 5) (f_X12_clears_2 K L (f + 5) (B + 44) g) (B + 44) (nI p) (nI 3940) M = _
    unfold f_X12_clears_2b
    rw [if_pos (by decide), m_to' (c := 44) hM hp 44 rfl (by decide), mp_0]
    simp only [Option.bind_some]
    rw [m_to' (c := 69) (hms _) hp 69 rfl (by decide), mp_m]
    simp only [Option.bind_some]
    rw [m_to' (c := 70) (hms _) hp 70 rfl (by decide), mp_m]
    simp only [Option.bind_some]
    rw [m_to' (c := 72) (hms _) hp 72 rfl (by decide), mp_m]
    simp only [Option.bind_some]
    rw [m_to' (c := 78) (hms _) hp 78 rfl (by decide), mp_m]
    simp only [Option.bind_some]
    rw [m_to' (c := 79) (hms _) hp 79 rfl (by decide), mp_m]
    simp only [Option.bind_some]
    rw [m_to' (c := 80) (hms _) hp 80 rfl (by decide), mp_m]
    simp only [Option.bind_some]
    have st : ∀ (q : Nat) (i : Nat) (T : Nat → Int32), i < 4 → f_X12_clears_84 K L (f + 5) (B + 44) (q + 1) (nI p) (nI i) (ms_A M (B + 45) T) = f_X12_clears_84 K L (f + 5) (B + 44) q (nI p) (nI (i + 1)) (ms_A M (B + 45) (upd T (3940 * p + (90 + i)) 1)) := by
      intro q i T hi
      show f_X12_clears_84b K L (f + 5) (f_X12_clears_84 K L (f + 5) (B + 44) q) (B + 44) (nI p) (nI i) (ms_A M (B + 45) T) = _
      unfold f_X12_clears_84b
      rw [if_neg (show ¬ (4 : Int32) ≤ nI i by rw [t_le, nI_toInt (by omega), show (4 : Int32).toInt = 4 from rfl]; omega), m_to' (c := 90 + nI i) (hms _) hp (90 + i) (nI_add 90 i) (by omega), mp_m]
      simp only [Option.bind_some, nI_1]
    rw [show f_X12_clears_84 K L (f + 5) (B + 44) (f + 5) (nI p) 0 _ = _ from st (f + 4) 0 _ (by decide), st (f + 3) 1 _ (by decide), st (f + 2) 2 _ (by decide), st (f + 1) 3 _ (by decide)]
    show f_X12_clears_84b K L (f + 5) (f_X12_clears_84 K L (f + 5) (B + 44) f) (B + 44) (nI p) (nI 4) _ = _
    unfold f_X12_clears_84b
    rw [if_pos (by decide)]
  | succ d ih =>
    intro g i M hM h1 h2
    obtain ⟨g, rfl⟩ : ∃ g', g = g' + 1 := ⟨g - 1, by omega⟩
    show f_X12_clears_2b K L fu (f_X12_clears_2 K L fu (B + 44) g) (B + 44) (nI p) (nI i) M = _
    unfold f_X12_clears_2b
    rw [if_neg (show ¬ (3940 : Int32) ≤ nI i by rw [t_le, nI_toInt (by omega), show (3940 : Int32).toInt = 3940 from rfl]; omega), m_to (c := nI i) hM hp i rfl (by omega)]
    simp only [Option.bind_some, nI_1]
    rw [ih g (i + 1) (ms_A M (B + 45) (upd (mm_A M (B + 45)) (3940 * p + i) 0)) hM (by omega) (by omega), ms_A_A, A_A, if_pos rfl]
    have e : cl0 (upd (mm_A M (B + 45)) (3940 * p + i) 0) (3940 * p) (i + 1) = cl0 (mm_A M (B + 45)) (3940 * p) i := by
      funext j
      unfold cl0
      rw [upd_eq]
      by_cases q : j = 3940 * p + i
      · rw [if_pos q, if_pos (show 3940 * p + i ≤ j ∧ j < 3940 * p + 3940 by omega)]
        split <;> rfl
      · rw [if_neg q]
        by_cases q2 : 3940 * p + i ≤ j ∧ j < 3940 * p + 3940
        · rw [if_pos q2, if_pos (by omega)]
        · rw [if_neg q2, if_neg (by omega)]
    rw [e]
theorem clears_eq {M : Mm} (hp : p < 16) (hfu : 5000 ≤ fu) (hM : MS B K L (mm_R M)) : f_X12_clears K L fu (B + 44) (nI p) M = some (ms_A M (B + 45) (clS (mm_A M (B + 45)) (3940 * p))) := clears_loop hp hfu 3940 fu 0 M hM (by omega) (by omega)
end CL
/-! shapes under a change of references 128, 131 -/
section SG
variable {B n b : Nat} {K L K' L' : Nat → Nat} {R R' C C' : Nat → Nat → Option Nat}
theorem MS.cg (hK : ∀ a, a < B + 55 → K' a = K a ∧ L' a = L a) (hR : ∀ x a, a < B + 55 → x ≠ 128 → x ≠ 131 → R' x a = R x a) (h : MS B K L R) : MS B K' L' R' := by
  have k : ∀ i, i < 55 → K' (B + i) = K (B + i) := fun i hi => (hK _ (by omega)).1
  have l : ∀ i, i < 55 → L' (B + i) = L (B + i) := fun i hi => (hK _ (by omega)).2
  have r : ∀ x, x ≠ 128 → x ≠ 131 → R' x (B + 44) = R x (B + 44) := fun x h1 h2 => hR x _ (by omega) h1 h2
  unfold MS
  rw [k 44 (by decide), k 45 (by decide), k 46 (by decide), k 47 (by decide), k 48 (by decide), k 49 (by decide), k 50 (by decide), k 51 (by decide), k 52 (by decide), k 53 (by decide), k 54 (by decide), l 45 (by decide), l 46 (by decide), l 47 (by decide), l 48 (by decide), l 49 (by decide), l 50 (by decide), l 51 (by decide), l 52 (by decide), l 53 (by decide), l 54 (by decide), r 384 (by decide) (by decide), r 385 (by decide) (by decide), r 386 (by decide) (by decide), r 387 (by decide) (by decide), r 389 (by decide) (by decide), r 390 (by decide) (by decide), r 396 (by decide) (by decide), r 397 (by decide) (by decide), r 398 (by decide) (by decide), r 399 (by decide) (by decide)]
  exact h
theorem CS.cg (hK : ∀ a, a < B + 55 → K' a = K a ∧ L' a = L a) (hR : ∀ x a, a < B + 55 → x ≠ 128 → x ≠ 131 → R' x a = R x a) (hC : ∀ a, a < B + 55 → C' a = C a) (h : CS B K L R C) : CS B K' L' R' C' := by
  have k : ∀ i, i < 55 → K' (B + i) = K (B + i) := fun i hi => (hK _ (by omega)).1
  have l : ∀ i, i < 55 → L' (B + i) = L (B + i) := fun i hi => (hK _ (by omega)).2
  have r : ∀ x i, i < 55 → x ≠ 128 → x ≠ 131 → R' x (B + i) = R x (B + i) := fun x i h0 h1 h2 => hR x _ (by omega) h1 h2
  have k0 : K' B = K B := (hK B (by omega)).1
  have r0 : ∀ x, x ≠ 128 → x ≠ 131 → R' x B = R x B := fun x h1 h2 => hR x _ (by omega) h1 h2
  obtain ⟨⟨a1, a2, a3, a4, a5, a6⟩, ⟨b1, b2, b3, b4, b5⟩, ⟨c1, c2, c3, c4, c5⟩, ⟨d1, d2, d3, d4⟩, ⟨e1, e2, e3, e4, e5, e6, e7, e8, e9, e10⟩, f1, f2⟩ := h
  refine ⟨⟨k0.trans a1, ?_, ?_, ?_, ?_, ?_⟩, ⟨(k 1 (by decide)).trans b1, ?_, (k 2 (by decide)).trans b3, (l 2 (by decide)).trans b4, fun p hp => ?_⟩, ⟨(k 19 (by decide)).trans c1, ?_, (k 20 (by decide)).trans c3, (l 20 (by decide)).trans c4, fun p hp => ?_⟩, ⟨(k 37 (by decide)).trans d1, ?_, (k 38 (by decide)).trans d3, (l 38 (by decide)).trans d4⟩, ⟨(k 39 (by decide)).trans e1, ?_, ?_, ?_, (k 40 (by decide)).trans e5, (l 40 (by decide)).trans e6, (k 41 (by decide)).trans e7, (l 41 (by decide)).trans e8, (k 42 (by decide)).trans e9, (l 42 (by decide)).trans e10⟩, (k 43 (by decide)).trans f1, (l 43 (by decide)).trans f2⟩
  · rw [r0 _ (by decide) (by decide)]; exact a2
  · rw [r0 _ (by decide) (by decide)]; exact a3
  · rw [r0 _ (by decide) (by decide)]; exact a4
  · rw [r0 _ (by decide) (by decide)]; exact a5
  · rw [r0 _ (by decide) (by decide)]; exact a6
  · rw [r _ 1 (by decide) (by decide) (by decide)]; exact b2
  · rw [hC _ (by omega), (hK _ (by omega)).1]; exact b5 p hp
  · rw [r _ 19 (by decide) (by decide) (by decide)]; exact c2
  · rw [hC _ (by omega), (hK _ (by omega)).1]; exact c5 p hp
  · rw [r _ 37 (by decide) (by decide) (by decide)]; exact d2
  · rw [r _ 39 (by decide) (by decide) (by decide)]; exact e2
  · rw [r _ 39 (by decide) (by decide) (by decide)]; exact e3
  · rw [r _ 39 (by decide) (by decide) (by decide)]; exact e4
theorem BS.cg (hK : ∀ a, b ≤ a → a < b + 30 → K' a = K a ∧ L' a = L a) (hR : ∀ x a, b ≤ a → a < b + 30 → x ≠ 128 → x ≠ 131 → R' x a = R x a) (hC : ∀ a, b ≤ a → a < b + 30 → C' a = C a) (h : BS K L R C b) : BS K' L' R' C' b := by
  have k : ∀ i, i < 30 → K' (b + i) = K (b + i) := fun i hi => (hK _ (by omega) (by omega)).1
  have l : ∀ i, i < 30 → L' (b + i) = L (b + i) := fun i hi => (hK _ (by omega) (by omega)).2
  have r : ∀ x i, i < 30 → x ≠ 128 → x ≠ 131 → R' x (b + i) = R x (b + i) := fun x i h0 h1 h2 => hR x _ (by omega) (by omega) h1 h2
  have k0 : K' b = K b := k 0 (by decide)
  have r0 : ∀ x, x ≠ 128 → x ≠ 131 → R' x b = R x b := fun x h1 h2 => r x 0 (by decide) h1 h2
  unfold BS
  rw [k0, k 1 (by decide), k 2 (by decide), k 3 (by decide), k 4 (by decide), k 5 (by decide), k 6 (by decide), k 7 (by decide), k 8 (by decide), k 9 (by decide), k 10 (by decide), k 11 (by decide), k 12 (by decide), k 13 (by decide), l 2 (by decide), l 3 (by decide), l 4 (by decide), l 5 (by decide), l 7 (by decide), l 8 (by decide), l 10 (by decide), l 13 (by decide), r0 291 (by decide) (by decide), r0 292 (by decide) (by decide), r0 297 (by decide) (by decide), r0 298 (by decide) (by decide), r0 299 (by decide) (by decide), r0 300 (by decide) (by decide), r 193 1 (by decide) (by decide) (by decide), r 194 1 (by decide) (by decide) (by decide), r 195 1 (by decide) (by decide) (by decide), r 196 1 (by decide) (by decide) (by decide), r 224 6 (by decide) (by decide) (by decide), r 225 6 (by decide) (by decide) (by decide), r 96 9 (by decide) (by decide) (by decide)]
  obtain ⟨h1, h2, h3, h4, h5, h6, h7, h8, h9⟩ := h
  refine ⟨h1, h2, h3, h4, h5, h6, h7, h8, fun w hw => ?_⟩
  rw [hC _ (by omega) (by omega), (hK (b + 14 + 4 * w) (by omega) (by omega)).1, (hK (b + 15 + 4 * w) (by omega) (by omega)).1, (hK (b + 16 + 4 * w) (by omega) (by omega)).1, (hK (b + 17 + 4 * w) (by omega) (by omega)).1, (hK (b + 15 + 4 * w) (by omega) (by omega)).2, (hK (b + 16 + 4 * w) (by omega) (by omega)).2, (hK (b + 17 + 4 * w) (by omega) (by omega)).2, hR 66 _ (by omega) (by omega) (by decide) (by decide), hR 67 _ (by omega) (by omega) (by decide) (by decide), hR 68 _ (by omega) (by omega) (by decide) (by decide)]
  exact h9 w hw
theorem qc_cg (h : ∀ q, q < 32 → (R' 131 (qA B q) = none ↔ R 131 (qA B q) = none)) : ∀ q, q ≤ 32 → qc R' B q = qc R B q := by
  intro q
  induction q with
  | zero => intro _; rfl
  | succ q ih =>
    intro hq
    show qc R' B q + (if R' 131 (qA B q) = none then 0 else 1) = qc R B q + (if R 131 (qA B q) = none then 0 else 1)
    rw [ih (by omega)]
    by_cases x : R 131 (qA B q) = none
    · rw [if_pos x, if_pos ((h q (by omega)).mpr x)]
    · rw [if_neg x, if_neg (fun y => x ((h q (by omega)).mp y))]
theorem Sg.cg (hR : ∀ x a, x ≠ 128 → R' x a = R x a) (h : Sg B n K L R C) : Sg B n K L R' C := by
  obtain ⟨h1, h2, h3, j, h4, h5⟩ := h
  have e : ∀ q, R' 131 (qA B q) = R 131 (qA B q) := fun q => hR 131 _ (by decide)
  have hq := qc_cg (R := R) (R' := R') (B := B) (fun q _ => by rw [e q]) 32 (Nat.le_refl _)
  refine ⟨h1.cg (fun _ _ => ⟨rfl, rfl⟩) (fun x a _ h _ => hR x a h), h2.cg (fun _ _ => ⟨rfl, rfl⟩) (fun x a _ h _ => hR x a h) (fun _ _ => rfl), by rw [hq]; exact h3, j, fun q b hq' hb => ?_, fun q q' b b' hq' hq'' hb hb' => ?_⟩
  · rw [e] at hb
    obtain ⟨i1, i2, i3⟩ := h4 q b hq' hb
    exact ⟨i1, by rw [hq]; exact i2, i3.cg (fun _ _ _ => ⟨rfl, rfl⟩) (fun x a _ _ h _ => hR x a h) (fun _ _ _ => rfl)⟩
  · rw [e] at hb hb'
    exact h5 q q' b b' hq' hq'' hb hb'
end SG
