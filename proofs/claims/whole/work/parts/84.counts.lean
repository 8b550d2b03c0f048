/-! counts: what a minute tells, on both sides; told -/
theorem isWay_eq (v : Int32) : f_X12_isWay v = some (if 0 ≤ v.toInt ∧ v.toInt ≤ 3 then 1 else 0) := by
  unfold f_X12_isWay
  simp only [t_lt, t_le, show (0 : Int32).toInt = 0 from rfl, show (4 : Int32).toInt = 4 from rfl]
  by_cases h : v.toInt < 0
  · simp [h, show ¬ (0 ≤ v.toInt ∧ v.toInt ≤ 3) by omega]
  · by_cases h2 : 4 ≤ v.toInt
    · simp [h, h2, show ¬ (0 ≤ v.toInt ∧ v.toInt ≤ 3) by omega]
    · simp [h, h2, show (0 ≤ v.toInt ∧ v.toInt ≤ 3) by omega]
theorem isMinute_eq (v : Int32) : f_X12_isMinute v = some (if 0 ≤ v.toInt ∧ v.toInt ≤ 239 then 1 else 0) := by
  unfold f_X12_isMinute
  simp only [t_lt, t_le, show (0 : Int32).toInt = 0 from rfl, show (240 : Int32).toInt = 240 from rfl]
  by_cases h : v.toInt < 0
  · simp [h, show ¬ (0 ≤ v.toInt ∧ v.toInt ≤ 239) by omega]
  · by_cases h2 : 240 ≤ v.toInt
    · simp [h, h2, show ¬ (0 ≤ v.toInt ∧ v.toInt ≤ 239) by omega]
    · simp [h, h2, show (0 ≤ v.toInt ∧ v.toInt ≤ 239) by omega]
theorem counted_eq (v u : Int32) : f_X11_isCountedAt v u = some (if (0 ≤ v.toInt ∧ v.toInt ≤ 3) ∧ (0 ≤ u.toInt ∧ u.toInt ≤ 239) then 1 else 0) := by
  unfold f_X11_isCountedAt
  simp only [within_eq, show (3 : Int32).toInt = 3 from rfl, show (239 : Int32).toInt = 239 from rfl, Option.bind_some]
  by_cases h : 0 ≤ v.toInt ∧ v.toInt ≤ 3
  · by_cases h2 : 0 ≤ u.toInt ∧ u.toInt ≤ 239
    · rw [if_pos h, if_neg (by decide), if_pos h2, if_neg (by decide), if_pos ⟨h, h2⟩]
    · rw [if_pos h, if_neg (by decide), if_neg h2, if_pos rfl, if_neg (fun q => h2 q.2)]
  · rw [if_neg h, if_pos rfl, if_neg (fun q => h q.1)]
section CT
variable {K L : Nat → Nat} {M : Mm} {b o w : Nat} {S : Nat → Int32} {C : Nat → Nat → Option Nat}
theorem rowOf_eq (h : BS K L (mm_R M) (mm_C M) b) (hw : w < 4) (r : rCt M b S o w) : f_X9_rowOf K L M b (nI w) = some (if S (o + 90 + w) = 0 then none else some (b + 14 + 4 * w)) := by
  obtain ⟨h1, -, -, -, -, -, h7, h8, h9⟩ := h
  obtain ⟨a1, a2, -⟩ := h9 w hw
  unfold f_X9_rowOf
  rw [within_eq, show (3 : Int32).toInt = 3 from rfl, if_pos (by rw [nI_toInt (by omega)]; omega), show mm_R M (32 * 9 + 12) b = some (b + 13) from h1.2.2.2.2.2.2]
  simp only [Option.bind_some, rx_ok h7 h8 hw (by decide)]
  rw [if_neg (by decide), nI_clamp (by omega), a1, rc_ok a2]
  simp only [Option.bind_some]
  rw [show mm_I M (32 * 2 + 0) (b + 14 + 4 * w) = S (o + 90 + w) from r.1]
  split <;> rfl
theorem isTold_eq (h : BS K L (mm_R M) C b) (hw : w < 4) (r : rCt M b S o w) {m : Nat} (hm : m < 240) : f_X2_isTold K L M (b + 14 + 4 * w) (nI m) = some (S (o + 100 + 4 * (240 * w + m))) := by
  obtain ⟨-, -, -, -, -, -, h7, h8, h9⟩ := h
  obtain ⟨a1, a2, a3, a4, a5, a6, a7, -⟩ := h9 w hw
  obtain ⟨r1, r2, e, r3, r4, r5⟩ := r
  unfold f_X2_isTold
  rw [if_neg (nI_pos (by omega)), show mm_I M (32 * 2 + 1) (b + 14 + 4 * w) = nI e from r4, show mm_R M (32 * 2 + 2) (b + 14 + 4 * w) = some (b + 15 + 4 * w) from a3]
  rcases r5 m hm with ⟨q1, q2, q3, q4, q5⟩ | ⟨q1, q2, q3, q4, q5, c, f, g, c1, -, -, c4, -⟩
  · rw [q1]
    by_cases hme : m < e
    · rw [if_neg (nI_ge hme (by omega)), rx_ok a6 a7 hm (by decide)]
      simp only [Option.bind_some]
      rw [nI_clamp (by omega), q5 hme, if_pos rfl]
    · rw [if_pos (nI_le (by omega) (by omega))]
  · rw [q1, if_neg (nI_ge q2 (by omega)), rx_ok a6 a7 hm (by decide)]
    simp only [Option.bind_some]
    rw [nI_clamp (by omega), q3, c4, if_neg]
    intro e1
    have := congrArg Int32.toInt e1
    rw [nI_toInt (by omega)] at this
    have h1 : (-1 : Int32).toInt = -1 := rfl
    omega
theorem callsAt_eq (h : BS K L (mm_R M) C b) (hw : w < 4) (r : rCt M b S o w) {m : Nat} (hm : m < 240) : f_X2_callsAt K L M (b + 14 + 4 * w) (nI m) = some (S (o + 101 + 4 * (240 * w + m))) := by
  have ht := isTold_eq h hw r hm
  obtain ⟨-, -, -, -, -, -, h7, h8, h9⟩ := h
  obtain ⟨a1, a2, a3, a4, a5, a6, a7, a8, a9, a10, a11⟩ := h9 w hw
  unfold f_X2_callsAt
  rw [ht, show mm_R M (32 * 2 + 2) (b + 14 + 4 * w) = some (b + 15 + 4 * w) from a3, rx_ok a6 a7 hm (by decide)]
  obtain ⟨r1, r2, e, r3, r4, r5⟩ := r
  rcases r5 m hm with ⟨q1, q2, q3, q4, q5⟩ | ⟨q1, q2, q3, q4, q5, -⟩
  · rw [q1, q2]; rfl
  · rw [q1, ← q3]
    simp only [Option.bind_some]
    rw [if_neg (by decide), nI_clamp (by omega)]
theorem faultsAt_eq (h : BS K L (mm_R M) C b) (hw : w < 4) (r : rCt M b S o w) {m : Nat} (hm : m < 240) : f_X2_faultsAt K L M (b + 14 + 4 * w) (nI m) = some (S (o + 102 + 4 * (240 * w + m))) := by
  have ht := isTold_eq h hw r hm
  obtain ⟨-, -, -, -, -, -, h7, h8, h9⟩ := h
  obtain ⟨a1, a2, a3, a4, a5, a6, a7, a8, a9, a10, a11⟩ := h9 w hw
  unfold f_X2_faultsAt
  rw [ht, show mm_R M (32 * 2 + 3) (b + 14 + 4 * w) = some (b + 16 + 4 * w) from a4, rx_ok a8 a9 hm (by decide)]
  obtain ⟨r1, r2, e, r3, r4, r5⟩ := r
  rcases r5 m hm with ⟨q1, q2, q3, q4, q5⟩ | ⟨q1, q2, q3, q4, q5, -⟩
  · rw [q1, q3]; rfl
  · rw [q1, ← q4]
    simp only [Option.bind_some]
    rw [if_neg (by decide), nI_clamp (by omega)]
theorem goodsAt_eq (h : BS K L (mm_R M) C b) (hw : w < 4) (r : rCt M b S o w) {m : Nat} (hm : m < 240) : f_X2_goodsAt K L M (b + 14 + 4 * w) (nI m) = some (S (o + 103 + 4 * (240 * w + m))) := by
  have ht := isTold_eq h hw r hm
  obtain ⟨-, -, -, -, -, -, h7, h8, h9⟩ := h
  obtain ⟨a1, a2, a3, a4, a5, a6, a7, a8, a9, a10, a11⟩ := h9 w hw
  unfold f_X2_goodsAt
  rw [ht, show mm_R M (32 * 2 + 4) (b + 14 + 4 * w) = some (b + 17 + 4 * w) from a5, rx_ok a10 a11 hm (by decide)]
  obtain ⟨r1, r2, e, r3, r4, r5⟩ := r
  rcases r5 m hm with ⟨q1, q2, q3, q4, q5⟩ | ⟨q1, q2, q3, q4, q5, -⟩
  · rw [q1, q4]; rfl
  · rw [q1, ← q5]
    simp only [Option.bind_some]
    rw [if_neg (by decide), nI_clamp (by omega)]
theorem rAll.ct (r : rAll M b S o) (hw : w < 4) : rCt M b S o w := by
  obtain ⟨-, -, -, -, -, -, r7, r8, r9, r10⟩ := r
  rcases (show w = 0 ∨ w = 1 ∨ w = 2 ∨ w = 3 by omega) with rfl | rfl | rfl | rfl
  · exact r7
  · exact r8
  · exact r9
  · exact r10
end CT
theorem wc_bad {K L : Nat → Nat} {M : Mm} {a : Nat} {v u t : Int32} (h : ¬ ((0 ≤ u.toInt ∧ u.toInt ≤ 3) ∧ (0 ≤ t.toInt ∧ t.toInt ≤ 239))) : f_X12_whyCounts K L M a v u t = some (-3) := by
  unfold f_X12_whyCounts
  simp only [isPlace_eq, isWay_eq, isMinute_eq, Option.bind_some]
  by_cases h1 : 0 ≤ v.toInt ∧ v.toInt ≤ 15
  · rw [if_pos h1, if_neg (by decide)]
    by_cases h2 : 0 ≤ u.toInt ∧ u.toInt ≤ 3
    · rw [if_pos h2, if_neg (by decide), if_neg (fun h3 => h ⟨h2, h3⟩), if_pos rfl]
    · rw [if_neg h2, if_pos rfl]
  · rw [if_neg h1, if_pos rfl]
theorem wc_ok {K L : Nat → Nat} {M : Mm} {a : Nat} {v u t : Int32} (h1 : 0 ≤ u.toInt ∧ u.toInt ≤ 3) (h2 : 0 ≤ t.toInt ∧ t.toInt ≤ 239) : f_X12_whyCounts K L M a v u t = Option.bind (f_X12_why K L M a v 0) (fun x7 => if x7 = 0 then Option.bind (f_X12_of K L M a v (90 + u)) (fun x9 => if x9 = 0 then some (-2) else some 0) else some x7) := by
  unfold f_X12_whyCounts
  simp only [isPlace_eq, isWay_eq, isMinute_eq, Option.bind_some, if_pos h1, if_pos h2]
  by_cases h : 0 ≤ v.toInt ∧ v.toInt ≤ 15
  · rw [if_pos h, if_neg (by decide), if_neg (by decide)]
    rfl
  · rw [if_neg h, if_pos rfl, why_out h]
    rfl
theorem minute_eq (w m : Nat) : f_X12_minuteAt (nI w) (nI m) = some (nI (100 + 4 * (240 * w + m))) := by
  unfold f_X12_minuteAt
  rw [show (240 : Int32) = nI 240 from rfl, pk_mul, nI_add, show (4 : Int32) = nI 4 from rfl, pk_mul, show (100 : Int32) = nI 100 from rfl, nI_add]
