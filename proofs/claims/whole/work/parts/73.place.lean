/-! the reference's cells; what a place holds, on both sides -/
section MO
variable {B : Nat} {K L : Nat → Nat} {M : Mm} {p : Nat}
theorem ix_eq {p k : Nat} {c : Int32} (hc : c = nI k) : (3940 : Int32) * nI p + c = nI (3940 * p + k) := by
  rw [hc, show (3940 : Int32) = nI 3940 from rfl, pk_mul, nI_add]
theorem m_of (h : MS B K L (mm_R M)) (hp : p < 16) {c : Int32} (k : Nat) (hc : c = nI k) (hk : k < 3940) : f_X12_of K L M (B + 44) (nI p) c = some (mm_A M (B + 45) (3940 * p + k)) := by
  unfold f_X12_of
  have hr : mm_R M (32 * 12 + 0) (B + 44) = some (B + 45) := h.1.2.1
  rw [hr, ix_eq hc, rx_ok h.2.1.1 h.2.2.1 (show 3940 * p + k < 63040 by omega) (by decide)]
  simp only [Option.bind_some]
  rw [nI_clamp (by omega)]
theorem m_to (h : MS B K L (mm_R M)) (hp : p < 16) {c v : Int32} (k : Nat) (hc : c = nI k) (hk : k < 3940) : f_X12_to K L (B + 44) (nI p) c v M = some (ms_A M (B + 45) (upd (mm_A M (B + 45)) (3940 * p + k) v)) := by
  unfold f_X12_to
  have hr : mm_R M (32 * 12 + 0) (B + 44) = some (B + 45) := h.1.2.1
  rw [hr, ix_eq hc, rx_ok h.2.1.1 h.2.2.1 (show 3940 * p + k < 63040 by omega) (by decide)]
  simp only [Option.bind_some, bn_eq]
  rw [nI_clamp (by omega)]
theorem m_of0 (h : MS B K L (mm_R M)) (hp : p < 16) : f_X12_of K L M (B + 44) (nI p) 0 = some (mm_A M (B + 45) (3940 * p)) := m_of h hp 0 rfl (by decide)
end MO
/-- why a place that holds hh is refused to a call of a kind: 0 not at all -/
def wy (hh kind : Nat) : Int32 := if hh = 0 then -2 else if (kind = 0 ∧ hh ≤ 5) ∨ (kind = 1 ∧ (hh = 2 ∨ hh = 3)) ∨ (kind = 2 ∧ (hh = 4 ∨ hh = 5)) ∨ (kind = 3 ∧ hh = 3) ∨ (kind = 4 ∧ hh = 5) then 0 else -5
theorem pl_t {p : Nat} (hp : p < 16) : 0 ≤ (nI p).toInt ∧ (nI p).toInt ≤ 15 := by rw [nI_toInt (by omega)]; omega
theorem six {hh : Nat} (h : hh ≤ 6) : hh = 0 ∨ hh = 1 ∨ hh = 2 ∨ hh = 3 ∨ hh = 4 ∨ hh = 5 ∨ hh = 6 := by omega
set_option maxHeartbeats 4000000 in
theorem why_eq {B : Nat} {K L : Nat → Nat} {M : Mm} {p hh kind : Nat} (h : MS B K L (mm_R M)) (hp : p < 16) (h6 : hh ≤ 6) (hS : mm_A M (B + 45) (3940 * p) = nI hh) (hk : kind ≤ 4) : f_X12_why K L M (B + 44) (nI p) (nI kind) = some (wy hh kind) := by
  unfold f_X12_why
  rw [isPlace_eq, if_pos (pl_t hp)]
  simp only [Option.bind_some, m_of0 h hp, hS, f_X12_isSwitch, f_X12_isStepped, f_X12_hangs, f_X12_why_84, f_X12_why_76]
  rcases six h6 with rfl | rfl | rfl | rfl | rfl | rfl | rfl <;> rcases (show kind = 0 ∨ kind = 1 ∨ kind = 2 ∨ kind = 3 ∨ kind = 4 by omega) with rfl | rfl | rfl | rfl | rfl <;> decide
theorem why_out {K L : Nat → Nat} {M : Mm} {a : Nat} {v c : Int32} (hv : ¬ (0 ≤ v.toInt ∧ v.toInt ≤ 15)) : f_X12_why K L M a v c = some (-3) := by
  unfold f_X12_why
  rw [isPlace_eq, if_neg hv]
  rfl
theorem rc_ok {K : Nat → Nat} {a c : Nat} (h : K a = c) : rc K (some a) c = some a := rc_self h
section CF
variable {B n : Nat} {K L : Nat → Nat} {M : Mm} {p : Nat}
theorem placeAt_in (h : CS B K L (mm_R M) (mm_C M)) (hp : p < 16) : f_X8_placeAt K L M (B + 1) (nI p) = some (some (B + 3 + p)) := by
  unfold f_X8_placeAt
  have hr : mm_R M (32 * 8 + 0) (B + 1) = some (B + 2) := h.2.1.2.1
  rw [within_eq, show (15 : Int32).toInt = 15 from rfl, if_pos (pl_t hp), hr]
  simp only [Option.bind_some, rx_ok h.2.1.2.2.1 h.2.1.2.2.2.1 hp (by decide)]
  rw [if_neg (by decide), nI_clamp (by omega), (h.2.1.2.2.2.2 p hp).1]
theorem placeAt_out {a : Nat} {v : Int32} (hv : ¬ (0 ≤ v.toInt ∧ v.toInt ≤ 15)) : f_X8_placeAt K L M a v = some none := by
  unfold f_X8_placeAt
  rw [within_eq, show (15 : Int32).toInt = 15 from rfl, if_neg hv]
  rfl
theorem fault_out {a : Nat} {v c : Int32} (hv : ¬ (0 ≤ v.toInt ∧ v.toInt ≤ 15)) : f_X8_faultAt K L M a v c = some (-3) := by
  unfold f_X8_faultAt
  rw [placeAt_out hv]
  rfl
theorem switchAt_in (h : CS B K L (mm_R M) (mm_C M)) (hp : p < 16) : f_X8_switchAt K L M (B + 1) (nI p) = some (mm_R M 128 (B + 3 + p)) := by
  unfold f_X8_switchAt
  rw [placeAt_in h hp]
  simp only [Option.bind_some, rc_ok (h.2.1.2.2.2.2 p hp).2]
  rw [if_neg (by simp)]
/-- the class's kinds beside the reference's -/
def kb (kinds : Int32) (kind : Nat) : Prop := (kinds = 31 ∧ kind = 0) ∨ (kinds = 6 ∧ kind = 1) ∨ (kinds = 24 ∧ kind = 2) ∨ (kinds = 4 ∧ kind = 3) ∨ (kinds = 16 ∧ kind = 4)
set_option maxHeartbeats 4000000 in
theorem fault_in (iv : Iv B n K L M) (hp : p < 16) {kinds : Int32} {kind hh : Nat} (hk : kb kinds kind) (h6 : hh ≤ 6) (hS : mm_A M (B + 45) (3940 * p) = nI hh) : f_X8_faultAt K L M (B + 1) (nI p) kinds = some (wy hh kind) := by
  obtain ⟨g, c1, -⟩ := id iv
  obtain ⟨h', i1, i2, i3, i4, i5⟩ := c1 p hp
  have e : h' = hh := (nI_eq (by omega) (by omega)).mp (i2.symm.trans hS)
  subst e
  unfold f_X8_faultAt
  rw [placeAt_in g.2.1 hp]
  simp only [Option.bind_some, rc_ok (g.2.1.2.1.2.2.2.2 p hp).2, show (32 * 4 + 0 : Nat) = 128 from rfl, show (32 * 4 + 1 : Nat) = 129 from rfl, show (32 * 9 + 0 : Nat) = 288 from rfl]
  rw [if_neg (by simp)]
  by_cases h0 : h' = 0
  · rw [(i3 h0).1, (i3 h0).2]
    subst h0
    simp [wy]
  · by_cases h7 : h' = 6
    · rw [(i4 h7).1, (i4 h7).2.1]
      subst h7
      rw [if_pos rfl]
      rcases hk with ⟨rfl, rfl⟩ | ⟨rfl, rfl⟩ | ⟨rfl, rfl⟩ | ⟨rfl, rfl⟩ | ⟨rfl, rfl⟩ <;> decide
    · obtain ⟨j1, j2, b, j3, j4, j5⟩ := i5 (by omega) (by omega)
      have hb := (g.blk (q := p) (by omega) (by rw [qA_lo hp]; exact j4)).2.2
      rw [j3, if_neg (by simp)]
      simp only [rc_ok hb.1.1, Option.bind_some]
      rw [j5.1.1, i2]
      rcases six h6 with rfl | rfl | rfl | rfl | rfl | rfl | rfl <;> first | (exact absurd rfl h0) | (exact absurd rfl h7) | (rcases hk with ⟨rfl, rfl⟩ | ⟨rfl, rfl⟩ | ⟨rfl, rfl⟩ | ⟨rfl, rfl⟩ | ⟨rfl, rfl⟩ <;> decide)
end CF
