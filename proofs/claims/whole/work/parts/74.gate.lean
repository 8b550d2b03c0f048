/-! the gate of most calls: a place of a kind, or one refusal on both sides -/
def sameS (B : Nat) (M M' : Mm) : Prop := mm_R M' = mm_R M ∧ mm_A M' (B + 45) = mm_A M (B + 45)
theorem sameS_bump {B k : Nat} {M : Mm} : sameS B M (bump M (B + 43) k) := ⟨rfl, by simp [bump, A_A]⟩
theorem wy_neg {hh kind : Nat} (h : ¬ wy hh kind = 0) : ∃ k, 2 ≤ k ∧ k ≤ 13 ∧ wy hh kind = -(nI k) := by
  unfold wy at h ⊢
  split
  · exact ⟨2, by decide, by decide, rfl⟩
  · split
    · rename_i h1 h2
      rw [if_neg h1, if_pos h2] at h
      exact absurd rfl h
    · exact ⟨5, by decide, by decide, rfl⟩
def okk (hh kind : Nat) : Prop := 1 ≤ hh ∧ hh ≤ 5 ∧ (kind = 0 ∨ (kind = 1 ∧ (hh = 2 ∨ hh = 3)) ∨ (kind = 2 ∧ (hh = 4 ∨ hh = 5)) ∨ (kind = 3 ∧ hh = 3) ∨ (kind = 4 ∧ hh = 5))
theorem wy_ok {hh kind : Nat} (h : wy hh kind = 0) (h6 : hh ≤ 6) (hk : kind ≤ 4) : okk hh kind := by
  rcases six h6 with rfl | rfl | rfl | rfl | rfl | rfl | rfl <;> rcases (show kind = 0 ∨ kind = 1 ∨ kind = 2 ∨ kind = 3 ∨ kind = 4 by omega) with rfl | rfl | rfl | rfl | rfl <;> first | (exact absurd h (by decide)) | (unfold okk; omega)
theorem kb_le {kinds : Int32} {kind : Nat} (h : kb kinds kind) : kind ≤ 4 := by unfold kb at h; omega
/-- what is known of a switch that a call takes -/
def Got (B : Nat) (K L : Nat → Nat) (M : Mm) (p b hh : Nat) : Prop := p < 16 ∧ 1 ≤ hh ∧ hh ≤ 5 ∧ mm_A M (B + 45) (3940 * p) = nI hh ∧ mm_R M 128 (B + 3 + p) = some b ∧ mm_R M 131 (B + 3 + p) = some b ∧ mm_I M 129 (B + 3 + p) = 0 ∧ B + 55 ≤ b ∧ BS K L (mm_R M) (mm_C M) b ∧ rOk (mm_A M (B + 45)) (3940 * p) ∧ rAll M b (mm_A M (B + 45)) (3940 * p)
section GA
variable {B n : Nat} {K L : Nat → Nat} {M : Mm}
theorem got_of (iv : Iv B n K L M) {p hh : Nat} (hp : p < 16) (h1 : 1 ≤ hh) (h5 : hh ≤ 5) (hS : mm_A M (B + 45) (3940 * p) = nI hh) : ∃ b, Got B K L M p b hh := by
  obtain ⟨g, c1, -⟩ := id iv
  obtain ⟨h', i1, i2, -, -, i5⟩ := c1 p hp
  have e : h' = hh := (nI_eq (by omega) (by omega)).mp (i2.symm.trans hS)
  subst e
  obtain ⟨j1, j2, b, j3, j4, j5⟩ := i5 h1 h5
  have hb := g.blk (q := p) (by omega) (by rw [qA_lo hp]; exact j4)
  exact ⟨b, hp, h1, h5, hS, j3, j4, j1, hb.1, hb.2.2, j2, j5⟩
theorem gate (iv : Iv B n K L M) (v : Int32) {kinds : Int32} {kind : Nat} (hk : kb kinds kind) :
    (∃ k, 2 ≤ k ∧ k ≤ 13 ∧ f_X8_find K L M (B + 1) v kinds = some none ∧ f_X11_refuseAt K L B v kinds M = f_X11_refuse K L B (-(nI k)) M ∧ ∀ M', sameS B M M' → f_X12_why K L M' (B + 44) v (nI kind) = some (-(nI k))) ∨
    (∃ p b hh, v = nI p ∧ okk hh kind ∧ Got B K L M p b hh ∧ f_X8_find K L M (B + 1) v kinds = some (some b) ∧ ∀ M', sameS B M M' → f_X12_why K L M' (B + 44) v (nI kind) = some 0) := by
  obtain ⟨g, c1, -⟩ := id iv
  have hr : mm_R M (32 * 11 + 0) B = some (B + 1) := g.2.1.1.2.1
  by_cases hv : 0 ≤ v.toInt ∧ v.toInt ≤ 15
  · obtain ⟨p, hp, rfl⟩ := n_of (v := v) (m := 15) hv.1 hv.2 (by decide)
    have hp : p < 16 := by omega
    obtain ⟨hh, i1, i2, -, -, -⟩ := c1 p hp
    have hf := fault_in iv hp hk i1 i2
    have hw : ∀ M', sameS B M M' → f_X12_why K L M' (B + 44) (nI p) (nI kind) = some (wy hh kind) := fun M' s => why_eq (by rw [s.1]; exact g.1) hp i1 (by rw [s.2]; exact i2) (kb_le hk)
    by_cases h0 : wy hh kind = 0
    · right
      have ok := wy_ok h0 i1 (kb_le hk)
      obtain ⟨b, gb⟩ := got_of iv hp ok.1 ok.2.1 i2
      refine ⟨p, b, hh, rfl, ok, gb, ?_, fun M' s => by rw [hw M' s, h0]⟩
      unfold f_X8_find
      rw [hf, h0]
      simp only [Option.bind_some, switchAt_in g.2.1 hp, gb.2.2.2.2.1]
      rfl
    · left
      obtain ⟨k, k1, k2, k3⟩ := wy_neg h0
      refine ⟨k, k1, k2, ?_, ?_, fun M' s => by rw [hw M' s, k3]⟩
      · unfold f_X8_find
        rw [hf]
        simp only [Option.bind_some]
        rw [if_neg h0]
      · unfold f_X11_refuseAt
        rw [hr]
        simp only [Option.bind_some, rc_ok g.2.1.2.1.1, hf, k3]
        exact bind_eta _
  · left
    refine ⟨3, by decide, by decide, ?_, ?_, fun M' _ => why_out hv⟩
    · unfold f_X8_find
      rw [fault_out hv]
      rfl
    · unfold f_X11_refuseAt
      rw [hr]
      simp only [Option.bind_some, rc_ok g.2.1.2.1.1, fault_out hv]
      exact bind_eta _
theorem shelf_at (iv : Iv B n K L M) : mm_R M (32 * 11 + 0) B = some (B + 1) ∧ rc K (some (B + 1)) 8 = some (B + 1) := ⟨iv.1.2.1.1.2.1, rc_ok iv.1.2.1.2.1.1⟩
end GA
