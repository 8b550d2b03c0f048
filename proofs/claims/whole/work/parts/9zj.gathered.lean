/-! rings: gathered -/
theorem gather_eq {B n : Nat} {K L : Nat → Nat} {fu : Nat} {S : Nat → Int32} {N : Mm} (c : Cw B n K L S N) (hfu : 1000 ≤ fu) : ∃ N' k, f_X5_gatherAsks K L fu (B + 39) (some (B + 1)) N = some N' ∧ scr B N N' ∧ mkR B N' k ∧ ∀ p q, p < 16 → q < 16 → (k p / 2 ^ q % 2 = 1 ↔ asksS S p q) := by
  have h39 := c.1.2.1.2.2.2.2.1
  have sc : scr B N (ms_A N (B + 40) (fun j => if j < 16 then 0 else mm_A N (B + 40) j)) := scr.Aa (by omega)
  obtain ⟨N', k, r1, r2, r3, r4⟩ := ga_loop (fu := fu) (n := n) (K := K) (L := L) (B := B) (S := S) hfu 16 fu 0 (ms_A N (B + 40) (fun j => if j < 16 then 0 else mm_A N (B + 40) j)) (fun _ => 0) (c.scr sc) (fun p hp => by
    rw [A_A, if_pos rfl, if_pos hp]
    exact ⟨rfl, show 0 < 65536 by omega⟩) (fun p q hp hq => by
    rw [Nat.zero_div]
    constructor
    · intro y; omega
    · rintro (y | ⟨t, y, -⟩) <;> omega) (by omega) (by omega)
  refine ⟨N', k, ?_, sc.tr r2, r3, r4⟩
  unfold f_X5_gatherAsks
  rw [show mm_R N (32 * 5 + 0) (B + 39) = some (B + 40) from h39.2.1, fill_eq h39.2.2.2.2.1 h39.2.2.2.2.2.1 (by decide) (by omega)]
  exact (sb rfl _).trans r1
