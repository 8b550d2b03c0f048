/-! count: back if spent -/
def zz (S : Nat → Int32) (o k z : Nat) : Nat := if S (o + 74) = 0 ∧ ¬ k = 0 then z - 1 else 0
def spM (M : Mm) (b mi z : Nat) (s : Int32) : Mm := ms_I (ms_I (stM M b (nI z - 1) s) 5 (b + 11) (nI mi + mm_I M 4 (b + 11) + 1)) 6 (b + 11) (mm_I M 6 (b + 11) + 1)
def spS (S : Nat → Int32) (o mi z : Nat) (s : Int32) : Nat → Int32 := upd (upd (upd (upd S (o + 69) (nI z - 1)) (o + 37) s) (o + 75) (nI mi + S (o + 73) + 1)) (o + 76) (S (o + 76) + 1)
theorem spM_e {M : Mm} {b a mi z : Nat} {s : Int32} (h7 : a ≠ b + 7) (h8 : a ≠ b + 8) (h9 : a ≠ b + 9) (h11 : a ≠ b + 11) : eqAt M (spM M b mi z s) a := ((stM_e h7 h8 h9).tr (eqAt.I h11)).tr (eqAt.I h11)
theorem spS_o {S : Nat → Int32} {o mi z i : Nat} {s : Int32} (h1 : i ≠ o + 69) (h2 : i ≠ o + 37) (h3 : i ≠ o + 75) (h4 : i ≠ o + 76) : spS S o mi z s i = S i := by
  unfold spS
  rw [upd_eq, if_neg h4, upd_eq, if_neg h3, upd_eq, if_neg h2, upd_eq, if_neg h1]
theorem rAll_spent {M : Mm} {b o mi z : Nat} {S : Nat → Int32} {s : Int32} (r : rAll M b S o) (hz : z ≤ 20) (hk : ∀ k : Nat, k ≤ 20 → S (o + 48) = nI k → (0 < k → z ≤ k)) (hs : ∃ v : Nat, v ≤ 10000 ∧ s = nI v) : rAll (spM M b mi z s) b (spS S o mi z s) o := by
  have r1 := rAll_stand r hz hk hs
  have hb := r.2.2.2.2.1
  refine but_Bu (fun c _ _ h3 => (eqAt.I h3).tr (eqAt.I h3)) (fun j h1 h2 => by unfold spS; rw [upd_eq, if_neg (by omega), upd_eq, if_neg (by omega)]) r1 ?_
  obtain ⟨b0, b1, b2, b3, b4, b5, b6, b7, b8, b9, b10, b11⟩ := hb
  have e : ∀ j, 70 ≤ j → j ≤ 74 → spS S o mi z s (o + j) = S (o + j) := fun j h1 h2 => spS_o (by omega) (by omega) (by omega) (by omega)
  have e75 : spS S o mi z s (o + 75) = nI mi + S (o + 73) + 1 := by unfold spS; rw [upd_eq, if_neg (by omega), upd_eq, if_pos rfl]
  have e76 : spS S o mi z s (o + 76) = S (o + 76) + 1 := by unfold spS; rw [upd_eq, if_pos rfl]
  have i : ∀ x, x ≠ 5 → x ≠ 6 → mm_I (spM M b mi z s) x (b + 11) = mm_I M x (b + 11) := by
    intro x h1 h2
    unfold spM stM
    rw [I_I, if_neg (by omega), I_I, if_neg (by omega), I_A, I_A, I_I, if_neg (by omega)]
  have i5 : mm_I (spM M b mi z s) 5 (b + 11) = nI mi + mm_I M 4 (b + 11) + 1 := by
    unfold spM stM
    rw [I_I, if_neg (by omega), I_I, if_pos ⟨rfl, rfl⟩]
  have i6 : mm_I (spM M b mi z s) 6 (b + 11) = mm_I M 6 (b + 11) + 1 := by
    unfold spM stM
    rw [I_I, if_pos ⟨rfl, rfl⟩]
  unfold rBu
  rw [e 70 (by decide) (by decide), e 71 (by decide) (by decide), e 72 (by decide) (by decide), e 73 (by decide) (by decide), e 74 (by decide) (by decide), e75, e76, i 0 (by decide) (by decide), i 1 (by decide) (by decide), i 2 (by decide) (by decide), i 3 (by decide) (by decide), i 4 (by decide) (by decide), i5, i6, b4, b6]
  exact ⟨b0, b1, b2, b3, rfl, rfl, rfl, b7, b8, b9, b10, b11⟩
section GB
variable {B n : Nat} {K L : Nat → Nat} {M : Mm} {fu p b hh m win o k z : Nat} {S : Nat → Int32}
theorem goBack_eq (h : BS K L (mm_R M) (mm_C M) b) (r : rAll M b S o) (hw : S (o + 70) = nI win) (h1 : 1 ≤ win) (h2 : win ≤ 60) (hm : m < 240) (hfu : 1000 ≤ fu) (l1 : k ≤ 20) (l2 : z ≤ 20) (l6 : mm_I M 97 (b + 9) = if k = 0 then -1 else nI k) (l7 : mm_I M 98 (b + 9) = nI z - 1) : f_X9_goBackIfSpent K L fu b (nI m) M = some (if ¬ z = 0 ∧ vd S o m win = -10 then spM M b m (zz S o k z) (if 1 ≤ zz S o k z ∧ zz S o k z ≤ k then mm_A M (b + 10) (zz S o k z - 1) else 0) else M) := by
  have hc1 : rc K (some b) 9 = some b := rc_ok h.1.1
  have hr9 : mm_R M (32 * 9 + 9) b = some (b + 9) := h.1.2.2.2.1
  have hc9 : rc K (some (b + 9)) 3 = some (b + 9) := rc_ok h.2.2.2.1.1
  have hr10 : mm_R M (32 * 9 + 10) b = some (b + 11) := h.1.2.2.2.2.1
  have hc10 : rc K (some (b + 11)) 0 = some (b + 11) := rc_ok h.2.2.2.2.1
  have hct := r.ct (w := 1) (by decide)
  have hbu := r.2.2.2.2.1
  have key : ∀ y : Nat, y ≤ 20 → f_X9_goBackIfSpent_73 K L fu b (nI m) (nI y - 1) (some b) M = some (spM M b m y (if 1 ≤ y ∧ y ≤ k then mm_A M (b + 10) (y - 1) else 0)) := by
    intro y hy
    unfold f_X9_goBackIfSpent_73
    rw [hc1]
    simp only [Option.bind_some]
    rw [stand_eq h l6 l1 (z := y) (by omega)]
    simp only [Option.bind_some]
    rw [show mm_R (stM M b (nI y - 1) (if 1 ≤ y ∧ y ≤ k then mm_A M (b + 10) (y - 1) else 0)) (32 * 9 + 10) b = some (b + 11) from hr10, hc10]
    simp only [Option.bind_some, f_X0_noteSpent, bn_eq]
    unfold spM stM
    simp only [I_I, I_A]
    rfl
  unfold f_X9_goBackIfSpent
  simp only [hr9, hc9, Option.bind_some, stood_eq l7 l2, hr10, hc10, show f_X9_rowOf K L M b 1 = _ from rowOf_eq h (w := 1) (by decide) hct, fault_eq h hct hbu hw h1 h2 hm hfu, hasRow_eq l6 l1]
  by_cases q : z = 0
  · rw [if_pos q, if_pos rfl, if_neg (fun x => x.1 q)]
  · rw [if_neg q, if_neg (by decide)]
    by_cases v : vd S o m win = -10
    · rw [if_pos v, if_pos (show ¬ z = 0 ∧ vd S o m win = -10 from ⟨q, v⟩), show mm_I M (32 * 0 + 3) (b + 11) = S (o + 74) from hbu.2.2.2.1]
      unfold f_X9_goBackIfSpent_49 f_X9_goBackIfSpent_54 zz
      simp only [hr9, hc9, Option.bind_some, show mm_I M (32 * 3 + 2) (b + 9) = _ from l7]
      by_cases t : S (o + 74) = 0
      · rw [if_pos t]
        by_cases k0 : k = 0
        · rw [if_pos k0, if_pos rfl, if_neg (by decide), if_neg (fun x => x.2 k0)]
          exact key 0 (by decide)
        · rw [if_neg k0, if_neg (by decide), if_pos trivial, if_pos ⟨t, k0⟩, z_pred (by omega)]
          exact key (z - 1) (by omega)
      · rw [if_neg t, if_neg (by decide), if_neg (fun x => t x.1)]
        exact key 0 (by decide)
    · rw [if_neg v, if_neg (fun x => v x.2)]
theorem step_eq (h : MS B K L (mm_R M)) (hp : p < 16) (h6 : hh ≤ 6) (hS : mm_A M (B + 45) (3940 * p) = nI hh) : f_X12_isStepped K L M (B + 44) (nI p) = some (if hh = 2 ∨ hh = 3 then 1 else 0) := by
  unfold f_X12_isStepped
  simp only [m_of0 h hp, hS, Option.bind_some]
  rcases six h6 with rfl | rfl | rfl | rfl | rfl | rfl | rfl <;> decide
theorem spent_ref (hM : MS B K L (mm_R M)) (hp : p < 16) (hS : mm_A M (B + 45) = S) (hz : z ≤ 20) : f_X12_count_168 K L fu (B + 44) (nI p) (nI m) (nI z - 1) (nI p) (some (B + 44)) M = some ((if 1 ≤ z then S (3940 * p + 49 + (z - 1)) else 0), ms_A M (B + 45) (spS S (3940 * p) m z (if 1 ≤ z then S (3940 * p + 49 + (z - 1)) else 0))) := by
  have h44 : rc K (some (B + 44)) 12 = some (B + 44) := rc_ok hM.1.1
  have e37 : ∀ (T : Nat → Int32), MS B K L (mm_R (ms_A M (B + 45) T)) := fun _ => hM
  unfold f_X12_count_168
  rw [h44]
  simp only [Option.bind_some]
  rw [goesTo_eq hM hp hz, hS]
  generalize hs : (if 1 ≤ z then S (3940 * p + 49 + (z - 1)) else 0) = s
  rw [mp_0 M, mp_m, hS]
  simp only [Option.bind_some]
  rw [m_of (c := 73) (e37 _) hp 73 rfl (by decide), A_A, if_pos rfl]
  simp only [Option.bind_some]
  rw [m_to' (c := 75) (e37 _) hp 75 rfl (by decide), mp_m]
  simp only [Option.bind_some]
  rw [m_of (c := 76) (e37 _) hp 76 rfl (by decide), A_A, if_pos rfl]
  simp only [Option.bind_some]
  rw [m_to' (c := 76) (e37 _) hp 76 rfl (by decide), mp_m]
  simp only [Option.bind_some, f_X12_count_205]
  rw [m_of (c := 37) (e37 _) hp 37 rfl (by decide), A_A, if_pos rfl]
  simp only [Option.bind_some]
  have q73 : upd (upd S (3940 * p + 69) (nI z - 1)) (3940 * p + 37) s (3940 * p + 73) = S (3940 * p + 73) := by rw [upd_eq, if_neg (by omega), upd_eq, if_neg (by omega)]
  have q76 : ∀ v, upd (upd (upd S (3940 * p + 69) (nI z - 1)) (3940 * p + 37) s) (3940 * p + 75) v (3940 * p + 76) = S (3940 * p + 76) := by
    intro v
    rw [upd_eq, if_neg (by omega), upd_eq, if_neg (by omega), upd_eq, if_neg (by omega)]
  rw [q73, q76]
  have q37 : ∀ v v', upd (upd (upd (upd S (3940 * p + 69) (nI z - 1)) (3940 * p + 37) s) (3940 * p + 75) v) (3940 * p + 76) v' (3940 * p + 37) = s := by
    intro v v'
    rw [upd_eq, if_neg (by omega), upd_eq, if_neg (by omega), upd_eq, if_pos rfl]
  rw [q37]
  rfl
end GB
