/-! small functions, refusals, places -/
theorem t_lt (x y : Int32) : x < y ↔ x.toInt < y.toInt := Int32.lt_iff_toInt_lt
theorem t_le (x y : Int32) : x ≤ y ↔ x.toInt ≤ y.toInt := Int32.le_iff_toInt_le
theorem t_eq (x y : Int32) : x = y ↔ x.toInt = y.toInt := Int32.toInt_inj.symm
theorem lgc_lt (x y : Int64) : lg_cmp x y < 0 ↔ x.toInt < y.toInt := by
  unfold lg_cmp
  simp only [gt_iff_lt, Int64.lt_iff_toInt_lt, ← Int64.toInt_inj]
  by_cases h : y.toInt < x.toInt
  · rw [if_pos h]; simp; omega
  · rw [if_neg h]
    by_cases h2 : x.toInt = y.toInt
    · rw [if_pos h2]; simp; omega
    · rw [if_neg h2]; simp; omega
theorem lgc_gt (x y : Int64) : 0 < lg_cmp x y ↔ y.toInt < x.toInt := by
  unfold lg_cmp
  simp only [gt_iff_lt, Int64.lt_iff_toInt_lt, ← Int64.toInt_inj]
  by_cases h : y.toInt < x.toInt
  · rw [if_pos h]; simp; omega
  · rw [if_neg h]
    by_cases h2 : x.toInt = y.toInt
    · rw [if_pos h2]; simp; omega
    · rw [if_neg h2]; simp; omega
/-- 1 where v lies in a .. b -/
theorem isIn_eq (v a b : Int64) : f_X12_isIn v a b = some (if a.toInt ≤ v.toInt ∧ v.toInt ≤ b.toInt then 1 else 0) := by
  unfold f_X12_isIn
  simp only [lgc_lt, lgc_gt]
  by_cases h : v.toInt < a.toInt
  · simp [h, show ¬ (a.toInt ≤ v.toInt ∧ v.toInt ≤ b.toInt) by omega]
  · by_cases h2 : b.toInt < v.toInt
    · simp [h, h2, show ¬ (a.toInt ≤ v.toInt ∧ v.toInt ≤ b.toInt) by omega]
    · simp [h, h2, show (a.toInt ≤ v.toInt ∧ v.toInt ≤ b.toInt) by omega]
theorem within_eq (v b : Int32) : f_X11_within v b = some (if 0 ≤ v.toInt ∧ v.toInt ≤ b.toInt then 1 else 0) := by
  unfold f_X11_within
  simp only [t_lt, show (0 : Int32).toInt = 0 from rfl]
  by_cases h : v.toInt < 0
  · simp [h, show ¬ (0 ≤ v.toInt ∧ v.toInt ≤ b.toInt) by omega]
  · by_cases h2 : b.toInt < v.toInt
    · simp [h, h2, show ¬ (0 ≤ v.toInt ∧ v.toInt ≤ b.toInt) by omega]
    · simp [h, h2, show (0 ≤ v.toInt ∧ v.toInt ≤ b.toInt) by omega]
theorem isPlace_eq (v : Int32) : f_X12_isPlace v = some (if 0 ≤ v.toInt ∧ v.toInt ≤ 15 then 1 else 0) := by
  unfold f_X12_isPlace
  simp only [t_lt, t_le, show (0 : Int32).toInt = 0 from rfl, show (16 : Int32).toInt = 16 from rfl]
  by_cases h : v.toInt < 0
  · simp [h, show ¬ (0 ≤ v.toInt ∧ v.toInt ≤ 15) by omega]
  · by_cases h2 : 16 ≤ v.toInt
    · simp [h, h2, show ¬ (0 ≤ v.toInt ∧ v.toInt ≤ 15) by omega]
    · simp [h, h2, show (0 ≤ v.toInt ∧ v.toInt ≤ 15) by omega]
theorem toI64 (v : Int32) : v.toInt64.toInt = v.toInt := by simp
theorem isRefusal_eq (v : Int32) : f_X11_isRefusal v = some (if -13 ≤ v.toInt ∧ v.toInt ≤ -2 then 1 else 0) := by
  unfold f_X11_isRefusal
  simp only [t_lt, t_le, show (-2 : Int32).toInt = -2 from rfl, show (-13 : Int32).toInt = -13 from rfl]
  by_cases h : -2 < v.toInt
  · simp [h, show ¬ (-13 ≤ v.toInt ∧ v.toInt ≤ -2) by omega]
  · by_cases h2 : v.toInt < -13
    · simp [h, h2, show ¬ (-13 ≤ v.toInt ∧ v.toInt ≤ -2) by omega]
    · simp [h, h2, show (-13 ≤ v.toInt ∧ v.toInt ≤ -2) by omega]
/-- a number in a range, as a Nat -/
theorem n_of {v : Int32} {m : Nat} (h0 : 0 ≤ v.toInt) (h1 : v.toInt ≤ m) (hm : m < 2 ^ 31) : ∃ k : Nat, k ≤ m ∧ v = nI k := by
  refine ⟨v.toInt.toNat, by omega, ?_⟩
  apply Int32.toInt_inj.mp
  rw [nI_toInt (by omega)]
  omega
theorem ng_toInt {k : Nat} (h1 : 2 ≤ k) (h2 : k ≤ 13) : (-(nI k)).toInt = -(k : Int) := by
  rcases (show k = 2 ∨ k = 3 ∨ k = 4 ∨ k = 5 ∨ k = 6 ∨ k = 7 ∨ k = 8 ∨ k = 9 ∨ k = 10 ∨ k = 11 ∨ k = 12 ∨ k = 13 by omega) with rfl | rfl | rfl | rfl | rfl | rfl | rfl | rfl | rfl | rfl | rfl | rfl <;> decide
theorem neg_of {v : Int32} (h0 : -13 ≤ v.toInt) (h1 : v.toInt ≤ -2) : ∃ k : Nat, 2 ≤ k ∧ k ≤ 13 ∧ v = -(nI k) ∧ -v = nI k := by
  have e : v = -(nI (-v.toInt).toNat) := by
    apply Int32.toInt_inj.mp
    rw [ng_toInt (by omega) (by omega)]
    omega
  exact ⟨(-v.toInt).toNat, by omega, by omega, e, by rw [e, Int32.neg_neg, ← e]⟩
theorem rx_ok {K L : Nat → Nat} {a c k m : Nat} (h1 : K a = c) (h2 : L a = m) (h3 : k < m) (h4 : m < 2 ^ 31) : rx K L (some a) c (nI k) = some a := by
  have h : ¬ (nI k < 0 ∨ L a ≤ (nI k).toNatClampNeg) := by
    rw [h2]
    exact nI_in h3 h4
  simp only [rx]
  rw [if_pos ⟨h1, h⟩]
def bump (M : Mm) (a k : Nat) : Mm := ms_A M a (upd (mm_A M a) k (mm_A M a k + 1))
theorem refuse_eq {B : Nat} {K L : Nat → Nat} {C : Nat → Nat → Option Nat} {M : Mm} (h : CS B K L (mm_R M) C) {k : Nat} (h1 : 2 ≤ k) (h2 : k ≤ 13) : f_X11_refuse K L B (-(nI k)) M = some (-(nI k), bump M (B + 43) k) := by
  have e1 := ng_toInt h1 h2
  unfold f_X11_refuse
  rw [isRefusal_eq, if_pos (by omega), Int32.neg_neg]
  have hr : mm_R M (32 * 11 + 5) B = some (B + 43) := h.1.2.2.2.2.2
  rw [hr]
  simp only [Option.bind_some, rx_ok h.2.2.2.2.2.1 h.2.2.2.2.2.2 (show k < 14 by omega) (by decide), bn_eq]
  rw [if_neg (by decide), nI_clamp (by omega)]
  rfl
theorem no_eq {B : Nat} {K L : Nat → Nat} {M : Mm} (h : MS B K L (mm_R M)) {k : Nat} (h2 : k ≤ 13) : f_X12_no K L (B + 44) (-(nI k)) M = some (-(nI k), bump M (B + 49) k) := by
  unfold f_X12_no
  have hr : mm_R M (32 * 12 + 5) (B + 44) = some (B + 49) := h.1.2.2.2.2.2.1
  rw [hr, Int32.neg_neg]
  simp only [Option.bind_some, rx_ok h.2.1.2.2.2.2.1 h.2.2.2.2.2.2.1 (show k < 14 by omega) (by decide), bn_eq]
  rw [nI_clamp (by omega)]
  rfl
/-- both refuse by one word -/
theorem iv_bump {B n : Nat} {K L : Nat → Nat} {M : Mm} (iv : Iv B n K L M) (k : Nat) : Iv B n K L (bump (bump M (B + 43) k) (B + 49) k) := by
  obtain ⟨g, c⟩ := iv
  obtain ⟨c1, c2, c3, c4, c5, c6, c7, c8⟩ := c
  have hA : ∀ a, a ≠ B + 43 → a ≠ B + 49 → eqAt M (bump (bump M (B + 43) k) (B + 49) k) a := fun a h1 h2 => (eqAt.A h1).tr (eqAt.A h2)
  refine ⟨g, ?_, ?_, ?_, ?_, ?_, c6, c7, ?_⟩
  · exact (Cd.places g (fun a h => hA a (by omega) (by omega)) (hA _ (by omega) (by omega)).2.2.2.1 (hA _ (by omega) (by omega)).2.2.2.1 rfl rfl ⟨c1, c2⟩).1
  · exact (Cd.places g (fun a h => hA a (by omega) (by omega)) (hA _ (by omega) (by omega)).2.2.2.1 (hA _ (by omega) (by omega)).2.2.2.1 rfl rfl ⟨c1, c2⟩).2
  · rw [(hA (B + 45) (by omega) (by omega)).2.2.2.1]; exact c3
  · rw [(hA (B + 46) (by omega) (by omega)).2.2.2.1]; exact c4
  · intro i hi
    have e1 : mm_A (bump (bump M (B + 43) k) (B + 49) k) (B + 43) = upd (mm_A M (B + 43)) k (mm_A M (B + 43) k + 1) := by simp [bump, A_A]
    have e2 : mm_A (bump (bump M (B + 43) k) (B + 49) k) (B + 49) = upd (mm_A M (B + 49)) k (mm_A M (B + 49) k + 1) := by simp [bump, A_A]
    rw [e1, e2]
    by_cases hk : i = k
    · subst hk
      rw [upd_eq, upd_eq, if_pos rfl, if_pos rfl, c5 i hi]
    · rw [upd_eq, upd_eq, if_neg hk, if_neg hk, c5 i hi]
  · obtain ⟨z, z1, z2, z3, z4⟩ := c8
    exact ⟨z, z1, z2, z3, fun i hi => by rw [(hA (B + 42) (by omega) (by omega)).2.2.2.1, (hA (B + 50) (by omega) (by omega)).2.2.2.1]; exact z4 i hi⟩
/-- a refusal's end, as the steps ask for it -/
theorem both_no {B n : Nat} {K L : Nat → Nat} {M : Mm} (iv : Iv B n K L M) {k : Nat} (h1 : 2 ≤ k) (h2 : k ≤ 13) : f_X11_refuse K L B (-(nI k)) M = some (-(nI k), bump M (B + 43) k) ∧ f_X12_no K L (B + 44) (-(nI k)) (bump M (B + 43) k) = some (-(nI k), bump (bump M (B + 43) k) (B + 49) k) ∧ Iv B n K L (bump (bump M (B + 43) k) (B + 49) k) :=
  ⟨refuse_eq iv.1.2.1 h1 h2, no_eq (M := bump M (B + 43) k) iv.1.1 h2, iv_bump iv k⟩
theorem bind_eta (x : Option (Int32 × Mm)) : Option.bind x (fun x => some (x.1, x.2)) = x := by cases x <;> rfl
/-- a step in which both refuse by one word -/
theorem fin_no {B n : Nat} {K L : Nat → Nat} {M : Mm} (iv : Iv B n K L M) (k : Nat) (h1 : 2 ≤ k) (h2 : k ≤ 13) {F1 : Option (Int32 × Mm)} {F2 : Mm → Option (Int32 × Mm)} (e1 : F1 = f_X11_refuse K L B (-(nI k)) M) (e2 : F2 (bump M (B + 43) k) = f_X12_no K L (B + 44) (-(nI k)) (bump M (B + 43) k)) : ∃ x1 x2, F1 = some x1 ∧ F2 x1.2 = some x2 ∧ x1.1 = x2.1 ∧ Iv B n K L x2.2 := by
  obtain ⟨a1, a2, a3⟩ := both_no iv h1 h2
  exact ⟨_, (-(nI k), bump (bump M (B + 43) k) (B + 49) k), e1.trans a1, e2.trans a2, rfl, a3⟩
/-- status -/
theorem st_38 (fu : Nat) : so_38 Iv fu := by
  intro B n K L M w1 iv
  by_cases h : -13 ≤ w1.toInt ∧ w1.toInt ≤ -2
  · obtain ⟨k, k1, k2, rfl, k4⟩ := neg_of h.1 h.2
    have hr : mm_R M (32 * 11 + 5) B = some (B + 43) := iv.1.2.1.1.2.2.2.2.2
    have hr2 : mm_R M (32 * 12 + 5) (B + 44) = some (B + 49) := iv.1.1.1.2.2.2.2.2.1
    refine ⟨(mm_A M (B + 43) k, M), (mm_A M (B + 49) k, M), ?_, ?_, iv.2.2.2.2.2.1 k (by omega), iv⟩
    · unfold f_X11_status
      rw [isRefusal_eq, if_pos h, hr, Int32.neg_neg]
      simp only [Option.bind_some, rx_ok iv.1.2.1.2.2.2.2.2.1 iv.1.2.1.2.2.2.2.2.2 (show k < 14 by omega) (by decide)]
      rw [if_neg (by decide), nI_clamp (by omega)]
    · unfold f_X12_status
      rw [isIn_eq, toI64, show (-13 : Int64).toInt = -13 from rfl, show (-2 : Int64).toInt = -2 from rfl, if_pos h, hr2, Int32.neg_neg]
      simp only [Option.bind_some, rx_ok iv.1.1.2.1.2.2.2.2.1 iv.1.1.2.2.2.2.2.2.1 (show k < 14 by omega) (by decide)]
      rw [if_neg (by decide), nI_clamp (by omega)]
  · refine fin_no iv 12 (by decide) (by decide) (F2 := fun m => f_X12_status K L (B + 44) w1 m) ?_ ?_
    · unfold f_X11_status
      rw [isRefusal_eq, if_neg h]
      exact bind_eta _
    · unfold f_X12_status
      rw [isIn_eq, toI64, show (-13 : Int64).toInt = -13 from rfl, show (-2 : Int64).toInt = -2 from rfl, if_neg h]
      exact bind_eta _
