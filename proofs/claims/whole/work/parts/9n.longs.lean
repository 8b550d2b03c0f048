/-! longs of natural numbers; both ways of choosing -/
def qN (x : Nat) : Int64 := Int64.ofNat x
theorem qN_t {x : Nat} (h : x < 2 ^ 63) : (qN x).toInt = x := Int64.toInt_ofNat_of_lt h
theorem qN_mul (x y : Nat) : qN x * qN y = qN (x * y) := (Int64.ofNat_mul x y).symm
theorem qN_add (x y : Nat) : qN x + qN y = qN (x + y) := (Int64.ofNat_add x y).symm
theorem qN_sub {x y : Nat} (h : y ≤ x) : qN x - qN y = qN (x - y) := (Int64.ofNat_sub x y h).symm
theorem qN_div {x y : Nat} (hx : x < 2 ^ 63) (hy : y < 2 ^ 63) : qN x / qN y = qN (x / y) := by
  apply Int64.toInt_inj.mp
  have hne : qN x ≠ Int64.minValue := by
    intro e
    have := congrArg Int64.toInt e
    rw [qN_t hx, show Int64.minValue.toInt = -9223372036854775808 from rfl] at this
    omega
  have hq : x / y ≤ x := Nat.div_le_self x y
  rw [Int64.toInt_div_of_ne_left _ _ hne, qN_t hx, qN_t hy, qN_t (by omega)]
  exact (Int.ofNat_tdiv x y).symm
theorem qN_mod {x y : Nat} (hx : x < 2 ^ 63) (hy : y < 2 ^ 63) : qN x - qN x / qN y * qN y = qN (x % y) := by
  have h1 : x / y * y ≤ x := Nat.div_mul_le_self x y
  rw [qN_div hx hy, qN_mul, qN_sub h1]
  congr 1
  have := Nat.div_add_mod x y
  rw [Nat.mul_comm] at this
  omega
theorem nI_q {k : Nat} (h : k < 2 ^ 31) : (nI k).toInt64 = qN k := by
  apply Int64.toInt_inj.mp
  rw [toI64, nI_toInt h, qN_t (by omega)]
theorem nI_m {k i : Nat} (h : i ≤ k) (_ : k < 2 ^ 31) : nI k - nI i = nI (k - i) := pk_sub h
theorem nzl_ok {x : Nat} (h0 : 0 < x) (h : x < 2 ^ 63) : nzl (qN x) = some () := by
  unfold nzl
  rw [if_neg]
  intro e
  have := congrArg Int64.toInt e
  rw [qN_t h, show (0 : Int64).toInt = 0 from rfl] at this
  omega
section CH
variable {fu n k : Nat}
theorem bi_pr {i : Nat} (hn : n ≤ 60) (hi : i < n) : bi n i * (n - i) < 2 ^ 63 ∧ bi n i * (n - i) / (i + 1) = bi n (i + 1) := by
  have h1 := bi_le hn i
  have h2 : bi n i * (n - i) ≤ 118264581564861424 * 60 := Nat.mul_le_mul h1 (by omega)
  refine ⟨by omega, ?_⟩
  rw [← bi_step]
  exact Nat.mul_div_cancel _ (by omega)
theorem choose_loop (hn : n ≤ 60) (hk : k ≤ n) : ∀ (d g i : Nat), i + d = k → d < g → f_X10_choose_5 fu g (nI n) (nI k) (qN (bi n i)) (nI (i + 1)) = some (qN (bi n k)) := by
  intro d
  induction d with
  | zero =>
    intro g i h1 h2
    obtain ⟨g, rfl⟩ : ∃ g', g = g' + 1 := ⟨g - 1, by omega⟩
    have : i = k := by omega
    subst this
    show f_X10_choose_5b fu (f_X10_choose_5 fu g) (nI n) (nI i) (qN (bi n i)) (nI (i + 1)) = _
    unfold f_X10_choose_5b
    rw [if_pos (show nI i < nI (i + 1) by rw [t_lt, nI_toInt (by omega), nI_toInt (by omega)]; omega)]
  | succ d ih =>
    intro g i h1 h2
    obtain ⟨g, rfl⟩ : ∃ g', g = g' + 1 := ⟨g - 1, by omega⟩
    obtain ⟨b1, b2⟩ := bi_pr hn (show i < n by omega)
    show f_X10_choose_5b fu (f_X10_choose_5 fu g) (nI n) (nI k) (qN (bi n i)) (nI (i + 1)) = _
    unfold f_X10_choose_5b
    rw [if_neg (show ¬ nI k < nI (i + 1) by rw [t_lt, nI_toInt (by omega), nI_toInt (by omega)]; omega), nI_q (show i + 1 < 2 ^ 31 by omega), nzl_ok (by omega) (by omega)]
    simp only [Option.bind_some, bn_eq]
    rw [nI_m (show i + 1 ≤ n by omega) (by omega), nI_1, nI_1, nI_q (show n - (i + 1) + 1 < 2 ^ 31 by omega), qN_mul, show n - (i + 1) + 1 = n - i by omega, qN_div b1 (by omega), b2]
    exact ih g (i + 1) (by omega) (by omega)
theorem choose_eq (hn : n ≤ 60) (hk : k ≤ n) (hfu : 1000 ≤ fu) : f_X10_choose fu (nI n) (nI k) = some (qN (bi n k)) := by
  have := choose_loop (fu := fu) hn hk k fu 0 (by omega) (by omega)
  rw [bi_0] at this
  exact this
theorem chosen_loop (hn : n ≤ 60) (hk : k ≤ n) : ∀ (d g i : Nat), i + d = (if n - k ≤ k then n - k else k) → d < g → f_X12_chosen_16 fu g (nI n) (nI k) (qN (bi n i)) (nI (i + 1)) = some (qN (bi n k)) := by
  have hm : (if n - k ≤ k then n - k else k) ≤ k ∧ (if n - k ≤ k then n - k else k) ≤ n := by split <;> omega
  have hb : bi n (if n - k ≤ k then n - k else k) = bi n k := by
    split
    · exact (bi_sym hk).symm
    · rfl
  have hle : nI n - nI k ≤ nI k ↔ n - k ≤ k := by rw [nI_m hk (by omega), t_le, nI_toInt (by omega), nI_toInt (by omega)]; omega
  have s0 : ∀ (k16 : Int32 → Int32 → Int64 → Int32 → Option Int64) (v2 : Int64) (v4 : Int32), f_X12_chosen_16b fu k16 (nI n) (nI k) v2 v4 = f_X12_chosen_32 fu k16 (nI n) (nI k) v2 v4 (nI (if n - k ≤ k then n - k else k)) v4 := by
    intro k16 v2 v4
    unfold f_X12_chosen_16b
    by_cases q : n - k ≤ k
    · rw [if_pos (hle.mpr q), if_pos q, nI_m hk (by omega)]
    · rw [if_neg (fun x => q (hle.mp x)), if_neg q]
  generalize (if n - k ≤ k then n - k else k) = j at *
  intro d
  induction d with
  | zero =>
    intro g i h1 h2
    obtain ⟨g, rfl⟩ : ∃ g', g = g' + 1 := ⟨g - 1, by omega⟩
    have : i = j := by omega
    subst this
    show f_X12_chosen_16b fu (f_X12_chosen_16 fu g) (nI n) (nI k) (qN (bi n i)) (nI (i + 1)) = _
    rw [s0]
    unfold f_X12_chosen_32
    rw [if_pos (show nI i < nI (i + 1) by rw [t_lt, nI_toInt (by omega), nI_toInt (by omega)]; omega), hb]
  | succ d ih =>
    intro g i h1 h2
    obtain ⟨g, rfl⟩ : ∃ g', g = g' + 1 := ⟨g - 1, by omega⟩
    obtain ⟨b1, b2⟩ := bi_pr hn (show i < n by omega)
    have b0 := bi_le hn i
    show f_X12_chosen_16b fu (f_X12_chosen_16 fu g) (nI n) (nI k) (qN (bi n i)) (nI (i + 1)) = _
    rw [s0]
    unfold f_X12_chosen_32
    rw [if_neg (show ¬ nI j < nI (i + 1) by rw [t_lt, nI_toInt (by omega), nI_toInt (by omega)]; omega), nI_q (show i + 1 < 2 ^ 31 by omega), nzl_ok (by omega) (by omega)]
    simp only [Option.bind_some, bn_eq]
    have hr : bi n i % (i + 1) * (n - i) ≤ bi n i * (n - i) := Nat.mul_le_mul_right _ (Nat.mod_le _ _)
    rw [nI_m (show i + 1 ≤ n by omega) (by omega), nI_1, nI_1, nI_q (show n - (i + 1) + 1 < 2 ^ 31 by omega), show n - (i + 1) + 1 = n - i by omega, qN_mod (by omega) (by omega), qN_mul, qN_div (by omega) (by omega), qN_div (by omega) (by omega), qN_mul, qN_add]
    have e : bi n i / (i + 1) * (n - i) + bi n i % (i + 1) * (n - i) / (i + 1) = bi n (i + 1) := by
      rw [← b2]
      have h3 := Nat.div_add_mod (bi n i) (i + 1)
      generalize bi n i / (i + 1) = q at *
      generalize bi n i % (i + 1) = r at *
      rw [← h3, Nat.add_mul, Nat.mul_assoc, Nat.mul_comm (i + 1), Nat.add_comm (q * (n - i) * (i + 1)), Nat.add_mul_div_right _ _ (by omega)]
      omega
    rw [e]
    exact ih g (i + 1) (by omega) (by omega)
theorem chosen_eq (hn : n ≤ 60) (hfu : 1000 ≤ fu) (hk : k ≤ 60) : f_X12_chosen fu (nI n) (nI k) = some (qN (bi n k)) := by
  unfold f_X12_chosen
  rw [if_neg (nI_pos (by omega))]
  by_cases q : k ≤ n
  · rw [if_pos (nI_le q (by omega))]
    have := chosen_loop (fu := fu) hn q _ fu 0 (Nat.zero_add _) (by split <;> omega)
    rw [bi_0] at this
    exact this
  · rw [if_neg (nI_ge (by omega) (by omega)), bi_gt (by omega)]
    rfl
end CH
