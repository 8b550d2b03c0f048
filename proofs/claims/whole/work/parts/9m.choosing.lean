/-! choosing -/
def bi : Nat → Nat → Nat
  | _, 0 => 1
  | 0, _ + 1 => 0
  | n + 1, k + 1 => bi n k + bi n (k + 1)
theorem bi_0 (n : Nat) : bi n 0 = 1 := by cases n <;> rfl
theorem bi_z (k : Nat) : bi 0 (k + 1) = 0 := rfl
theorem bi_s (n k : Nat) : bi (n + 1) (k + 1) = bi n k + bi n (k + 1) := rfl
theorem bi_gt : ∀ {n k : Nat}, n < k → bi n k = 0
  | 0, 0, h => by omega
  | 0, _ + 1, _ => rfl
  | n + 1, 0, h => by omega
  | n + 1, k + 1, h => by rw [bi_s, bi_gt (by omega), bi_gt (by omega)]
theorem bi_nn : ∀ n : Nat, bi n n = 1
  | 0 => rfl
  | n + 1 => by rw [bi_s, bi_nn n, bi_gt (by omega)]
theorem bi_A : ∀ n k : Nat, bi (n + 1) (k + 1) * (k + 1) = (n + 1) * bi n k
  | 0, 0 => rfl
  | 0, k + 1 => by rw [bi_s, bi_z, bi_z]; omega
  | n + 1, 0 => by
    have h := bi_A n 0
    rw [bi_s, bi_0]
    rw [bi_0] at h
    try rw [bi_0]
    omega
  | n + 1, j + 1 => by
    have h1 := bi_A n j
    have h2 := bi_A n (j + 1)
    rw [bi_s (n + 1) (j + 1), bi_s n j]
    rw [bi_s n j] at h1
    generalize bi n j = a at *
    generalize bi n (j + 1) = b at *
    generalize bi (n + 1) (j + 1 + 1) = c at *
    have e1 : (a + b + c) * (j + 1 + 1) = (a + b) * (j + 1) + (a + b) + c * (j + 1 + 1) := by
      rw [Nat.add_mul, Nat.mul_add (a + b) (j + 1) 1, Nat.mul_one]
    have e2 : (n + 1 + 1) * (a + b) = (n + 1) * a + (n + 1) * b + (a + b) := by
      rw [Nat.add_mul (n + 1) 1, Nat.one_mul, Nat.mul_add]
    rw [e1, h1, h2, e2]
    omega
theorem bi_B : ∀ n k : Nat, bi (n + 1) k * (n + 1 - k) = (n + 1) * bi n k
  | n, 0 => by rw [bi_0, bi_0]; omega
  | n, j + 1 => by
    have h := bi_A n j
    by_cases q : j ≤ n
    · have e : bi (n + 1) (j + 1) * (j + 1) + bi (n + 1) (j + 1) * (n + 1 - (j + 1)) = bi (n + 1) (j + 1) * (n + 1) := by
        rw [← Nat.mul_add]
        congr 1
        omega
      have e2 : bi (n + 1) (j + 1) * (n + 1) = (n + 1) * bi n j + (n + 1) * bi n (j + 1) := by
        rw [bi_s, Nat.mul_comm, Nat.mul_add]
      omega
    · rw [bi_gt (show n + 1 < j + 1 by omega), bi_gt (show n < j + 1 by omega)]
      omega
/-- the step from one to the next -/
theorem bi_step : ∀ n k : Nat, bi n (k + 1) * (k + 1) = bi n k * (n - k)
  | 0, k => by rw [bi_z, Nat.zero_sub]; omega
  | n + 1, k => by rw [bi_A, bi_B]
theorem bi_sym : ∀ {n k : Nat}, k ≤ n → bi n k = bi n (n - k)
  | 0, 0, _ => rfl
  | n + 1, 0, _ => by rw [bi_0, Nat.sub_zero, bi_nn]
  | n + 1, k + 1, h => by
    by_cases q : k = n
    · subst q
      rw [bi_nn, Nat.sub_self, bi_0]
    · obtain ⟨j, hj⟩ : ∃ j, n = k + 1 + j := ⟨n - (k + 1), by omega⟩
      have h1 := bi_sym (n := n) (k := k) (by omega)
      have h2 := bi_sym (n := n) (k := k + 1) (by omega)
      rw [show n - k = j + 1 by omega] at h1
      rw [show n - (k + 1) = j by omega] at h2
      rw [show n + 1 - (k + 1) = j + 1 by omega, bi_s, bi_s, h1, h2]
      omega
theorem bi_mono : ∀ {n k : Nat}, bi n k ≤ bi (n + 1) k
  | n, 0 => by rw [bi_0, bi_0]; omega
  | n, k + 1 => by rw [bi_s]; omega
theorem bi_mono' {n m k : Nat} (h : n ≤ m) : bi n k ≤ bi m k := by
  induction m with
  | zero => have : n = 0 := by omega
            subst this; exact Nat.le_refl _
  | succ m ih =>
    by_cases q : n = m + 1
    · subst q; exact Nat.le_refl _
    · exact Nat.le_trans (ih (by omega)) bi_mono
theorem bi_60 (k : Nat) : bi 60 k ≤ 118264581564861424 := by
  have h0 : bi 60 0 = 1 := bi_0 60
  have h1 : bi 60 1 = 60 := by
    have : bi 60 1 * 1 = bi 60 0 * 60 := bi_step 60 0
    rw [h0] at this
    omega
  have h2 : bi 60 2 = 1770 := by
    have : bi 60 2 * 2 = bi 60 1 * 59 := bi_step 60 1
    rw [h1] at this
    omega
  have h3 : bi 60 3 = 34220 := by
    have : bi 60 3 * 3 = bi 60 2 * 58 := bi_step 60 2
    rw [h2] at this
    omega
  have h4 : bi 60 4 = 487635 := by
    have : bi 60 4 * 4 = bi 60 3 * 57 := bi_step 60 3
    rw [h3] at this
    omega
  have h5 : bi 60 5 = 5461512 := by
    have : bi 60 5 * 5 = bi 60 4 * 56 := bi_step 60 4
    rw [h4] at this
    omega
  have h6 : bi 60 6 = 50063860 := by
    have : bi 60 6 * 6 = bi 60 5 * 55 := bi_step 60 5
    rw [h5] at this
    omega
  have h7 : bi 60 7 = 386206920 := by
    have : bi 60 7 * 7 = bi 60 6 * 54 := bi_step 60 6
    rw [h6] at this
    omega
  have h8 : bi 60 8 = 2558620845 := by
    have : bi 60 8 * 8 = bi 60 7 * 53 := bi_step 60 7
    rw [h7] at this
    omega
  have h9 : bi 60 9 = 14783142660 := by
    have : bi 60 9 * 9 = bi 60 8 * 52 := bi_step 60 8
    rw [h8] at this
    omega
  have h10 : bi 60 10 = 75394027566 := by
    have : bi 60 10 * 10 = bi 60 9 * 51 := bi_step 60 9
    rw [h9] at this
    omega
  have h11 : bi 60 11 = 342700125300 := by
    have : bi 60 11 * 11 = bi 60 10 * 50 := bi_step 60 10
    rw [h10] at this
    omega
  have h12 : bi 60 12 = 1399358844975 := by
    have : bi 60 12 * 12 = bi 60 11 * 49 := bi_step 60 11
    rw [h11] at this
    omega
  have h13 : bi 60 13 = 5166863427600 := by
    have : bi 60 13 * 13 = bi 60 12 * 48 := bi_step 60 12
    rw [h12] at this
    omega
  have h14 : bi 60 14 = 17345898649800 := by
    have : bi 60 14 * 14 = bi 60 13 * 47 := bi_step 60 13
    rw [h13] at this
    omega
  have h15 : bi 60 15 = 53194089192720 := by
    have : bi 60 15 * 15 = bi 60 14 * 46 := bi_step 60 14
    rw [h14] at this
    omega
  have h16 : bi 60 16 = 149608375854525 := by
    have : bi 60 16 * 16 = bi 60 15 * 45 := bi_step 60 15
    rw [h15] at this
    omega
  have h17 : bi 60 17 = 387221678682300 := by
    have : bi 60 17 * 17 = bi 60 16 * 44 := bi_step 60 16
    rw [h16] at this
    omega
  have h18 : bi 60 18 = 925029565741050 := by
    have : bi 60 18 * 18 = bi 60 17 * 43 := bi_step 60 17
    rw [h17] at this
    omega
  have h19 : bi 60 19 = 2044802197953900 := by
    have : bi 60 19 * 19 = bi 60 18 * 42 := bi_step 60 18
    rw [h18] at this
    omega
  have h20 : bi 60 20 = 4191844505805495 := by
    have : bi 60 20 * 20 = bi 60 19 * 41 := bi_step 60 19
    rw [h19] at this
    omega
  have h21 : bi 60 21 = 7984465725343800 := by
    have : bi 60 21 * 21 = bi 60 20 * 40 := bi_step 60 20
    rw [h20] at this
    omega
  have h22 : bi 60 22 = 14154280149473100 := by
    have : bi 60 22 * 22 = bi 60 21 * 39 := bi_step 60 21
    rw [h21] at this
    omega
  have h23 : bi 60 23 = 23385332420868600 := by
    have : bi 60 23 * 23 = bi 60 22 * 38 := bi_step 60 22
    rw [h22] at this
    omega
  have h24 : bi 60 24 = 36052387482172425 := by
    have : bi 60 24 * 24 = bi 60 23 * 37 := bi_step 60 23
    rw [h23] at this
    omega
  have h25 : bi 60 25 = 51915437974328292 := by
    have : bi 60 25 * 25 = bi 60 24 * 36 := bi_step 60 24
    rw [h24] at this
    omega
  have h26 : bi 60 26 = 69886166503903470 := by
    have : bi 60 26 * 26 = bi 60 25 * 35 := bi_step 60 25
    rw [h25] at this
    omega
  have h27 : bi 60 27 = 88004802264174740 := by
    have : bi 60 27 * 27 = bi 60 26 * 34 := bi_step 60 26
    rw [h26] at this
    omega
  have h28 : bi 60 28 = 103719945525634515 := by
    have : bi 60 28 * 28 = bi 60 27 * 33 := bi_step 60 27
    rw [h27] at this
    omega
  have h29 : bi 60 29 = 114449595062769120 := by
    have : bi 60 29 * 29 = bi 60 28 * 32 := bi_step 60 28
    rw [h28] at this
    omega
  have h30 : bi 60 30 = 118264581564861424 := by
    have : bi 60 30 * 30 = bi 60 29 * 31 := bi_step 60 29
    rw [h29] at this
    omega
  have h31 : bi 60 31 = 114449595062769120 := by
    have : bi 60 31 * 31 = bi 60 30 * 30 := bi_step 60 30
    rw [h30] at this
    omega
  have h32 : bi 60 32 = 103719945525634515 := by
    have : bi 60 32 * 32 = bi 60 31 * 29 := bi_step 60 31
    rw [h31] at this
    omega
  have h33 : bi 60 33 = 88004802264174740 := by
    have : bi 60 33 * 33 = bi 60 32 * 28 := bi_step 60 32
    rw [h32] at this
    omega
  have h34 : bi 60 34 = 69886166503903470 := by
    have : bi 60 34 * 34 = bi 60 33 * 27 := bi_step 60 33
    rw [h33] at this
    omega
  have h35 : bi 60 35 = 51915437974328292 := by
    have : bi 60 35 * 35 = bi 60 34 * 26 := bi_step 60 34
    rw [h34] at this
    omega
  have h36 : bi 60 36 = 36052387482172425 := by
    have : bi 60 36 * 36 = bi 60 35 * 25 := bi_step 60 35
    rw [h35] at this
    omega
  have h37 : bi 60 37 = 23385332420868600 := by
    have : bi 60 37 * 37 = bi 60 36 * 24 := bi_step 60 36
    rw [h36] at this
    omega
  have h38 : bi 60 38 = 14154280149473100 := by
    have : bi 60 38 * 38 = bi 60 37 * 23 := bi_step 60 37
    rw [h37] at this
    omega
  have h39 : bi 60 39 = 7984465725343800 := by
    have : bi 60 39 * 39 = bi 60 38 * 22 := bi_step 60 38
    rw [h38] at this
    omega
  have h40 : bi 60 40 = 4191844505805495 := by
    have : bi 60 40 * 40 = bi 60 39 * 21 := bi_step 60 39
    rw [h39] at this
    omega
  have h41 : bi 60 41 = 2044802197953900 := by
    have : bi 60 41 * 41 = bi 60 40 * 20 := bi_step 60 40
    rw [h40] at this
    omega
  have h42 : bi 60 42 = 925029565741050 := by
    have : bi 60 42 * 42 = bi 60 41 * 19 := bi_step 60 41
    rw [h41] at this
    omega
  have h43 : bi 60 43 = 387221678682300 := by
    have : bi 60 43 * 43 = bi 60 42 * 18 := bi_step 60 42
    rw [h42] at this
    omega
  have h44 : bi 60 44 = 149608375854525 := by
    have : bi 60 44 * 44 = bi 60 43 * 17 := bi_step 60 43
    rw [h43] at this
    omega
  have h45 : bi 60 45 = 53194089192720 := by
    have : bi 60 45 * 45 = bi 60 44 * 16 := bi_step 60 44
    rw [h44] at this
    omega
  have h46 : bi 60 46 = 17345898649800 := by
    have : bi 60 46 * 46 = bi 60 45 * 15 := bi_step 60 45
    rw [h45] at this
    omega
  have h47 : bi 60 47 = 5166863427600 := by
    have : bi 60 47 * 47 = bi 60 46 * 14 := bi_step 60 46
    rw [h46] at this
    omega
  have h48 : bi 60 48 = 1399358844975 := by
    have : bi 60 48 * 48 = bi 60 47 * 13 := bi_step 60 47
    rw [h47] at this
    omega
  have h49 : bi 60 49 = 342700125300 := by
    have : bi 60 49 * 49 = bi 60 48 * 12 := bi_step 60 48
    rw [h48] at this
    omega
  have h50 : bi 60 50 = 75394027566 := by
    have : bi 60 50 * 50 = bi 60 49 * 11 := bi_step 60 49
    rw [h49] at this
    omega
  have h51 : bi 60 51 = 14783142660 := by
    have : bi 60 51 * 51 = bi 60 50 * 10 := bi_step 60 50
    rw [h50] at this
    omega
  have h52 : bi 60 52 = 2558620845 := by
    have : bi 60 52 * 52 = bi 60 51 * 9 := bi_step 60 51
    rw [h51] at this
    omega
  have h53 : bi 60 53 = 386206920 := by
    have : bi 60 53 * 53 = bi 60 52 * 8 := bi_step 60 52
    rw [h52] at this
    omega
  have h54 : bi 60 54 = 50063860 := by
    have : bi 60 54 * 54 = bi 60 53 * 7 := bi_step 60 53
    rw [h53] at this
    omega
  have h55 : bi 60 55 = 5461512 := by
    have : bi 60 55 * 55 = bi 60 54 * 6 := bi_step 60 54
    rw [h54] at this
    omega
  have h56 : bi 60 56 = 487635 := by
    have : bi 60 56 * 56 = bi 60 55 * 5 := bi_step 60 55
    rw [h55] at this
    omega
  have h57 : bi 60 57 = 34220 := by
    have : bi 60 57 * 57 = bi 60 56 * 4 := bi_step 60 56
    rw [h56] at this
    omega
  have h58 : bi 60 58 = 1770 := by
    have : bi 60 58 * 58 = bi 60 57 * 3 := bi_step 60 57
    rw [h57] at this
    omega
  have h59 : bi 60 59 = 60 := by
    have : bi 60 59 * 59 = bi 60 58 * 2 := bi_step 60 58
    rw [h58] at this
    omega
  have h60 : bi 60 60 = 1 := by
    have : bi 60 60 * 60 = bi 60 59 * 1 := bi_step 60 59
    rw [h59] at this
    omega
  by_cases q : k ≤ 60
  · rcases (show k = 0 ∨ k = 1 ∨ k = 2 ∨ k = 3 ∨ k = 4 ∨ k = 5 ∨ k = 6 ∨ k = 7 ∨ k = 8 ∨ k = 9 ∨ k = 10 ∨ k = 11 ∨ k = 12 ∨ k = 13 ∨ k = 14 ∨ k = 15 ∨ k = 16 ∨ k = 17 ∨ k = 18 ∨ k = 19 ∨ k = 20 ∨ k = 21 ∨ k = 22 ∨ k = 23 ∨ k = 24 ∨ k = 25 ∨ k = 26 ∨ k = 27 ∨ k = 28 ∨ k = 29 ∨ k = 30 ∨ k = 31 ∨ k = 32 ∨ k = 33 ∨ k = 34 ∨ k = 35 ∨ k = 36 ∨ k = 37 ∨ k = 38 ∨ k = 39 ∨ k = 40 ∨ k = 41 ∨ k = 42 ∨ k = 43 ∨ k = 44 ∨ k = 45 ∨ k = 46 ∨ k = 47 ∨ k = 48 ∨ k = 49 ∨ k = 50 ∨ k = 51 ∨ k = 52 ∨ k = 53 ∨ k = 54 ∨ k = 55 ∨ k = 56 ∨ k = 57 ∨ k = 58 ∨ k = 59 ∨ k = 60 by omega) with rfl | rfl | rfl | rfl | rfl | rfl | rfl | rfl | rfl | rfl | rfl | rfl | rfl | rfl | rfl | rfl | rfl | rfl | rfl | rfl | rfl | rfl | rfl | rfl | rfl | rfl | rfl | rfl | rfl | rfl | rfl | rfl | rfl | rfl | rfl | rfl | rfl | rfl | rfl | rfl | rfl | rfl | rfl | rfl | rfl | rfl | rfl | rfl | rfl | rfl | rfl | rfl | rfl | rfl | rfl | rfl | rfl | rfl | rfl | rfl | rfl
    all_goals omega
  · rw [bi_gt (by omega)]
    omega
theorem bi_le {n : Nat} (h : n ≤ 60) (k : Nat) : bi n k ≤ 118264581564861424 := Nat.le_trans (bi_mono' h) (bi_60 k)
/-- sums over a stretch -/
def sN (f : Nat → Nat) : Nat → Nat
  | 0 => 0
  | k + 1 => sN f k + f k
theorem sN_cg {f g : Nat → Nat} : ∀ {m : Nat}, (∀ i, i < m → f i = g i) → sN f m = sN g m
  | 0, _ => rfl
  | m + 1, h => by
    show sN f m + f m = sN g m + g m
    rw [sN_cg (fun i hi => h i (by omega)), h m (by omega)]
theorem sN_le {f g : Nat → Nat} : ∀ {m : Nat}, (∀ i, i < m → f i ≤ g i) → sN f m ≤ sN g m
  | 0, _ => Nat.le_refl _
  | m + 1, h => by
    show sN f m + f m ≤ sN g m + g m
    have := sN_le (f := f) (g := g) (m := m) (fun i hi => h i (by omega))
    have := h m (by omega)
    omega
theorem sN_add {f g : Nat → Nat} : ∀ {m : Nat}, sN (fun i => f i + g i) m = sN f m + sN g m
  | 0 => rfl
  | m + 1 => by
    show sN (fun i => f i + g i) m + (f m + g m) = sN f m + f m + (sN g m + g m)
    rw [sN_add]
    omega
theorem sN_front {f : Nat → Nat} : ∀ {m : Nat}, sN f (m + 1) = f 0 + sN (fun i => f (i + 1)) m
  | 0 => by show 0 + f 0 = f 0 + 0; omega
  | m + 1 => by
    show sN f (m + 1) + f (m + 1) = f 0 + (sN (fun i => f (i + 1)) m + f (m + 1))
    rw [sN_front]
    omega
theorem vander (n : Nat) : ∀ m d : Nat, sN (fun k => bi m k * bi n (d - k)) (d + 1) = bi (m + n) d
  | 0, d => by
    rw [sN_front, bi_0, Nat.one_mul, Nat.sub_zero, Nat.zero_add]
    rw [sN_cg (g := fun _ => 0) (fun i _ => by rw [bi_z, Nat.zero_mul])]
    have : ∀ m, sN (fun _ => 0) m = 0 := by
      intro m
      induction m with
      | zero => rfl
      | succ m ih => show sN (fun _ => 0) m + 0 = 0; rw [ih]
    rw [this]
    omega
  | m + 1, 0 => by
    show 0 + bi (m + 1) 0 * bi n (0 - 0) = _
    rw [bi_0, Nat.sub_self, bi_0, bi_0]
  | m + 1, d + 1 => by
    have h1 := vander n m d
    have h2 := vander n m (d + 1)
    rw [sN_front] at h2
    rw [bi_0, Nat.one_mul, Nat.sub_zero] at h2
    rw [sN_front, bi_0, Nat.one_mul, Nat.sub_zero]
    have e : sN (fun i => bi (m + 1) (i + 1) * bi n (d + 1 - (i + 1))) (d + 1) = sN (fun k => bi m k * bi n (d - k)) (d + 1) + sN (fun i => bi m (i + 1) * bi n (d + 1 - (i + 1))) (d + 1) := by
      rw [← sN_add]
      refine sN_cg (fun i _ => ?_)
      rw [bi_s, Nat.add_mul, show d + 1 - (i + 1) = d - i by omega]
    rw [e, h1, show m + 1 + n = (m + n) + 1 by omega, bi_s, ← h2]
    omega
