/-! rings: the next on a shortest way; how far, in the class -/
def Lp (A : Nat → Nat → Prop) (g m p : Nat) : Prop := Pth A g m p ∧ ∀ n, n < m → ¬ Pth A g n p
def Sm (A : Nat → Nat → Prop) (g m p : Nat) : Prop := Pth A g m p ∧ ∀ n, 1 ≤ n → n < m → ¬ Pth A g n p
def Nx (A : Nat → Nat → Prop) (g m v q : Nat) : Prop := q < 16 ∧ A v q ∧ Lp A g m q ∧ ∀ q', q' < q → A v q' → ¬ Lp A g m q'
noncomputable def nxf (A : Nat → Nat → Prop) (g m v : Nat) : Nat := @dite Nat (∃ q, Nx A g m v q) (Classical.propDecidable _) (fun h => Classical.choose h) (fun _ => 0)
noncomputable def wlk (A : Nat → Nat → Prop) (g D : Nat) : Nat → Nat
  | 0 => g
  | j + 1 => nxf A g (D - 1 - j) (wlk A g D j)
section NX
variable {A : Nat → Nat → Prop} {g : Nat}
theorem nx_ex {m v : Nat} (h : Sm A g (m + 1) v) : ∃ q, Nx A g m v q := by
  obtain ⟨q, hq, ha, hP⟩ := h.1
  have hl : Lp A g m q := ⟨hP, fun n hn hP' => h.2 (n + 1) (by omega) (by omega) ⟨q, hq, ha, hP'⟩⟩
  obtain ⟨k, ⟨k1, k2, k3⟩, k4⟩ := pk_least (fun q => q < 16 ∧ A v q ∧ Lp A g m q) ⟨q, hq, ha, hl⟩
  exact ⟨k, k1, k2, k3, fun q' h1 h2 h3 => k4 q' h1 ⟨by omega, h2, h3⟩⟩
theorem nx_un {m v q q' : Nat} (h : Nx A g m v q) (h' : Nx A g m v q') : q = q' := by
  rcases Nat.lt_trichotomy q q' with x | x | x
  · exact absurd h.2.2.1 (h'.2.2.2 q x h.2.1)
  · exact x
  · exact absurd h'.2.2.1 (h.2.2.2 q' x h'.2.1)
theorem Lp_Sm {m p : Nat} (h : Lp A g m p) : Sm A g m p := ⟨h.1, fun n _ hn => h.2 n hn⟩
theorem nxf_eq {m v q : Nat} (h : Nx A g m v q) : nxf A g m v = q := by
  unfold nxf
  rw [dif_pos ⟨q, h⟩]
  exact nx_un (Classical.choose_spec (⟨q, h⟩ : ∃ q, Nx A g m v q)) h
theorem wlk_ok {D : Nat} (hg : g < 16) (h : Sm A g D g) : ∀ j, j < D → wlk A g D j < 16 ∧ Sm A g (D - j) (wlk A g D j)
  | 0, _ => ⟨hg, h⟩
  | j + 1, hj => by
    obtain ⟨h1, h2⟩ := wlk_ok hg h j (by omega)
    rw [show D - j = (D - 1 - j) + 1 by omega] at h2
    obtain ⟨q, hq⟩ := nx_ex h2
    have e : wlk A g D (j + 1) = q := nxf_eq hq
    rw [e]
    exact ⟨hq.1, by rw [show D - (j + 1) = D - 1 - j by omega]; exact Lp_Sm hq.2.2.1⟩
end NX
theorem nI_n1 {m : Nat} (h : m < 2 ^ 31) : ¬ nI m = -1 := by
  intro z
  have := congrArg Int32.toInt z
  rw [nI_toInt h, show (-1 : Int32).toInt = -1 from rfl] at this
  omega
theorem sh_1 {q : Nat} (hq : q < 16) : (1 : Int32) <<< (nI q &&& 31) = nI (2 ^ q) := by
  have h2 : 2 ^ q < 65536 := Nat.pow_lt_pow_right (by decide) (show q < 16 from hq)
  rw [show (1 : Int32) = nI 1 from rfl, pk_shlN (nI q &&& 31) q (sh_s hq) (by omega), Nat.one_mul]
theorem and_b (a b : Nat) : nI a &&& nI b = nI (a &&& b) := by
  apply Int32.toBitVec_inj.mp
  rw [Int32.toBitVec_and]
  show BitVec.ofNat 32 a &&& BitVec.ofNat 32 b = BitVec.ofNat 32 (a &&& b)
  first | exact BitVec.ofNat_and.symm | exact (BitVec.ofNat_and _ _).symm | (apply BitVec.eq_of_toNat_eq; simp [Nat.and_mod_two_pow])
theorem and_0 {a b : Nat} (ha : a < 65536) : nI a &&& nI b = 0 ↔ ¬ ∃ q, q < 16 ∧ a / 2 ^ q % 2 = 1 ∧ b / 2 ^ q % 2 = 1 := by
  have e : ∀ x p : Nat, x / 2 ^ p % 2 = 1 ↔ x.testBit p = true := fun x p => by rw [Nat.testBit_eq_decide_div_mod_eq]; simp
  have hlt : a &&& b < 65536 := Nat.lt_of_le_of_lt Nat.and_le_left ha
  rw [and_b, show (0 : Int32) = nI 0 from rfl, nI_eq (by omega) (by omega)]
  constructor
  · rintro h ⟨q, h1, h2, h3⟩
    have : (a &&& b).testBit q = true := by rw [Nat.testBit_and, (e a q).mp h2, (e b q).mp h3]; rfl
    rw [h, Nat.zero_testBit] at this
    exact absurd this (by decide)
  · intro h
    apply Nat.eq_of_testBit_eq
    intro q
    rw [Nat.testBit_and, Nat.zero_testBit]
    by_cases hq : q < 16
    · by_cases x : a.testBit q = true
      · by_cases y : b.testBit q = true
        · exact absurd ⟨q, hq, (e a q).mpr x, (e b q).mpr y⟩ h
        · simp [y]
      · simp [x]
    · have h2 : 2 ^ 16 ≤ 2 ^ q := Nat.pow_le_pow_right (by decide) (by omega)
      have : a.testBit q = false := Nat.testBit_lt_two_pow (Nat.lt_of_lt_of_le (show a < 2 ^ 16 from ha) h2)
      rw [this]
      rfl
/-- x tells how far p is, where less than r -/
def Dt (A : Nat → Nat → Prop) (g r p : Nat) (x : Int32) : Prop := (∃ m, m < r ∧ x = nI m ∧ Lp A g m p) ∨ (x = -1 ∧ ∀ n, n < r → ¬ Pth A g n p)
section DT
variable {A : Nat → Nat → Prop} {g r p : Nat} {x : Int32}
theorem Dt.keep (h : Dt A g r p x) (hx : ¬ x = -1) : Dt A g (r + 1) p x ∧ ¬ Lp A g r p := by
  rcases h with ⟨m, h1, h2, h3⟩ | ⟨h1, _⟩
  · exact ⟨Or.inl ⟨m, by omega, h2, h3⟩, fun y => y.2 m h1 h3.1⟩
  · exact absurd h1 hx
theorem Dt.none (h : Dt A g r p x) (hx : x = -1) (hr : r < 2 ^ 31) : ∀ n, n < r → ¬ Pth A g n p := by
  rcases h with ⟨m, h1, h2, h3⟩ | ⟨_, h2⟩
  · rw [hx] at h2
    exact absurd h2.symm (nI_n1 (by omega))
  · exact h2
theorem Pth_no (h : ∀ n, n < r + 1 → ¬ Pth A g n p) (hno : ¬ ∃ q, q < 16 ∧ A p q ∧ Lp A g r q) : ¬ Pth A g (r + 1) p := fun ⟨q, hq, ha, hP⟩ => hno ⟨q, hq, ha, hP, fun n hn hP' => h (n + 1) (by omega) ⟨q, hq, ha, hP'⟩⟩
end DT
def RS (B : Nat) (K L : Nat → Nat) (R : Nat → Nat → Option Nat) : Prop := K (B + 39) = 5 ∧ R 160 (B + 39) = some (B + 40) ∧ R 161 (B + 39) = some (B + 41) ∧ R 162 (B + 39) = some (B + 42) ∧ K (B + 40) = 13 ∧ L (B + 40) = 16 ∧ K (B + 41) = 13 ∧ L (B + 41) = 16 ∧ K (B + 42) = 13 ∧ L (B + 42) = 16
section ME
variable {B : Nat} {K L : Nat → Nat} {fu g : Nat} {k : Nat → Nat} {A : Nat → Nat → Prop}
theorem mt_33 {k21 : Int32 → Int32 → Mm → Option Mm} (hkA : ∀ p q, p < 16 → q < 16 → (k p / 2 ^ q % 2 = 1 ↔ A p q)) {m r : Nat} (hm : m < 65536) (hmb : ∀ q, q < 16 → (m / 2 ^ q % 2 = 1 ↔ Lp A g r q)) (hr : r < 16) : ∀ (d x i : Nat) (N : Mm) (m' : Nat), RS B K L (mm_R N) → mkR B N k → (∀ p, p < 16 → p < i → Dt A g (r + 2) p (mm_A N (B + 41) p)) → (∀ p, p < 16 → i ≤ p → Dt A g (r + 1) p (mm_A N (B + 41) p)) → m' < 65536 → (∀ p, p < 16 → (m' / 2 ^ p % 2 = 1 ↔ p < i ∧ Lp A g (r + 1) p)) → i + d = 16 → d < x → ∃ N' m'', f_X5_measureTo_33 K L fu k21 (B + 39) x (nI m) (nI (r + 1)) (nI m') (nI i) N = k21 (nI m'') (nI (r + 2)) N' ∧ scr B N N' ∧ mkR B N' k ∧ (∀ p, p < 16 → Dt A g (r + 2) p (mm_A N' (B + 41) p)) ∧ m'' < 65536 ∧ ∀ p, p < 16 → (m'' / 2 ^ p % 2 = 1 ↔ Lp A g (r + 1) p) := by
  intro d
  induction d with
  | zero =>
    intro x i N m' hR hk h1 h2 h3 h4 h5 h6
    obtain ⟨x, rfl⟩ : ∃ x', x = x' + 1 := ⟨x - 1, by omega⟩
    have : i = 16 := by omega
    subst this
    refine ⟨N, m', ?_, scr.rf B N, hk, fun p hp => h1 p hp hp, h3, fun p hp => (h4 p hp).trans ⟨fun y => y.2, fun y => ⟨hp, y⟩⟩⟩
    show f_X5_measureTo_33b K L fu k21 (f_X5_measureTo_33 K L fu k21 (B + 39) x) (B + 39) (nI m) (nI (r + 1)) (nI m') (nI 16) N = _
    unfold f_X5_measureTo_33b
    rw [if_pos (by decide), nI_1]
  | succ d ih =>
    intro x i N m' hR hk h1 h2 h3 h4 h5 h6
    obtain ⟨x, rfl⟩ : ∃ x', x = x' + 1 := ⟨x - 1, by omega⟩
    have hi : i < 16 := by omega
    have hx1 : rx K L (mm_R N (32 * 5 + 1) (B + 39)) 13 (nI i) = some (B + 41) := by
      rw [show mm_R N (32 * 5 + 1) (B + 39) = some (B + 41) from hR.2.2.1]
      exact rx_ok hR.2.2.2.2.2.2.1 hR.2.2.2.2.2.2.2.1 hi (by decide)
    have hx0 : rx K L (mm_R N (32 * 5 + 0) (B + 39)) 13 (nI i) = some (B + 40) := by
      rw [show mm_R N (32 * 5 + 0) (B + 39) = some (B + 40) from hR.2.1]
      exact rx_ok hR.2.2.2.2.1 hR.2.2.2.2.2.1 hi (by decide)
    have E : f_X5_measureTo_33 K L fu k21 (B + 39) (x + 1) (nI m) (nI (r + 1)) (nI m') (nI i) N = if mm_A N (B + 41) i = -1 then (if nI (k i) &&& nI m = 0 then f_X5_measureTo_33 K L fu k21 (B + 39) x (nI m) (nI (r + 1)) (nI m') (nI (i + 1)) N else f_X5_measureTo_33 K L fu k21 (B + 39) x (nI m) (nI (r + 1)) (nI (m' ||| 2 ^ i)) (nI (i + 1)) (ms_A N (B + 41) (upd (mm_A N (B + 41)) i (nI (r + 1))))) else f_X5_measureTo_33 K L fu k21 (B + 39) x (nI m) (nI (r + 1)) (nI m') (nI (i + 1)) N := by
      show f_X5_measureTo_33b K L fu k21 (f_X5_measureTo_33 K L fu k21 (B + 39) x) (B + 39) (nI m) (nI (r + 1)) (nI m') (nI i) N = _
      unfold f_X5_measureTo_33b
      rw [if_neg (show ¬ (16 : Int32) ≤ nI i by rw [t_le, nI_toInt (by omega), show (16 : Int32).toInt = 16 from rfl]; omega), nI_1 i, nI_clamp (show i < 2 ^ 31 by omega)]
      refine (sb hx1 _).trans ?_
      by_cases y : mm_A N (B + 41) i = -1
      · rw [if_pos y, if_pos y]
        refine (sb hx0 _).trans ?_
        rw [(hk i hi).1]
        by_cases z : nI (k i) &&& nI m = 0
        · rw [if_pos z, if_pos z]
        · rw [if_neg z, if_neg z, bn_eq, bn_eq, or_b h3 hi]
      · rw [if_neg y, if_neg y]
    have skip : Dt A g (r + 2) i (mm_A N (B + 41) i) → ¬ Lp A g (r + 1) i → ∃ N' m'', f_X5_measureTo_33 K L fu k21 (B + 39) x (nI m) (nI (r + 1)) (nI m') (nI (i + 1)) N = k21 (nI m'') (nI (r + 2)) N' ∧ scr B N N' ∧ mkR B N' k ∧ (∀ p, p < 16 → Dt A g (r + 2) p (mm_A N' (B + 41) p)) ∧ m'' < 65536 ∧ ∀ p, p < 16 → (m'' / 2 ^ p % 2 = 1 ↔ Lp A g (r + 1) p) := by
      intro y1 y2
      refine ih x (i + 1) N m' hR hk (fun p hp hp' => ?_) (fun p hp hp' => h2 p hp (by omega)) h3 (fun p hp => ?_) (by omega) (by omega)
      · by_cases e : p = i
        · rw [e]; exact y1
        · exact h1 p hp (by omega)
      · rw [h4 p hp]
        constructor
        · intro z; exact ⟨by omega, z.2⟩
        · intro z
          refine ⟨?_, z.2⟩
          by_cases e : p = i
          · rw [e] at z; exact absurd z.2 y2
          · omega
    rw [E]
    by_cases y : mm_A N (B + 41) i = -1
    · rw [if_pos y]
      have hn := (h2 i hi (Nat.le_refl _)).none y (by omega)
      by_cases z : nI (k i) &&& nI m = 0
      · rw [if_pos z]
        have hno : ¬ ∃ q, q < 16 ∧ A i q ∧ Lp A g r q := by
          rintro ⟨q, q1, q2, q3⟩
          exact (and_0 (hk i hi).2).mp z ⟨q, q1, (hkA i q hi q1).mpr q2, (hmb q q1).mpr q3⟩
        have hP := Pth_no hn hno
        refine skip (Or.inr ⟨y, fun n hn' => ?_⟩) (fun u => hP u.1)
        by_cases e : n = r + 1
        · rw [e]; exact hP
        · exact hn n (by omega)
      · rw [if_neg z]
        have hq : ∃ q, q < 16 ∧ k i / 2 ^ q % 2 = 1 ∧ m / 2 ^ q % 2 = 1 := Classical.byContradiction (fun u => z ((and_0 (hk i hi).2).mpr u))
        obtain ⟨q, q1, q2, q3⟩ := hq
        have hl : Lp A g (r + 1) i := ⟨⟨q, q1, (hkA i q hi q1).mp q2, ((hmb q q1).mp q3).1⟩, hn⟩
        have sc : scr B N (ms_A N (B + 41) (upd (mm_A N (B + 41)) i (nI (r + 1)))) := scr.Aa (by omega)
        obtain ⟨N', m'', r1, r2, r3⟩ := ih x (i + 1) (ms_A N (B + 41) (upd (mm_A N (B + 41)) i (nI (r + 1)))) (m' ||| 2 ^ i) hR (fun p hp => by rw [A_A, if_neg (by omega)]; exact hk p hp) (fun p hp hp' => by
          rw [A_A, if_pos rfl, upd_eq]
          by_cases e : p = i
          · rw [if_pos e, e]; exact Or.inl ⟨r + 1, by omega, rfl, hl⟩
          · rw [if_neg e]; exact h1 p hp (by omega)) (fun p hp hp' => by
          rw [A_A, if_pos rfl, upd_eq, if_neg (by omega)]
          exact h2 p hp (by omega)) (or_lt h3 hi) (fun p hp => by
          rw [or_t, h4 p hp]
          constructor
          · rintro (u | u)
            · exact ⟨by omega, u.2⟩
            · rw [u]; exact ⟨by omega, hl⟩
          · intro u
            by_cases e : p = i
            · exact Or.inr e
            · exact Or.inl ⟨by omega, u.2⟩) (by omega) (by omega)
        exact ⟨N', m'', r1, sc.tr r2, r3⟩
    · rw [if_neg y]
      have := (h2 i hi (Nat.le_refl _)).keep y
      exact skip this.1 this.2
theorem mt_21 (hkA : ∀ p q, p < 16 → q < 16 → (k p / 2 ^ q % 2 = 1 ↔ A p q)) (hfu : 1000 ≤ fu) : ∀ (d x r : Nat) (N : Mm) (m : Nat), RS B K L (mm_R N) → mkR B N k → (∀ p, p < 16 → Dt A g (r + 1) p (mm_A N (B + 41) p)) → m < 65536 → (∀ q, q < 16 → (m / 2 ^ q % 2 = 1 ↔ Lp A g r q)) → r + 1 + d = 16 → d < x → ∃ N', f_X5_measureTo_21 K L fu (B + 39) x (nI m) (nI (r + 1)) N = some N' ∧ scr B N N' ∧ mkR B N' k ∧ ∀ p, p < 16 → Dt A g 16 p (mm_A N' (B + 41) p) := by
  intro d
  induction d with
  | zero =>
    intro x r N m hR hk h1 h2 h3 h4 h5
    obtain ⟨x, rfl⟩ : ∃ x', x = x' + 1 := ⟨x - 1, by omega⟩
    have : r = 15 := by omega
    subst this
    refine ⟨N, ?_, scr.rf B N, hk, h1⟩
    show f_X5_measureTo_21b K L fu (f_X5_measureTo_21 K L fu (B + 39) x) (B + 39) (nI m) (nI 16) N = _
    unfold f_X5_measureTo_21b
    rw [if_pos (by decide)]
  | succ d ih =>
    intro x r N m hR hk h1 h2 h3 h4 h5
    obtain ⟨x, rfl⟩ : ∃ x', x = x' + 1 := ⟨x - 1, by omega⟩
    obtain ⟨N1, m1, e1, e2, e3, e4, e5, e6⟩ := mt_33 (B := B) (K := K) (L := L) (fu := fu) (k21 := f_X5_measureTo_21 K L fu (B + 39) x) hkA h2 h3 (by omega) 16 fu 0 N 0 hR hk (fun p _ hp => by omega) (fun p hp _ => h1 p hp) (by omega) (fun p hp => by
      rw [Nat.zero_div]
      constructor
      · intro y; omega
      · intro y; omega) (by omega) (by omega)
    obtain ⟨N2, f1, f2, f3, f4⟩ := ih x (r + 1) N1 m1 (by rw [e2.1]; exact hR) e3 e4 e5 e6 (by omega) (by omega)
    refine ⟨N2, ?_, e2.tr f2, f3, f4⟩
    show f_X5_measureTo_21b K L fu (f_X5_measureTo_21 K L fu (B + 39) x) (B + 39) (nI m) (nI (r + 1)) N = _
    unfold f_X5_measureTo_21b
    rw [if_neg (show ¬ (16 : Int32) ≤ nI (r + 1) by rw [t_le, nI_toInt (by omega), show (16 : Int32).toInt = 16 from rfl]; omega)]
    exact (show f_X5_measureTo_33 K L fu (f_X5_measureTo_21 K L fu (B + 39) x) (B + 39) fu (nI m) (nI (r + 1)) 0 0 N = _ from e1).trans f1
theorem measure_eq (hkA : ∀ p q, p < 16 → q < 16 → (k p / 2 ^ q % 2 = 1 ↔ A p q)) (hfu : 1000 ≤ fu) (hg : g < 16) {N : Mm} (hR : RS B K L (mm_R N)) (hk : mkR B N k) : ∃ N', f_X5_measureTo K L fu (B + 39) (nI g) N = some N' ∧ scr B N N' ∧ mkR B N' k ∧ ∀ p, p < 16 → Dt A g 16 p (mm_A N' (B + 41) p) := by
  obtain ⟨N0, hN0⟩ : ∃ X, X = ms_A N (B + 41) (fun j => if j < 16 then -1 else mm_A N (B + 41) j) := ⟨_, rfl⟩
  obtain ⟨N1, hN1⟩ : ∃ X, X = ms_A N0 (B + 41) (upd (mm_A N0 (B + 41)) g 0) := ⟨_, rfl⟩
  have sc0 : scr B N N0 := by rw [hN0]; exact scr.Aa (by omega)
  have sc1 : scr B N0 N1 := by rw [hN1]; exact scr.Aa (by omega)
  have a0 : ∀ p, p < 16 → mm_A N1 (B + 41) p = if p = g then 0 else -1 := by
    intro p hp
    rw [hN1, A_A, if_pos rfl, upd_eq]
    by_cases e : p = g
    · rw [if_pos e, if_pos e]
    · rw [if_neg e, if_neg e, hN0, A_A, if_pos rfl, if_pos hp]
  obtain ⟨N', e1, e2, e3, e4⟩ := mt_21 (B := B) (K := K) (L := L) (fu := fu) (g := g) (k := k) hkA hfu 15 fu 0 N1 (2 ^ g) (by rw [sc1.1, sc0.1]; exact hR) (fun p hp => by
    rw [hN1, A_A, if_neg (by omega), hN0, A_A, if_neg (by omega)]
    exact hk p hp) (fun p hp => by
    rw [a0 p hp]
    by_cases e : p = g
    · rw [if_pos e]
      exact Or.inl ⟨0, by omega, rfl, e, fun n hn => by omega⟩
    · rw [if_neg e]
      refine Or.inr ⟨rfl, fun n hn hP => ?_⟩
      have : n = 0 := by omega
      subst this
      exact e hP) (Nat.pow_lt_pow_right (by decide) (show g < 16 from hg)) (fun q hq => by
    have := or_t (v := 0) (q := g) (p := q)
    rw [Nat.zero_or] at this
    rw [this, Nat.zero_div]
    constructor
    · rintro (y | y)
      · omega
      · exact ⟨y, fun n hn => by omega⟩
    · intro y
      exact Or.inr y.1) (by omega) (by omega)
  refine ⟨N', ?_, (sc0.tr sc1).tr e2, e3, e4⟩
  unfold f_X5_measureTo
  rw [show mm_R N (32 * 5 + 1) (B + 39) = some (B + 41) from hR.2.2.1, fill_eq hR.2.2.2.2.2.2.1 hR.2.2.2.2.2.2.2.1 (by decide) (by omega)]
  refine (sb rfl _).trans ?_
  rw [← hN0]
  refine (sb (show rx K L (mm_R N0 (32 * 5 + 1) (B + 39)) 13 (nI g) = some (B + 41) by
    rw [sc0.1, show mm_R N (32 * 5 + 1) (B + 39) = some (B + 41) from hR.2.2.1]
    exact rx_ok hR.2.2.2.2.2.2.1 hR.2.2.2.2.2.2.2.1 hg (by decide)) _).trans ?_
  rw [bn_eq, bn_eq, nI_clamp (show g < 2 ^ 31 by omega), sh_1 hg, ← hN1]
  exact e1
end ME
