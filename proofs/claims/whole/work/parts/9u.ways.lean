/-! bits; who is asked; the ways -/
theorem lt16 {p : Nat} (h : p < 16) : p = 0 ∨ p = 1 ∨ p = 2 ∨ p = 3 ∨ p = 4 ∨ p = 5 ∨ p = 6 ∨ p = 7 ∨ p = 8 ∨ p = 9 ∨ p = 10 ∨ p = 11 ∨ p = 12 ∨ p = 13 ∨ p = 14 ∨ p = 15 := by omega
theorem sh_u {p : Nat} (h : p < 16) : (((nI p).toUInt32 &&& Int32.toUInt32 31).toBitVec % 32).toNat = p := by
  rcases lt16 h with rfl | rfl | rfl | rfl | rfl | rfl | rfl | rfl | rfl | rfl | rfl | rfl | rfl | rfl | rfl | rfl <;> decide
theorem sh_s {p : Nat} (h : p < 16) : ((nI p &&& 31).toBitVec.smod 32).toNat = p := by
  rcases lt16 h with rfl | rfl | rfl | rfl | rfl | rfl | rfl | rfl | rfl | rfl | rfl | rfl | rfl | rfl | rfl | rfl <;> decide
theorem hb_c {v p : Nat} (hv : v < 65536) (hp : p < 16) : f_X11_hasBit (nI v) (nI p) = some (if v / 2 ^ p % 2 = 1 then 1 else 0) := by
  have hd : v / 2 ^ p ≤ v := Nat.div_le_self _ _
  have hm : v / 2 ^ p % 2 = 0 ∨ v / 2 ^ p % 2 = 1 := by omega
  unfold f_X11_hasBit
  rw [pk_ushrN (by omega) (nI p) p (sh_u hp), pk_andN (by omega) 1 (by decide), Nat.pow_one]
  rcases hm with h | h
  · rw [h, if_pos (by decide), if_neg (by decide)]
  · rw [h, if_neg (by decide), if_pos rfl]
theorem hb_m {v p : Nat} (hv : v < 65536) (hp : p < 16) : ((nI v >>> (nI p &&& 31)) &&& (1 : Int32)) = 1 ↔ v / 2 ^ p % 2 = 1 := by
  have hd : v / 2 ^ p ≤ v := Nat.div_le_self _ _
  have hm : v / 2 ^ p % 2 = 0 ∨ v / 2 ^ p % 2 = 1 := by omega
  rw [pk_shrN (by omega) (nI p &&& 31) p (sh_s hp), pk_andN (by omega) 1 (by decide), Nat.pow_one]
  rcases hm with h | h <;> rw [h] <;> decide
theorem or_b {v q : Nat} (hv : v < 65536) (hq : q < 16) : nI v ||| ((1 : Int32) <<< (nI q &&& 31)) = nI (v ||| 2 ^ q) := by
  have h2 : 2 ^ q < 65536 := Nat.pow_lt_pow_right (by decide) (show q < 16 from hq)
  rw [show (1 : Int32) = nI 1 from rfl, pk_shlN (nI q &&& 31) q (sh_s hq) (by omega), Nat.one_mul]
  apply Int32.toBitVec_inj.mp
  rw [Int32.toBitVec_or]
  show BitVec.ofNat 32 v ||| BitVec.ofNat 32 (2 ^ q) = BitVec.ofNat 32 (v ||| 2 ^ q)
  first | exact BitVec.ofNat_or.symm | exact (BitVec.ofNat_or _ _).symm | (apply BitVec.eq_of_toNat_eq; simp [Nat.or_mod_two_pow])
theorem or_lt {v q : Nat} (hv : v < 65536) (hq : q < 16) : v ||| 2 ^ q < 65536 := by
  have h2 : 2 ^ q < 65536 := Nat.pow_lt_pow_right (by decide) (show q < 16 from hq)
  exact Nat.or_lt_two_pow (n := 16) hv h2
theorem or_t {v q p : Nat} : (v ||| 2 ^ q) / 2 ^ p % 2 = 1 ↔ v / 2 ^ p % 2 = 1 ∨ p = q := by
  have e : ∀ x : Nat, x / 2 ^ p % 2 = 1 ↔ x.testBit p = true := fun x => by rw [Nat.testBit_eq_decide_div_mod_eq]; simp
  rw [e, e, Nat.testBit_or, Nat.testBit_two_pow]
  simp
  constructor
  · rintro (h | h)
    · exact Or.inl h
    · exact Or.inr h.symm
  · rintro (h | h)
    · exact Or.inl h
    · exact Or.inr h.symm
/-- is a switch on p; on which place does it hang; does t stop p -/
abbrev isw (S : Nat → Int32) (p : Nat) : Prop := ¬ S (3940 * p) = 0 ∧ ¬ S (3940 * p) = 6
def hgo (S : Nat → Int32) (p : Nat) : Option Nat := if (S (3940 * p) = 4 ∨ S (3940 * p) = 5) ∧ 0 ≤ S (3940 * p + 44) ∧ isw S (S (3940 * p + 44)).toNatClampNeg then some (S (3940 * p + 44)).toNatClampNeg else none
abbrev stp (S : Nat → Int32) (t p : Nat) : Prop := S (3940 * t) = 5 ∧ S (3940 * t + 47) = 1 ∧ (S (3940 * t + 46)).toInt.toNat / 2 ^ p % 2 = 1
/-- does its hanging hold, where the ways are W -/
abbrev hld (S : Nat → Int32) (W : Nat → Int32) (p : Nat) : Prop := ∀ q, hgo S p = some q → W q = S (3940 * p + 45)
/-- the first that stops p, from t on: d are left -/
def fst' (S : Nat → Int32) (W : Nat → Int32) (p : Nat) : Nat → Nat → Int32
  | 0, _ => -1
  | d + 1, t => if stp S t p ∧ (hgo S t = none ∨ W ((hgo S t).getD 0) = S (3940 * t + 45)) then nI t else fst' S W p d (t + 1)
/-- why p answers as it does -/
def wyv (S : Nat → Int32) (l a s : Int32) (W : Nat → Int32) (p : Nat) : Int32 := if fst' S W p 16 0 = -1 then (if hgo S p = none ∨ W ((hgo S p).getD 0) = S (3940 * p + 45) then rlv S (3940 * p) l a s (S (3940 * p + 3)).toNatClampNeg 0 else 7) else 8 + fst' S W p 16 0
def wbv (S : Nat → Int32) (nu : Int32) (p : Nat) (y : Int32) : Int32 := if y < 7 then (if y = 0 then swv S (3940 * p) (seatV (S (3940 * p + 1)) nu (S (3940 * p + 2))) 7 1 else S (3940 * p + 7 + 4 * (y.toNatClampNeg - 1))) else 0
/-- the ways, by so many rounds -/
def Wf (S : Nat → Int32) (l a s nu : Int32) : Nat → Nat → Int32
  | 0, _ => 0
  | f + 1, p => if isw S p then wbv S nu p (wyv S l a s (Wf S l a s nu f) p) else 0
theorem fst_cg {S : Nat → Int32} {W W' : Nat → Int32} {p : Nat} : ∀ (d t : Nat), (∀ t' q, t ≤ t' → t' < t + d → stp S t' p → hgo S t' = some q → W' q = W q) → fst' S W' p d t = fst' S W p d t
  | 0, _, _ => rfl
  | d + 1, t, h => by
    show (if stp S t p ∧ (hgo S t = none ∨ W' ((hgo S t).getD 0) = S (3940 * t + 45)) then nI t else fst' S W' p d (t + 1)) = (if stp S t p ∧ (hgo S t = none ∨ W ((hgo S t).getD 0) = S (3940 * t + 45)) then nI t else fst' S W p d (t + 1))
    rw [fst_cg d (t + 1) (fun t' q h1 h2 => h t' q (by omega) (by omega))]
    by_cases q1 : stp S t p
    · cases hg : hgo S t with
      | none => simp [q1, hg]
      | some q =>
        have := h t q (by omega) (by omega) q1 hg
        simp only [Option.getD_some, this]
    · rw [if_neg (fun x => q1 x.1), if_neg (fun x => q1 x.1)]
theorem wyv_cg {S : Nat → Int32} {l a s : Int32} {W W' : Nat → Int32} {p : Nat} (h1 : ∀ t q, t < 16 → stp S t p → hgo S t = some q → W' q = W q) (h2 : ∀ q, hgo S p = some q → W' q = W q) : wyv S l a s W' p = wyv S l a s W p := by
  unfold wyv
  rw [fst_cg 16 0 (fun t q _ h => h1 t q (by omega))]
  cases hg : hgo S p with
  | none => simp
  | some q => simp only [Option.getD_some, h2 q hg]
/-- the rank bounds the rounds -/
theorem Wf_st {S : Nat → Int32} {l a s nu : Int32} {rk : Nat → Nat} (h16 : ∀ p q, p < 16 → hgo S p = some q → q < 16) (hr : ∀ p q, p < 16 → q < 16 → ((hgo S p = some q) ∨ ∃ t, t < 16 ∧ stp S t p ∧ hgo S t = some q) → rk q < rk p) : ∀ f p, p < 16 → rk p < f → Wf S l a s nu (f + 1) p = Wf S l a s nu f p
  | 0, p, _, h => by omega
  | f + 1, p, hp, h => by
    have ih := Wf_st (S := S) (l := l) (a := a) (s := s) (nu := nu) h16 hr f
    show (if isw S p then wbv S nu p (wyv S l a s (Wf S l a s nu (f + 1)) p) else 0) = (if isw S p then wbv S nu p (wyv S l a s (Wf S l a s nu f) p) else 0)
    rw [wyv_cg (W := Wf S l a s nu f)]
    · intro t q ht h1 h2
      have hq := h16 t q ht h2
      have := hr p q hp hq (Or.inr ⟨t, ht, h1, h2⟩)
      exact ih q hq (by omega)
    · intro q h2
      have hq := h16 p q hp h2
      have := hr p q hp hq (Or.inl h2)
      exact ih q hq (by omega)
/-- the ways -/
def Ww (S : Nat → Int32) (l a s nu : Int32) (p : Nat) : Int32 := Wf S l a s nu 16 p
