/-! THE PURE PART: reads behind writes, shapes, the invariant -/
section RW
variable (M : Mm) (x y a b : Nat)
theorem I_I (v : Int32) : mm_I (ms_I M x a v) y b = if y = x ∧ b = a then v else mm_I M y b := rfl
theorem I_J (v : Int64) : mm_I (ms_J M x a v) = mm_I M := rfl
theorem I_R (v : Option Nat) : mm_I (ms_R M x a v) = mm_I M := rfl
theorem I_A (g : Nat → Int32) : mm_I (ms_A M a g) = mm_I M := rfl
theorem I_B (g : Nat → Int64) : mm_I (ms_B M a g) = mm_I M := rfl
theorem I_C (g : Nat → Option Nat) : mm_I (ms_C M a g) = mm_I M := rfl
theorem J_I (v : Int32) : mm_J (ms_I M x a v) = mm_J M := rfl
theorem J_J (v : Int64) : mm_J (ms_J M x a v) y b = if y = x ∧ b = a then v else mm_J M y b := rfl
theorem J_R (v : Option Nat) : mm_J (ms_R M x a v) = mm_J M := rfl
theorem J_A (g : Nat → Int32) : mm_J (ms_A M a g) = mm_J M := rfl
theorem J_B (g : Nat → Int64) : mm_J (ms_B M a g) = mm_J M := rfl
theorem J_C (g : Nat → Option Nat) : mm_J (ms_C M a g) = mm_J M := rfl
theorem R_I (v : Int32) : mm_R (ms_I M x a v) = mm_R M := rfl
theorem R_J (v : Int64) : mm_R (ms_J M x a v) = mm_R M := rfl
theorem R_R (v : Option Nat) : mm_R (ms_R M x a v) y b = if y = x ∧ b = a then v else mm_R M y b := rfl
theorem R_A (g : Nat → Int32) : mm_R (ms_A M a g) = mm_R M := rfl
theorem R_B (g : Nat → Int64) : mm_R (ms_B M a g) = mm_R M := rfl
theorem R_C (g : Nat → Option Nat) : mm_R (ms_C M a g) = mm_R M := rfl
theorem A_I (v : Int32) : mm_A (ms_I M x a v) = mm_A M := rfl
theorem A_J (v : Int64) : mm_A (ms_J M x a v) = mm_A M := rfl
theorem A_R (v : Option Nat) : mm_A (ms_R M x a v) = mm_A M := rfl
theorem A_A (g : Nat → Int32) : mm_A (ms_A M a g) b = if b = a then g else mm_A M b := rfl
theorem A_B (g : Nat → Int64) : mm_A (ms_B M a g) = mm_A M := rfl
theorem A_C (g : Nat → Option Nat) : mm_A (ms_C M a g) = mm_A M := rfl
theorem B_I (v : Int32) : mm_B (ms_I M x a v) = mm_B M := rfl
theorem B_J (v : Int64) : mm_B (ms_J M x a v) = mm_B M := rfl
theorem B_R (v : Option Nat) : mm_B (ms_R M x a v) = mm_B M := rfl
theorem B_A (g : Nat → Int32) : mm_B (ms_A M a g) = mm_B M := rfl
theorem B_B (g : Nat → Int64) : mm_B (ms_B M a g) b = if b = a then g else mm_B M b := rfl
theorem B_C (g : Nat → Option Nat) : mm_B (ms_C M a g) = mm_B M := rfl
theorem C_I (v : Int32) : mm_C (ms_I M x a v) = mm_C M := rfl
theorem C_J (v : Int64) : mm_C (ms_J M x a v) = mm_C M := rfl
theorem C_R (v : Option Nat) : mm_C (ms_R M x a v) = mm_C M := rfl
theorem C_A (g : Nat → Int32) : mm_C (ms_A M a g) = mm_C M := rfl
theorem C_B (g : Nat → Int64) : mm_C (ms_B M a g) = mm_C M := rfl
theorem C_C (g : Nat → Option Nat) : mm_C (ms_C M a g) b = if b = a then g else mm_C M b := rfl
end RW
theorem bn_eq {α β : Type} (x : α) (f : α → β) : bn x f = f x := rfl
theorem upd_eq (f : Nat → Int32) (k : Nat) (v : Int32) (j : Nat) : upd f k v j = if j = k then v else f j := rfl
/-- the reference's shape -/
def MS (B : Nat) (K L : Nat → Nat) (R : Nat → Nat → Option Nat) : Prop :=
  (K (B + 44) = 12 ∧ R 384 (B + 44) = some (B + 45) ∧ R 385 (B + 44) = some (B + 46) ∧ R 386 (B + 44) = some (B + 47) ∧ R 387 (B + 44) = some (B + 48) ∧ R 389 (B + 44) = some (B + 49) ∧ R 390 (B + 44) = some (B + 50) ∧ R 396 (B + 44) = some (B + 51) ∧ R 397 (B + 44) = some (B + 52) ∧ R 398 (B + 44) = some (B + 53) ∧ R 399 (B + 44) = some (B + 54)) ∧
  (K (B + 45) = 13 ∧ K (B + 46) = 13 ∧ K (B + 47) = 14 ∧ K (B + 48) = 14 ∧ K (B + 49) = 13 ∧ K (B + 50) = 13 ∧ K (B + 51) = 13 ∧ K (B + 52) = 15 ∧ K (B + 53) = 13 ∧ K (B + 54) = 13) ∧
  (L (B + 45) = 63040 ∧ L (B + 46) = 63040 ∧ L (B + 47) = 16 ∧ L (B + 48) = 16 ∧ L (B + 49) = 14 ∧ L (B + 50) = 16 ∧ L (B + 51) = 16 ∧ L (B + 52) = 16 ∧ L (B + 53) = 16 ∧ L (B + 54) = 20)
/-- the class's shape, but for its switches -/
def CS (B : Nat) (K L : Nat → Nat) (R : Nat → Nat → Option Nat) (C : Nat → Nat → Option Nat) : Prop :=
  (K B = 11 ∧ R 352 B = some (B + 1) ∧ R 353 B = some (B + 19) ∧ R 355 B = some (B + 37) ∧ R 356 B = some (B + 39) ∧ R 357 B = some (B + 43)) ∧
  (K (B + 1) = 8 ∧ R 256 (B + 1) = some (B + 2) ∧ K (B + 2) = 17 ∧ L (B + 2) = 16 ∧ ∀ p, p < 16 → C (B + 2) p = some (B + 3 + p) ∧ K (B + 3 + p) = 4) ∧
  (K (B + 19) = 8 ∧ R 256 (B + 19) = some (B + 20) ∧ K (B + 20) = 17 ∧ L (B + 20) = 16 ∧ ∀ p, p < 16 → C (B + 20) p = some (B + 21 + p) ∧ K (B + 21 + p) = 4) ∧
  (K (B + 37) = 1 ∧ R 39 (B + 37) = some (B + 38) ∧ K (B + 38) = 13 ∧ L (B + 38) = 16) ∧
  (K (B + 39) = 5 ∧ R 160 (B + 39) = some (B + 40) ∧ R 161 (B + 39) = some (B + 41) ∧ R 162 (B + 39) = some (B + 42) ∧ K (B + 40) = 13 ∧ L (B + 40) = 16 ∧ K (B + 41) = 13 ∧ L (B + 41) = 16 ∧ K (B + 42) = 13 ∧ L (B + 42) = 16) ∧
  (K (B + 43) = 13 ∧ L (B + 43) = 14)
/-- a switch's block -/
def BS (K L : Nat → Nat) (R : Nat → Nat → Option Nat) (C : Nat → Nat → Option Nat) (b : Nat) : Prop :=
  (K b = 9 ∧ R 291 b = some (b + 1) ∧ R 292 b = some (b + 6) ∧ R 297 b = some (b + 9) ∧ R 298 b = some (b + 11) ∧ R 299 b = some (b + 12) ∧ R 300 b = some (b + 13)) ∧
  (K (b + 1) = 6 ∧ R 193 (b + 1) = some (b + 2) ∧ R 194 (b + 1) = some (b + 3) ∧ R 195 (b + 1) = some (b + 4) ∧ R 196 (b + 1) = some (b + 5) ∧ K (b + 2) = 13 ∧ L (b + 2) = 6 ∧ K (b + 3) = 13 ∧ L (b + 3) = 6 ∧ K (b + 4) = 13 ∧ L (b + 4) = 6 ∧ K (b + 5) = 13 ∧ L (b + 5) = 6) ∧
  (K (b + 6) = 7 ∧ R 224 (b + 6) = some (b + 7) ∧ R 225 (b + 6) = some (b + 8) ∧ K (b + 7) = 13 ∧ L (b + 7) = 8 ∧ K (b + 8) = 13 ∧ L (b + 8) = 8) ∧
  (K (b + 9) = 3 ∧ R 96 (b + 9) = some (b + 10) ∧ K (b + 10) = 13 ∧ L (b + 10) = 20) ∧ K (b + 11) = 0 ∧ K (b + 12) = 10 ∧ K (b + 13) = 16 ∧ L (b + 13) = 4 ∧
  ∀ w, w < 4 → C (b + 13) w = some (b + 14 + 4 * w) ∧ K (b + 14 + 4 * w) = 2 ∧ R 66 (b + 14 + 4 * w) = some (b + 15 + 4 * w) ∧ R 67 (b + 14 + 4 * w) = some (b + 16 + 4 * w) ∧ R 68 (b + 14 + 4 * w) = some (b + 17 + 4 * w) ∧
    K (b + 15 + 4 * w) = 13 ∧ L (b + 15 + 4 * w) = 240 ∧ K (b + 16 + 4 * w) = 13 ∧ L (b + 16 + 4 * w) = 240 ∧ K (b + 17 + 4 * w) = 13 ∧ L (b + 17 + 4 * w) = 240
/-- the place cell q of 32: sixteen of the shelf, sixteen of the image -/
def qA (B q : Nat) : Nat := if q < 16 then B + 3 + q else B + 5 + q
def qc (R : Nat → Nat → Option Nat) (B : Nat) : Nat → Nat
  | 0 => 0
  | q + 1 => qc R B q + (if R 131 (qA B q) = none then 0 else 1)
def Sg (B n : Nat) (K L : Nat → Nat) (R : Nat → Nat → Option Nat) (C : Nat → Nat → Option Nat) : Prop :=
  MS B K L R ∧ CS B K L R C ∧ n = 55 + 30 * qc R B 32 ∧ ∃ j : Nat → Nat, (∀ q b, q < 32 → R 131 (qA B q) = some b → b = B + 55 + 30 * j q ∧ j q < qc R B 32 ∧ BS K L R C b) ∧ ∀ q q' b b', q < 32 → q' < 32 → R 131 (qA B q) = some b → R 131 (qA B q') = some b' → j q = j q' → q = q'
/-- what a switch's block b holds, beside the reference's row S from o on -/
def rSw (M : Mm) (b : Nat) (S : Nat → Int32) (o : Nat) : Prop := mm_I M 288 b = S o - 1 ∧ mm_I M 289 b = S (o + 1) ∧ mm_I M 290 b = S (o + 2) ∧ mm_I M 293 b = S (o + 44) ∧ (¬ S (o + 44) = -1 → mm_I M 294 b = S (o + 45)) ∧ mm_I M 295 b = S (o + 46) ∧ mm_I M 296 b = S (o + 47)
def rRu (M : Mm) (b : Nat) (S : Nat → Int32) (o : Nat) : Prop := ∃ k : Nat, k ≤ 6 ∧ S (o + 3) = nI k ∧ mm_I M 192 (b + 1) = nI k ∧ ∀ i, i < k → mm_A M (b + 2) i = S (o + 4 + 4 * i) ∧ mm_A M (b + 3) i = S (o + 5 + 4 * i) ∧ mm_A M (b + 4) i = S (o + 6 + 4 * i) ∧ mm_A M (b + 5) i = S (o + 7 + 4 * i) ∧ S (o + 4 + 4 * i) ∈ ([0, 1, 2] : List Int32) ∧ ∃ v : Nat, v < 8 ∧ S (o + 7 + 4 * i) = nI v
def rSh (M : Mm) (b : Nat) (S : Nat → Int32) (o : Nat) : Prop := ∀ w, 1 ≤ w → w < 8 → mm_A M (b + 7) w = S (o + 28 + w) ∧ mm_A M (b + 8) w = S (o + 36 + w) ∧ ∃ f s : Nat, f ≤ 9999 ∧ s ≤ 10000 ∧ S (o + 28 + w) = nI f ∧ S (o + 36 + w) = nI s
def rLa (M : Mm) (b : Nat) (S : Nat → Int32) (o : Nat) : Prop := ∃ k z : Nat, k ≤ 20 ∧ z ≤ 20 ∧ (0 < k → z ≤ k) ∧ S (o + 48) = nI k ∧ S (o + 69) = nI z - 1 ∧ mm_I M 97 (b + 9) = (if k = 0 then -1 else nI k) ∧ mm_I M 98 (b + 9) = nI z - 1 ∧ ∀ i, i < k → mm_A M (b + 10) i = S (o + 49 + i) ∧ ∃ v : Nat, v ≤ 10000 ∧ S (o + 49 + i) = nI v
def rBu (M : Mm) (b : Nat) (S : Nat → Int32) (o : Nat) : Prop := mm_I M 0 (b + 11) = S (o + 70) ∧ mm_I M 1 (b + 11) = S (o + 71) ∧ mm_I M 2 (b + 11) = S (o + 72) ∧ mm_I M 3 (b + 11) = S (o + 74) ∧ mm_I M 4 (b + 11) = S (o + 73) ∧ mm_I M 5 (b + 11) = S (o + 75) ∧ mm_I M 6 (b + 11) = S (o + 76) ∧ (∃ v : Nat, 1 ≤ v ∧ v ≤ 60 ∧ S (o + 70) = nI v) ∧ (∃ v : Nat, v ≤ 1000000 ∧ S (o + 71) = nI v) ∧ (∃ v : Nat, v ≤ 10000 ∧ S (o + 72) = nI v) ∧ (∃ v : Nat, v ≤ 100 ∧ S (o + 73) = nI v) ∧ (S (o + 74) = 0 ∨ S (o + 74) = 1)
def rTr (M : Mm) (b : Nat) (S : Nat → Int32) (o : Nat) : Prop := (∀ k, k < 11 → mm_I M (320 + k) (b + 12) = S (o + 77 + k)) ∧ (∃ x y : Nat, x < 4 ∧ y < 4 ∧ S (o + 77) = nI x ∧ S (o + 78) = nI y) ∧ (∃ v : Nat, 1 ≤ v ∧ v ≤ 5000 ∧ S (o + 79) = nI v) ∧ (∃ v : Nat, 1 ≤ v ∧ v ≤ 20 ∧ S (o + 80) = nI v) ∧ (∃ v : Nat, v ≤ 3 ∧ S (o + 82) = nI v)
/-- the counts of way w: told up to 'end', -1 where not told -/
def rCt (M : Mm) (b : Nat) (S : Nat → Int32) (o w : Nat) : Prop := mm_I M 64 (b + 14 + 4 * w) = S (o + 90 + w) ∧ (S (o + 90 + w) = 0 ∨ S (o + 90 + w) = 1) ∧ ∃ e : Nat, e ≤ 240 ∧ mm_I M 65 (b + 14 + 4 * w) = nI e ∧ ∀ m, m < 240 →
  (S (o + 100 + 4 * (240 * w + m)) = 0 ∧ S (o + 101 + 4 * (240 * w + m)) = 0 ∧ S (o + 102 + 4 * (240 * w + m)) = 0 ∧ S (o + 103 + 4 * (240 * w + m)) = 0 ∧ (m < e → mm_A M (b + 15 + 4 * w) m = -1)) ∨
  (S (o + 100 + 4 * (240 * w + m)) = 1 ∧ m < e ∧ mm_A M (b + 15 + 4 * w) m = S (o + 101 + 4 * (240 * w + m)) ∧ mm_A M (b + 16 + 4 * w) m = S (o + 102 + 4 * (240 * w + m)) ∧ mm_A M (b + 17 + 4 * w) m = S (o + 103 + 4 * (240 * w + m)) ∧ ∃ c f g : Nat, c ≤ 1000000 ∧ f ≤ c ∧ g ≤ c ∧ S (o + 101 + 4 * (240 * w + m)) = nI c ∧ S (o + 102 + 4 * (240 * w + m)) = nI f ∧ S (o + 103 + 4 * (240 * w + m)) = nI g)
def rAll (M : Mm) (b : Nat) (S : Nat → Int32) (o : Nat) : Prop := rSw M b S o ∧ rRu M b S o ∧ rSh M b S o ∧ rLa M b S o ∧ rBu M b S o ∧ rTr M b S o ∧ rCt M b S o 0 ∧ rCt M b S o 1 ∧ rCt M b S o 2 ∧ rCt M b S o 3
/-- what a switch's own numbers may be -/
def rOk (S : Nat → Int32) (o : Nat) : Prop := (∃ v : Nat, v ≤ 9999 ∧ S (o + 1) = nI v) ∧ (∃ v : Nat, v ≤ 9999 ∧ S (o + 2) = nI v) ∧ (S (o + 44) = -1 ∨ ∃ v : Nat, v < 16 ∧ S (o + 44) = nI v) ∧ (∃ v : Nat, v < 65536 ∧ S (o + 46) = nI v) ∧ (S (o + 47) = 0 ∨ S (o + 47) = 1) ∧ (S o = nI 2 ∨ S o = nI 3 ∨ S (o + 69) = -1) ∧ (S o = nI 4 ∨ S o = nI 5 ∨ S (o + 44) = -1)
/-- a place cell a beside the reference's row S from o on, and its note -/
def PR (M : Mm) (a : Nat) (S : Nat → Int32) (o : Nat) (nt : Int64) : Prop := ∃ h : Nat, h ≤ 6 ∧ S o = nI h ∧
  (h = 0 → mm_R M 128 a = none ∧ mm_I M 129 a = 0) ∧ (h = 6 → mm_R M 128 a = none ∧ mm_I M 129 a = 1 ∧ mm_J M 130 a = nt) ∧
  (1 ≤ h → h ≤ 5 → mm_I M 129 a = 0 ∧ rOk S o ∧ ∃ b, mm_R M 128 a = some b ∧ mm_R M 131 a = some b ∧ rAll M b S o)
/-- who asks whom, in the reference's rows -/
def asksS (S : Nat → Int32) (p q : Nat) : Prop := ((S (3940 * p) = 4 ∨ S (3940 * p) = 5) ∧ S (3940 * p + 44) = nI q) ∨ ∃ t, t < 16 ∧ S (3940 * t) = 5 ∧ ((S (3940 * t + 46)).toInt.toNat / 2 ^ p) % 2 = 1 ∧ S (3940 * t + 44) = nI q
def noRing (S : Nat → Int32) : Prop := ∃ rk : Nat → Nat, (∀ p, rk p < 16) ∧ ∀ p q, p < 16 → q < 16 → asksS S p q → rk q < rk p
def Cd (B : Nat) (M : Mm) : Prop :=
  (∀ p, p < 16 → PR M (B + 3 + p) (mm_A M (B + 45)) (3940 * p) (mm_B M (B + 47) p)) ∧ (∀ p, p < 16 → PR M (B + 21 + p) (mm_A M (B + 46)) (3940 * p) (mm_B M (B + 48) p)) ∧
  noRing (mm_A M (B + 45)) ∧ noRing (mm_A M (B + 46)) ∧ (∀ i, i < 14 → mm_A M (B + 43) i = mm_A M (B + 49) i) ∧
  (mm_I M 32 (B + 37) = mm_I M 392 (B + 44) ∧ mm_I M 33 (B + 37) = mm_I M 393 (B + 44) ∧ mm_I M 34 (B + 37) = mm_I M 394 (B + 44) ∧ mm_I M 35 (B + 37) = mm_I M 395 (B + 44) ∧ ∃ v : Nat, v ≤ 999999 ∧ mm_I M 392 (B + 44) = nI v) ∧
  (mm_I M 354 B = mm_I M 388 (B + 44) ∧ (mm_I M 354 B = 0 ∨ mm_I M 354 B = 1)) ∧
  (∃ z : Nat, z ≤ 16 ∧ mm_I M 163 (B + 39) = nI z ∧ mm_I M 391 (B + 44) = nI z ∧ ∀ i, i < z → mm_A M (B + 42) i = mm_A M (B + 50) i ∧ ∃ v : Nat, v < 16 ∧ mm_A M (B + 50) i = nI v)
def Iv : IvT := fun B n K L M => Sg B n K L (mm_R M) (mm_C M) ∧ Cd B M
