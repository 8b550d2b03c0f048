/-! look: chances -/
theorem bi_pos : ∀ {n k : Nat}, k ≤ n → 1 ≤ bi n k
  | n, 0, _ => by rw [bi_0]; omega
  | 0, k + 1, h => by omega
  | n + 1, k + 1, h => by
    have := bi_pos (n := n) (k := k) (by omega)
    rw [bi_s]
    omega
def mlc (al : Nat) : Nat → Nat → Nat → Nat
  | 0, c, _ => c
  | k + 1, c, r => mlc al k (c * 10 + r * 10 / al) (r * 10 % al)
theorem mlc_1 (al : Nat) : mlc al 6 1 0 = 1000000 := by
  simp [mlc]
theorem qN_32 (x : Nat) : (qN x).toInt32 = nI x := by
  unfold qN
  exact Int64.toInt32_ofNat' 
section ML
variable {fu al : Nat}
theorem mil_c (h0 : 0 < al) (h1 : al ≤ 118264581564861424) : ∀ (d g i c r : Nat), i + d = 6 → d < g → r < al → f_X10_inMillionths_21 fu g (qN al) (qN c) (qN r) (nI i) = some (nI (mlc al d c r)) := by
  intro d
  induction d with
  | zero =>
    intro g i c r hi hg hr
    obtain ⟨g, rfl⟩ : ∃ g', g = g' + 1 := ⟨g - 1, by omega⟩
    have : i = 6 := by omega
    subst this
    show f_X10_inMillionths_21b fu (f_X10_inMillionths_21 fu g) (qN al) (qN c) (qN r) (nI 6) = _
    unfold f_X10_inMillionths_21b
    rw [if_pos (by decide), qN_32]
    rfl
  | succ d ih =>
    intro g i c r hi hg hr
    obtain ⟨g, rfl⟩ : ∃ g', g = g' + 1 := ⟨g - 1, by omega⟩
    show f_X10_inMillionths_21b fu (f_X10_inMillionths_21 fu g) (qN al) (qN c) (qN r) (nI i) = _
    unfold f_X10_inMillionths_21b
    rw [if_neg (show ¬ (6 : Int32) ≤ nI i by rw [t_le, nI_toInt (by omega), show (6 : Int32).toInt = 6 from rfl]; omega), nzl_ok h0 (by omega)]
    simp only [Option.bind_some, bn_eq]
    rw [show (10 : Int64) = qN 10 from rfl, qN_mul r 10, qN_mod (x := r * 10) (by omega) (by omega), qN_div (x := r * 10) (by omega) (by omega), qN_mul c 10, qN_add, nI_1]
    exact ih g (i + 1) _ _ (by omega) (by omega) (Nat.mod_lt _ h0)
theorem mil_m {K L : Nat → Nat} {M : Mm} {a : Nat} (h0 : 0 < al) (h1 : al ≤ 118264581564861424) (hJ : mm_J M 408 a = qN al) : ∀ (d g i c r : Nat), i + d = 6 → d < g → r < al → f_X12_millionths_25 K L fu M a g (nI c) (qN r) (nI i) = some (nI (mlc al d c r)) := by
  intro d
  induction d with
  | zero =>
    intro g i c r hi hg hr
    obtain ⟨g, rfl⟩ : ∃ g', g = g' + 1 := ⟨g - 1, by omega⟩
    have : i = 6 := by omega
    subst this
    show f_X12_millionths_25b K L fu (f_X12_millionths_25 K L fu M a g) M a (nI c) (qN r) (nI 6) = _
    unfold f_X12_millionths_25b
    rw [if_pos (by decide)]
    rfl
  | succ d ih =>
    intro g i c r hi hg hr
    obtain ⟨g, rfl⟩ : ∃ g', g = g' + 1 := ⟨g - 1, by omega⟩
    show f_X12_millionths_25b K L fu (f_X12_millionths_25 K L fu M a g) M a (nI c) (qN r) (nI i) = _
    unfold f_X12_millionths_25b
    rw [if_neg (show ¬ (6 : Int32) ≤ nI i by rw [t_le, nI_toInt (by omega), show (6 : Int32).toInt = 6 from rfl]; omega), show mm_J M (32 * 12 + 24) a = _ from hJ, nzl_ok h0 (by omega)]
    simp only [Option.bind_some, bn_eq]
    rw [show (10 : Int64) = qN 10 from rfl, qN_mul, qN_mod (by omega) (by omega), qN_div (by omega) (by omega), qN_32, show (10 : Int32) = nI 10 from rfl, pk_mul, nI_add, nI_1, Nat.mul_comm 10 c]
    exact ih g (i + 1) _ _ (by omega) (by omega) (Nat.mod_lt _ h0)
theorem millionths_c {ap : Nat} (h0 : 0 < al) (h1 : al ≤ 118264581564861424) (ha : ap ≤ al) (hfu : 1000 ≤ fu) : f_X10_inMillionths fu (qN ap) (qN al) = some (nI (if ap < al then mlc al 6 0 ap else 1000000)) := by
  unfold f_X10_inMillionths
  rw [if_pos (by rw [lgc_gt, qN_t (by omega), show (0 : Int64).toInt = 0 from rfl]; omega), nzl_ok h0 (by omega)]
  simp only [Option.bind_some, bn_eq]
  rw [qN_mod (by omega) (by omega), qN_div (by omega) (by omega)]
  have := mil_c (fu := fu) h0 h1 6 fu 0 (ap / al) (ap % al) (by omega) (by omega) (Nat.mod_lt _ h0)
  refine (show f_X10_inMillionths_21 fu fu (qN al) (qN (ap / al)) (qN (ap % al)) 0 = _ from this).trans ?_
  by_cases q : ap < al
  · rw [if_pos q, Nat.div_eq_of_lt q, Nat.mod_eq_of_lt q]
  · have e : ap = al := by omega
    rw [if_neg q, e, Nat.div_self h0, Nat.mod_self, mlc_1]
theorem millionths_m {K L : Nat → Nat} {M : Mm} {a ap : Nat} (h0 : 0 < al) (h1 : al ≤ 118264581564861424) (ha : ap ≤ al) (hfu : 1000 ≤ fu) (hJ : mm_J M 407 a = qN ap) (hJ2 : mm_J M 408 a = qN al) : f_X12_millionths K L fu M a = some (nI (if ap < al then mlc al 6 0 ap else 1000000)) := by
  unfold f_X12_millionths
  rw [show mm_J M (32 * 12 + 23) a = _ from hJ, show mm_J M (32 * 12 + 24) a = _ from hJ2]
  have hl : lg_cmp (qN ap) (qN al) < 0 ↔ ap < al := by rw [lgc_lt, qN_t (by omega), qN_t (by omega)]; omega
  by_cases q : ap < al
  · rw [if_pos (hl.mpr q), if_pos q, bn_eq]
    exact mil_m (fu := fu) h0 h1 hJ2 6 fu 0 0 ap (by omega) (by omega) q
  · rw [if_neg (fun x => q (hl.mp x)), if_neg q]
    rfl
end ML
theorem lgc_le (x y : Int64) : lg_cmp x y ≤ 0 ↔ x.toInt ≤ y.toInt := by
  rw [← Int32.not_lt, lgc_gt]
  omega
theorem lgc_eq (x y : Int64) : lg_cmp x y = 0 ↔ x.toInt = y.toInt := by
  have h1 := lgc_lt x y
  have h2 := lgc_gt x y
  constructor
  · intro h
    rw [h] at h1 h2
    have n : ¬ (0 : Int32) < 0 := by decide
    have a : ¬ x.toInt < y.toInt := fun q => n (h1.mpr q)
    have b : ¬ y.toInt < x.toInt := fun q => n (h2.mpr q)
    omega
  · intro h
    unfold lg_cmp
    have e : x = y := Int64.toInt_inj.mp h
    subst e
    simp
/-- rare: as told by both -/
theorem rare_iff {ap al part sc : Nat} (hs : 0 < sc) : ap ≤ part * (al / sc) + part * (al % sc) / sc ↔ ap * sc ≤ part * al := by
  have e : part * (al / sc) + part * (al % sc) / sc = part * al / sc := by
    have h3 := Nat.div_add_mod al sc
    generalize al / sc = q at *
    generalize al % sc = r at *
    rw [← h3, Nat.mul_add, ← Nat.mul_assoc, Nat.mul_comm part sc, Nat.mul_assoc, Nat.add_comm (sc * (part * q)), Nat.add_mul_div_left _ _ hs]
    omega
  rw [e]
  exact Nat.le_div_iff_mul_le hs
theorem rare_c {K L : Nat → Nat} {M : Mm} {a ap al part looks : Nat} (hp : 1 ≤ part ∧ part ≤ 5000) (hl : 1 ≤ looks ∧ looks ≤ 20) (h1 : al ≤ 118264581564861424) (ha : ap ≤ al) (i3 : mm_I M 323 a = nI looks) (i2 : mm_I M 322 a = nI part) : f_X10_isRare K L M a (qN ap) (qN al) = some (if ap * (10000 * looks) ≤ part * al then 1 else 0) := by
  unfold f_X10_isRare
  have hsc : 10000 * looks ≤ 200000 := by omega
  have hd : al / (10000 * looks) ≤ al / 10000 := Nat.div_le_div_left (by omega) (by decide)
  have hd2 : al / 10000 * 10000 ≤ al := Nat.div_mul_le_self al 10000
  have hm : al % (10000 * looks) < 10000 * looks := Nat.mod_lt _ (by omega)
  have hx : part * (al / (10000 * looks)) ≤ 5000 * (al / 10000) := Nat.mul_le_mul hp.2 hd
  have hy : part * (al % (10000 * looks)) ≤ 5000 * 200000 := Nat.mul_le_mul hp.2 (by omega)
  have hz : part * (al % (10000 * looks)) / (10000 * looks) ≤ part * (al % (10000 * looks)) := Nat.div_le_self _ _
  rw [bn_eq, show mm_I M (32 * 10 + 3) a = _ from i3, show mm_I M (32 * 10 + 2) a = _ from i2, nI_q (show looks < 2 ^ 31 by omega), nI_q (show part < 2 ^ 31 by omega), show (10000 : Int64) = qN 10000 from rfl, qN_mul, if_pos (by rw [lgc_gt, qN_t (by omega), show (0 : Int64).toInt = 0 from rfl]; omega), nzl_ok (by omega) (by omega)]
  simp only [Option.bind_some]
  rw [qN_mod (by omega) (by omega), qN_div (by omega) (by omega), qN_mul, qN_mul, qN_div (by omega) (by omega), qN_add]
  have hc : 0 < lg_cmp (qN ap) (qN (part * (al / (10000 * looks)) + part * (al % (10000 * looks)) / (10000 * looks))) ↔ ¬ ap * (10000 * looks) ≤ part * al := by
    rw [lgc_gt, qN_t (by omega), qN_t (by omega), ← rare_iff (by omega)]
    omega
  by_cases q : ap * (10000 * looks) ≤ part * al
  · rw [if_neg (fun x => hc.mp x q), if_pos q]
  · rw [if_pos (hc.mpr q), if_neg q]
theorem e9 : (1000000000 : Int64) = qN 1000000000 := by
  first | (unfold qN; simp; done) | decide
theorem split9 (x y : Nat) : x * y = (x / 1000000000 * y + x % 1000000000 * y / 1000000000) * 1000000000 + x % 1000000000 * y % 1000000000 := by
  have h1 := Nat.div_add_mod x 1000000000
  have h2 := Nat.div_add_mod (x % 1000000000 * y) 1000000000
  generalize x / 1000000000 = q at *
  generalize x % 1000000000 = r at *
  rw [← h1, Nat.add_mul, Nat.add_mul, Nat.mul_assoc, Nat.mul_comm 1000000000]
  omega
theorem ab_hi {q r y t : Nat} (hq : q ≤ 118264581) (hr : r < 1000000000) (hy : y ≤ 200000) (ht : t ≤ r * y) : q * y + t < 2 ^ 62 ∧ r * y < 2 ^ 62 := by
  have h1 := Nat.mul_le_mul hq hy
  have h2 := Nat.mul_le_mul (Nat.le_of_lt hr) hy
  omega
theorem ab_cmp {hi1 hi2 lo1 lo2 : Nat} (h1 : hi1 < 2 ^ 62) (h2 : hi2 < 2 ^ 62) (l1 : lo1 < 1000000000) (l2 : lo2 < 1000000000) : (if lg_cmp (qN hi1) (qN hi2) = 0 then (if lg_cmp (qN lo1) (qN lo2) ≤ 0 then some (0 : Int32) else some 1) else if lg_cmp (qN hi1) (qN hi2) ≤ 0 then some 0 else some 1) = some (if hi1 * 1000000000 + lo1 ≤ hi2 * 1000000000 + lo2 then 0 else 1) := by
  have t1 : (qN hi1).toInt = hi1 := qN_t (by omega)
  have t2 : (qN hi2).toInt = hi2 := qN_t (by omega)
  have t3 : (qN lo1).toInt = lo1 := qN_t (by omega)
  have t4 : (qN lo2).toInt = lo2 := qN_t (by omega)
  have c1 : lg_cmp (qN hi1) (qN hi2) = 0 ↔ hi1 = hi2 := by rw [lgc_eq, t1, t2]; omega
  have c2 : lg_cmp (qN hi1) (qN hi2) ≤ 0 ↔ hi1 ≤ hi2 := by rw [lgc_le, t1, t2]; omega
  have c3 : lg_cmp (qN lo1) (qN lo2) ≤ 0 ↔ lo1 ≤ lo2 := by rw [lgc_le, t3, t4]; omega
  by_cases e1 : hi1 = hi2
  · rw [if_pos (c1.mpr e1)]
    by_cases e2 : lo1 ≤ lo2
    · rw [if_pos (c3.mpr e2), if_pos (by omega)]
    · rw [if_neg (fun q => e2 (c3.mp q)), if_neg (by omega)]
  · rw [if_neg (fun q => e1 (c1.mp q))]
    by_cases e2 : hi1 ≤ hi2
    · rw [if_pos (c2.mpr e2), if_pos (by omega)]
    · rw [if_neg (fun q => e2 (c2.mp q)), if_neg (by omega)]
theorem ab_q {x : Nat} (hx : x ≤ 118264581564861424) : x / 1000000000 ≤ 118264581 := Nat.le_trans (Nat.div_le_div_right hx) (by decide)
theorem ab_r (x : Nat) : x % 1000000000 < 1000000000 := Nat.mod_lt _ (by decide)
theorem ab_x {x : Nat} (hx : x < 2 ^ 62) : x < 2 ^ 63 := Nat.lt_trans hx (by decide)
def abG (D v0 v2 v4 v6 : Int64) : Option Int32 :=
  bn ((v0 - v0 / D * D) * v2) (fun x1 =>
  bn (((v0 / D) * v2) + (x1 / D)) (fun x3 =>
  bn ((v4 - v4 / D * D) * v6) (fun x5 =>
  bn (((v4 / D) * v6) + (x5 / D)) (fun x7 =>
  if (lg_cmp x3 x7) = 0 then
    if (lg_cmp (x1 - x1 / D * D) (x5 - x5 / D * D)) ≤ 0 then
      some (0 : Int32)
    else
      some (1 : Int32)
  else
    if (lg_cmp x3 x7) ≤ 0 then
      some (0 : Int32)
    else
      some (1 : Int32)))))
theorem abG_def (v0 v2 v4 v6 : Int64) : f_X12_isAbove v0 v2 v4 v6 = abG (1000000000 : Int64) v0 v2 v4 v6 := rfl
theorem abG_eq (D v0 v2 v4 v6 : Int64) : abG D v0 v2 v4 v6 = if (lg_cmp (((v0 / D) * v2) + (((v0 - v0 / D * D) * v2) / D)) (((v4 / D) * v6) + (((v4 - v4 / D * D) * v6) / D))) = 0 then (if (lg_cmp (((v0 - v0 / D * D) * v2) - ((v0 - v0 / D * D) * v2) / D * D) (((v4 - v4 / D * D) * v6) - ((v4 - v4 / D * D) * v6) / D * D)) ≤ 0 then some (0 : Int32) else some 1) else if (lg_cmp (((v0 / D) * v2) + (((v0 - v0 / D * D) * v2) / D)) (((v4 / D) * v6) + (((v4 - v4 / D * D) * v6) / D))) ≤ 0 then some 0 else some 1 := rfl
theorem above_g {D x y u v : Nat} (n63 : D < 2 ^ 63) (x63 : x < 2 ^ 63) (u63 : u < 2 ^ 63) (a2 : x % D * y < 2 ^ 63) (b2 : u % D * v < 2 ^ 63) : abG (qN D) (qN x) (qN y) (qN u) (qN v) = if lg_cmp (qN (x / D * y + x % D * y / D)) (qN (u / D * v + u % D * v / D)) = 0 then (if lg_cmp (qN (x % D * y % D)) (qN (u % D * v % D)) ≤ 0 then some (0 : Int32) else some 1) else if lg_cmp (qN (x / D * y + x % D * y / D)) (qN (u / D * v + u % D * v / D)) ≤ 0 then some 0 else some 1 := by
  rw [abG_eq, qN_mod x63 n63, qN_mod u63 n63, qN_mul (x % D) y, qN_mul (u % D) v, qN_mod a2 n63, qN_mod b2 n63, qN_div x63 n63, qN_div u63 n63, qN_div a2 n63, qN_div b2 n63, qN_mul (x / D) y, qN_mul (u / D) v, qN_add, qN_add]
theorem above_m {x y u v : Nat} (hx : x ≤ 118264581564861424) (hu : u ≤ 118264581564861424) (hy : y ≤ 200000) (hv : v ≤ 200000) : f_X12_isAbove (qN x) (qN y) (qN u) (qN v) = some (if x * y ≤ u * v then 0 else 1) := by
  obtain ⟨a1, a2⟩ := ab_hi (ab_q hx) (ab_r x) hy (Nat.div_le_self (x % 1000000000 * y) 1000000000)
  obtain ⟨b1, b2⟩ := ab_hi (ab_q hu) (ab_r u) hv (Nat.div_le_self (u % 1000000000 * v) 1000000000)
  have x63 : x < 2 ^ 63 := Nat.lt_of_le_of_lt hx (by decide)
  have u63 : u < 2 ^ 63 := Nat.lt_of_le_of_lt hu (by decide)
  have n63 : 1000000000 < 2 ^ 63 := by decide
  have s1 := split9 x y
  have s2 := split9 u v
  have e := ab_cmp a1 b1 (ab_r (x % 1000000000 * y)) (ab_r (u % 1000000000 * v))
  rw [← s1, ← s2] at e
  rw [abG_def, e9]
  exact (above_g n63 x63 u63 (ab_x a2) (ab_x b2)).trans e
