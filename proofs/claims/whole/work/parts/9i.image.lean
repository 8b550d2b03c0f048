/-! image, restore -/
def swc (S : Nat → Int32) : Nat → Nat
  | 0 => 0
  | p + 1 => swc S p + (if S (3940 * p) = 0 ∨ S (3940 * p) = 6 then 0 else 1)
theorem swc_le (S : Nat → Int32) : ∀ p, swc S p ≤ p
  | 0 => Nat.le_refl _
  | p + 1 => by
    have := swc_le S p
    show swc S p + (if S (3940 * p) = 0 ∨ S (3940 * p) = 6 then 0 else 1) ≤ p + 1
    split <;> omega
theorem swc_cg {S S' : Nat → Int32} : ∀ p, (∀ q, q < p → S' (3940 * q) = S (3940 * q)) → swc S' p = swc S p
  | 0, _ => rfl
  | p + 1, h => by
    show swc S' p + (if S' (3940 * p) = 0 ∨ S' (3940 * p) = 6 then 0 else 1) = swc S p + (if S (3940 * p) = 0 ∨ S (3940 * p) = 6 then 0 else 1)
    rw [swc_cg p (fun q hq => h q (by omega)), h p (by omega)]
section SWC
variable {B : Nat} {K L : Nat → Nat} {M : Mm} {fu D d : Nat}
theorem switchAt_g {p : Nat} (h : ShF B K L (mm_R M) (mm_C M) D d) (hp : p < 16) : f_X8_switchAt K L M D (nI p) = some (mm_R M 128 (qA B (d + p))) := by
  obtain ⟨h1, h2, h3, h4, h5⟩ := h
  unfold f_X8_switchAt f_X8_placeAt
  rw [within_eq, show (15 : Int32).toInt = 15 from rfl, if_pos (pl_t hp), show mm_R M (32 * 8 + 0) D = _ from h2, rx_ok h3 h4 hp (by decide)]
  simp only [Option.bind_some]
  rw [if_neg (by decide), nI_clamp (by omega), (h5 p hp).1]
  simp only [Option.bind_some, rc_ok (h5 p hp).2]
  rw [if_neg (by simp)]
theorem scount_c {S : Nat → Int32} {N : Nat → Int64} (h : ShF B K L (mm_R M) (mm_C M) D d) (pr : ∀ p, p < 16 → PR M (qA B (d + p)) S (3940 * p) (N p)) : ∀ (k g p : Nat), p + k = 16 → k < g → f_X8_switchCount_4 K L fu M D g (nI (swc S p)) (nI p) = some (nI (swc S 16)) := by
  intro k
  induction k with
  | zero =>
    intro g p h1 h2
    obtain ⟨g, rfl⟩ : ∃ g', g = g' + 1 := ⟨g - 1, by omega⟩
    have : p = 16 := by omega
    subst this
    show f_X8_switchCount_4b K L fu (f_X8_switchCount_4 K L fu M D g) M D (nI (swc S 16)) (nI 16) = _
    unfold f_X8_switchCount_4b
    rw [if_pos (by decide)]
  | succ k ih =>
    intro g p h1 h2
    obtain ⟨g, rfl⟩ : ∃ g', g = g' + 1 := ⟨g - 1, by omega⟩
    show f_X8_switchCount_4b K L fu (f_X8_switchCount_4 K L fu M D g) M D (nI (swc S p)) (nI p) = _
    unfold f_X8_switchCount_4b
    rw [if_neg (show ¬ (16 : Int32) ≤ nI p by rw [t_le, nI_toInt (by omega), show (16 : Int32).toInt = 16 from rfl]; omega), switchAt_g h (by omega)]
    simp only [Option.bind_some, nI_1]
    have hs : swc S (p + 1) = swc S p + (if S (3940 * p) = 0 ∨ S (3940 * p) = 6 then 0 else 1) := rfl
    have ihp := ih g (p + 1) (by omega) (by omega)
    obtain ⟨hh, i1, i2, i3, i4, i5⟩ := pr p (by omega)
    have z0 : S (3940 * p) = 0 ↔ hh = 0 := by rw [i2]; exact nI_eq (b := 0) (by omega) (by omega)
    have z6 : S (3940 * p) = 6 ↔ hh = 6 := by rw [i2]; exact nI_eq (b := 6) (by omega) (by omega)
    by_cases x0 : hh = 0
    · rw [if_pos (Or.inl (z0.mpr x0))] at hs
      rw [if_pos (i3 x0).1, ← ihp, hs]
      rfl
    · by_cases x6 : hh = 6
      · rw [if_pos (Or.inr (z6.mpr x6))] at hs
        rw [if_pos (i4 x6).1, ← ihp, hs]
        rfl
      · obtain ⟨-, -, b, j3, -⟩ := i5 (by omega) (by omega)
        rw [if_neg (fun q => q.elim (fun a => x0 (z0.mp a)) (fun a => x6 (z6.mp a)))] at hs
        rw [if_neg (by rw [j3]; simp), ← ihp, hs]
theorem scount_m (hM : MS B K L (mm_R M)) {S : Nat → Int32} (hS : mm_A M (B + 45) = S) (h6 : ∀ p, p < 16 → ∃ hh : Nat, hh ≤ 6 ∧ S (3940 * p) = nI hh) : ∀ (k g p : Nat), p + k = 16 → k < g → f_X12_switches_4 K L fu M (B + 44) g (nI (swc S p)) (nI p) = some (nI (swc S 16)) := by
  intro k
  induction k with
  | zero =>
    intro g p h1 h2
    obtain ⟨g, rfl⟩ : ∃ g', g = g' + 1 := ⟨g - 1, by omega⟩
    have : p = 16 := by omega
    subst this
    show f_X12_switches_4b K L fu (f_X12_switches_4 K L fu M (B + 44) g) M (B + 44) (nI (swc S 16)) (nI 16) = _
    unfold f_X12_switches_4b
    rw [if_pos (by decide)]
  | succ k ih =>
    intro g p h1 h2
    obtain ⟨g, rfl⟩ : ∃ g', g = g' + 1 := ⟨g - 1, by omega⟩
    show f_X12_switches_4b K L fu (f_X12_switches_4 K L fu M (B + 44) g) M (B + 44) (nI (swc S p)) (nI p) = _
    unfold f_X12_switches_4b
    have hs : swc S (p + 1) = swc S p + (if S (3940 * p) = 0 ∨ S (3940 * p) = 6 then 0 else 1) := rfl
    have ihp := ih g (p + 1) (by omega) (by omega)
    obtain ⟨hh, i1, i2⟩ := h6 p (by omega)
    have z0 : S (3940 * p) = 0 ↔ hh = 0 := by rw [i2]; exact nI_eq (b := 0) (by omega) (by omega)
    have z6 : S (3940 * p) = 6 ↔ hh = 6 := by rw [i2]; exact nI_eq (b := 6) (by omega) (by omega)
    have hsw : f_X12_isSwitch K L M (B + 44) (nI p) = some (if hh = 0 ∨ hh = 6 then 0 else 1) := by
      unfold f_X12_isSwitch
      simp only [m_of0 hM (show p < 16 by omega), hS, i2, Option.bind_some]
      rcases six i1 with rfl | rfl | rfl | rfl | rfl | rfl | rfl <;> decide
    rw [if_neg (show ¬ (16 : Int32) ≤ nI p by rw [t_le, nI_toInt (by omega), show (16 : Int32).toInt = 16 from rfl]; omega), hsw]
    simp only [Option.bind_some, f_X12_switches_24, bn_eq, nI_1]
    by_cases x0 : hh = 0 ∨ hh = 6
    · rw [if_pos (by rcases x0 with x | x; exact Or.inl (z0.mpr x); exact Or.inr (z6.mpr x))] at hs
      rw [if_pos x0, if_pos rfl, ← ihp, hs]
      show f_X12_switches_4 K L fu M (B + 44) g (nI (swc S p) + 0) _ = _
      rw [Int32.add_zero]
      rfl
    · rw [if_neg (fun q => x0 (q.elim (fun a => Or.inl (z0.mp a)) (fun a => Or.inr (z6.mp a))))] at hs
      rw [if_neg x0, if_neg (by decide), ← ihp, hs]
end SWC
theorem ms_B_self (M : Mm) (a : Nat) : ms_B M a (mm_B M a) = M := by
  obtain ⟨m1, m2, m3, m4, m5, m6⟩ := M
  have e : (fun b => if b = a then m5 a else m5 b) = m5 := by
    funext b
    by_cases h : b = a
    · rw [if_pos h, h]
    · rw [if_neg h]
  show (m1, m2, m3, m4, (fun b => if b = a then m5 a else m5 b), m6) = _
  rw [e]
theorem ms_B_B (M : Mm) (a : Nat) (g h : Nat → Int64) : ms_B (ms_B M a g) a h = ms_B M a h := by
  obtain ⟨m1, m2, m3, m4, m5, m6⟩ := M
  show (m1, m2, m3, m4, (fun b => if b = a then h else if b = a then g else m5 b), m6) = (m1, m2, m3, m4, (fun b => if b = a then h else m5 b), m6)
  congr 5
  funext b
  by_cases q : b = a
  · rw [if_pos q, if_pos q]
  · rw [if_neg q, if_neg q, if_neg q]
section IMG
variable {B : Nat} {K L : Nat → Nat} {fu : Nat}
theorem img_loop : ∀ (k g i : Nat) (M : Mm), MS B K L (mm_R M) → i + k = 63040 → k < g → f_X12_image_2 K L fu (B + 44) g (nI i) M = f_X12_image_28 K L fu (B + 44) fu 0 (ms_A M (B + 46) (fun j => if i ≤ j ∧ j < 63040 then mm_A M (B + 45) j else mm_A M (B + 46) j)) := by
  intro k
  induction k with
  | zero =>
    intro g i M hM h1 h2
    obtain ⟨g, rfl⟩ : ∃ g', g = g' + 1 := ⟨g - 1, by omega⟩
    have hi : i = 63040 := by omega
    subst hi
    show f_X12_image_2b K L fu (f_X12_image_2 K L fu (B + 44) g) (B + 44) (nI 63040) M = _
    unfold f_X12_image_2b
    rw [if_pos (by decide)]
    have e : (fun j => if 63040 ≤ j ∧ j < 63040 then mm_A M (B + 45) j else mm_A M (B + 46) j) = mm_A M (B + 46) := by
      funext j
      rw [if_neg (by omega)]
    rw [e, ms_A_self]
  | succ k ih =>
    intro g i M hM h1 h2
    obtain ⟨g, rfl⟩ : ∃ g', g = g' + 1 := ⟨g - 1, by omega⟩
    show f_X12_image_2b K L fu (f_X12_image_2 K L fu (B + 44) g) (B + 44) (nI i) M = _
    unfold f_X12_image_2b
    rw [if_neg (show ¬ (63040 : Int32) ≤ nI i by rw [t_le, nI_toInt (by omega), show (63040 : Int32).toInt = 63040 from rfl]; omega), show mm_R M (32 * 12 + 0) (B + 44) = _ from hM.1.2.1, show mm_R M (32 * 12 + 1) (B + 44) = _ from hM.1.2.2.1, rx_ok hM.2.1.1 hM.2.2.1 (show i < 63040 by omega) (by decide), rx_ok hM.2.1.2.1 hM.2.2.2.1 (show i < 63040 by omega) (by decide)]
    simp only [Option.bind_some, bn_eq, nI_1]
    have e : (fun j => if i + 1 ≤ j ∧ j < 63040 then mm_A (ms_A M (B + 46) (upd (mm_A M (B + 46)) i (mm_A M (B + 45) i))) (B + 45) j else mm_A (ms_A M (B + 46) (upd (mm_A M (B + 46)) i (mm_A M (B + 45) i))) (B + 46) j) = (fun j => if i ≤ j ∧ j < 63040 then mm_A M (B + 45) j else mm_A M (B + 46) j) := by
      funext j
      rw [A_A, if_neg (show ¬ B + 45 = B + 46 by omega), A_A, if_pos rfl, upd_eq]
      by_cases q : j = i
      · rw [if_neg (show ¬ (i + 1 ≤ j ∧ j < 63040) by omega), if_pos q, if_pos (by omega), q]
      · rw [if_neg q]
        by_cases q2 : i ≤ j ∧ j < 63040
        · rw [if_pos q2, if_pos (by omega)]
        · rw [if_neg q2, if_neg (by omega)]
    rw [nI_clamp (by omega), ih g (i + 1) (ms_A M (B + 46) (upd (mm_A M (B + 46)) i (mm_A M (B + 45) i))) hM (by omega) (by omega), ms_A_A, e]
theorem img_loop2 : ∀ (k g i : Nat) (M : Mm), MS B K L (mm_R M) → i + k = 16 → k < g → f_X12_image_28 K L fu (B + 44) g (nI i) M = Option.bind (f_X12_switches K L fu (ms_I (ms_B M (B + 48) (fun j => if i ≤ j ∧ j < 16 then mm_B M (B + 47) j else mm_B M (B + 48) j)) 388 (B + 44) 1) (B + 44)) (fun x3 => some (x3, ms_I (ms_B M (B + 48) (fun j => if i ≤ j ∧ j < 16 then mm_B M (B + 47) j else mm_B M (B + 48) j)) 388 (B + 44) 1)) := by
  intro k
  induction k with
  | zero =>
    intro g i M hM h1 h2
    obtain ⟨g, rfl⟩ : ∃ g', g = g' + 1 := ⟨g - 1, by omega⟩
    have hi : i = 16 := by omega
    subst hi
    show f_X12_image_28b K L fu (f_X12_image_28 K L fu (B + 44) g) (B + 44) (nI 16) M = _
    unfold f_X12_image_28b
    rw [if_pos (by decide)]
    have e : (fun j => if 16 ≤ j ∧ j < 16 then mm_B M (B + 47) j else mm_B M (B + 48) j) = mm_B M (B + 48) := by
      funext j
      rw [if_neg (by omega)]
    rw [e, ms_B_self]
    rfl
  | succ k ih =>
    intro g i M hM h1 h2
    obtain ⟨g, rfl⟩ : ∃ g', g = g' + 1 := ⟨g - 1, by omega⟩
    show f_X12_image_28b K L fu (f_X12_image_28 K L fu (B + 44) g) (B + 44) (nI i) M = _
    unfold f_X12_image_28b
    rw [if_neg (show ¬ (16 : Int32) ≤ nI i by rw [t_le, nI_toInt (by omega), show (16 : Int32).toInt = 16 from rfl]; omega), show mm_R M (32 * 12 + 2) (B + 44) = _ from hM.1.2.2.2.1, show mm_R M (32 * 12 + 3) (B + 44) = _ from hM.1.2.2.2.2.1, rx_ok hM.2.1.2.2.1 hM.2.2.2.2.1 (show i < 16 by omega) (by decide), rx_ok hM.2.1.2.2.2.1 hM.2.2.2.2.2.1 (show i < 16 by omega) (by decide)]
    simp only [Option.bind_some, bn_eq, nI_1]
    have e : (fun j => if i + 1 ≤ j ∧ j < 16 then mm_B (ms_B M (B + 48) (vp_updL (mm_B M (B + 48)) i (mm_B M (B + 47) i))) (B + 47) j else mm_B (ms_B M (B + 48) (vp_updL (mm_B M (B + 48)) i (mm_B M (B + 47) i))) (B + 48) j) = (fun j => if i ≤ j ∧ j < 16 then mm_B M (B + 47) j else mm_B M (B + 48) j) := by
      funext j
      rw [B_B, if_neg (show ¬ B + 47 = B + 48 by omega), B_B, if_pos rfl]
      show (if i + 1 ≤ j ∧ j < 16 then mm_B M (B + 47) j else if j = i then mm_B M (B + 47) i else mm_B M (B + 48) j) = _
      by_cases q : j = i
      · rw [if_neg (by omega), if_pos q, if_pos (by omega), q]
      · rw [if_neg q]
        by_cases q2 : i ≤ j ∧ j < 16
        · rw [if_pos q2, if_pos (by omega)]
        · rw [if_neg q2, if_neg (by omega)]
    rw [nI_clamp (by omega), ih g (i + 1) (ms_B M (B + 48) (vp_updL (mm_B M (B + 48)) i (mm_B M (B + 47) i))) hM (by omega) (by omega), ms_B_B, e]
theorem res_loop : ∀ (k g i : Nat) (M : Mm), MS B K L (mm_R M) → i + k = 63040 → k < g → f_X12_restore_16 K L fu (B + 44) g (nI i) M = f_X12_restore_42 K L fu (B + 44) fu 0 (ms_A M (B + 45) (fun j => if i ≤ j ∧ j < 63040 then mm_A M (B + 46) j else mm_A M (B + 45) j)) := by
  intro k
  induction k with
  | zero =>
    intro g i M hM h1 h2
    obtain ⟨g, rfl⟩ : ∃ g', g = g' + 1 := ⟨g - 1, by omega⟩
    have hi : i = 63040 := by omega
    subst hi
    show f_X12_restore_16b K L fu (f_X12_restore_16 K L fu (B + 44) g) (B + 44) (nI 63040) M = _
    unfold f_X12_restore_16b
    rw [if_pos (by decide)]
    have e : (fun j => if 63040 ≤ j ∧ j < 63040 then mm_A M (B + 46) j else mm_A M (B + 45) j) = mm_A M (B + 45) := by
      funext j
      rw [if_neg (by omega)]
    rw [e, ms_A_self]
  | succ k ih =>
    intro g i M hM h1 h2
    obtain ⟨g, rfl⟩ : ∃ g', g = g' + 1 := ⟨g - 1, by omega⟩
    show f_X12_restore_16b K L fu (f_X12_restore_16 K L fu (B + 44) g) (B + 44) (nI i) M = _
    unfold f_X12_restore_16b
    rw [if_neg (show ¬ (63040 : Int32) ≤ nI i by rw [t_le, nI_toInt (by omega), show (63040 : Int32).toInt = 63040 from rfl]; omega), show mm_R M (32 * 12 + 0) (B + 44) = _ from hM.1.2.1, show mm_R M (32 * 12 + 1) (B + 44) = _ from hM.1.2.2.1, rx_ok hM.2.1.1 hM.2.2.1 (show i < 63040 by omega) (by decide), rx_ok hM.2.1.2.1 hM.2.2.2.1 (show i < 63040 by omega) (by decide)]
    simp only [Option.bind_some, bn_eq, nI_1]
    have e : (fun j => if i + 1 ≤ j ∧ j < 63040 then mm_A (ms_A M (B + 45) (upd (mm_A M (B + 45)) i (mm_A M (B + 46) i))) (B + 46) j else mm_A (ms_A M (B + 45) (upd (mm_A M (B + 45)) i (mm_A M (B + 46) i))) (B + 45) j) = (fun j => if i ≤ j ∧ j < 63040 then mm_A M (B + 46) j else mm_A M (B + 45) j) := by
      funext j
      rw [A_A, if_neg (show ¬ B + 46 = B + 45 by omega), A_A, if_pos rfl, upd_eq]
      by_cases q : j = i
      · rw [if_neg (show ¬ (i + 1 ≤ j ∧ j < 63040) by omega), if_pos q, if_pos (by omega), q]
      · rw [if_neg q]
        by_cases q2 : i ≤ j ∧ j < 63040
        · rw [if_pos q2, if_pos (by omega)]
        · rw [if_neg q2, if_neg (by omega)]
    rw [nI_clamp (by omega), ih g (i + 1) (ms_A M (B + 45) (upd (mm_A M (B + 45)) i (mm_A M (B + 46) i))) hM (by omega) (by omega), ms_A_A, e]
theorem res_loop2 : ∀ (k g i : Nat) (M : Mm), MS B K L (mm_R M) → i + k = 16 → k < g → f_X12_restore_42 K L fu (B + 44) g (nI i) M = Option.bind (f_X12_switches K L fu (ms_B M (B + 47) (fun j => if i ≤ j ∧ j < 16 then mm_B M (B + 48) j else mm_B M (B + 47) j)) (B + 44)) (fun x3 => some (x3, ms_B M (B + 47) (fun j => if i ≤ j ∧ j < 16 then mm_B M (B + 48) j else mm_B M (B + 47) j))) := by
  intro k
  induction k with
  | zero =>
    intro g i M hM h1 h2
    obtain ⟨g, rfl⟩ : ∃ g', g = g' + 1 := ⟨g - 1, by omega⟩
    have hi : i = 16 := by omega
    subst hi
    show f_X12_restore_42b K L fu (f_X12_restore_42 K L fu (B + 44) g) (B + 44) (nI 16) M = _
    unfold f_X12_restore_42b
    rw [if_pos (by decide)]
    have e : (fun j => if 16 ≤ j ∧ j < 16 then mm_B M (B + 48) j else mm_B M (B + 47) j) = mm_B M (B + 47) := by
      funext j
      rw [if_neg (by omega)]
    rw [e, ms_B_self]
  | succ k ih =>
    intro g i M hM h1 h2
    obtain ⟨g, rfl⟩ : ∃ g', g = g' + 1 := ⟨g - 1, by omega⟩
    show f_X12_restore_42b K L fu (f_X12_restore_42 K L fu (B + 44) g) (B + 44) (nI i) M = _
    unfold f_X12_restore_42b
    rw [if_neg (show ¬ (16 : Int32) ≤ nI i by rw [t_le, nI_toInt (by omega), show (16 : Int32).toInt = 16 from rfl]; omega), show mm_R M (32 * 12 + 2) (B + 44) = _ from hM.1.2.2.2.1, show mm_R M (32 * 12 + 3) (B + 44) = _ from hM.1.2.2.2.2.1, rx_ok hM.2.1.2.2.1 hM.2.2.2.2.1 (show i < 16 by omega) (by decide), rx_ok hM.2.1.2.2.2.1 hM.2.2.2.2.2.1 (show i < 16 by omega) (by decide)]
    simp only [Option.bind_some, bn_eq, nI_1]
    have e : (fun j => if i + 1 ≤ j ∧ j < 16 then mm_B (ms_B M (B + 47) (vp_updL (mm_B M (B + 47)) i (mm_B M (B + 48) i))) (B + 48) j else mm_B (ms_B M (B + 47) (vp_updL (mm_B M (B + 47)) i (mm_B M (B + 48) i))) (B + 47) j) = (fun j => if i ≤ j ∧ j < 16 then mm_B M (B + 48) j else mm_B M (B + 47) j) := by
      funext j
      rw [B_B, if_neg (show ¬ B + 48 = B + 47 by omega), B_B, if_pos rfl]
      show (if i + 1 ≤ j ∧ j < 16 then mm_B M (B + 48) j else if j = i then mm_B M (B + 48) i else mm_B M (B + 47) j) = _
      by_cases q : j = i
      · rw [if_neg (by omega), if_pos q, if_pos (by omega), q]
      · rw [if_neg q]
        by_cases q2 : i ≤ j ∧ j < 16
        · rw [if_pos q2, if_pos (by omega)]
        · rw [if_neg q2, if_neg (by omega)]
    rw [nI_clamp (by omega), ih g (i + 1) (ms_B M (B + 47) (vp_updL (mm_B M (B + 47)) i (mm_B M (B + 48) i))) hM (by omega) (by omega), ms_B_B, e]
end IMG
