/-! the memory: fields by number and address, arrays by address; the words that all methods share -/
abbrev Mm : Type := (Nat → Nat → Int32) × (Nat → Nat → Int64) × (Nat → Nat → Option Nat) × (Nat → Nat → Int32) × (Nat → Nat → Int64) × (Nat → Nat → Option Nat)
def mm_I (M : Mm) : Nat → Nat → Int32 := M.1
def mm_J (M : Mm) : Nat → Nat → Int64 := M.2.1
def mm_R (M : Mm) : Nat → Nat → Option Nat := M.2.2.1
def mm_A (M : Mm) : Nat → Nat → Int32 := M.2.2.2.1
def mm_B (M : Mm) : Nat → Nat → Int64 := M.2.2.2.2.1
def mm_C (M : Mm) : Nat → Nat → Option Nat := M.2.2.2.2.2
def mm_u2 {α : Type} (f : Nat → Nat → α) (x a : Nat) (v : α) : Nat → Nat → α := fun y b => if y = x ∧ b = a then v else f y b
def ms_I (M : Mm) (x a : Nat) (v : Int32) : Mm := (mm_u2 M.1 x a v, M.2)
def ms_J (M : Mm) (x a : Nat) (v : Int64) : Mm := (M.1, mm_u2 M.2.1 x a v, M.2.2)
def ms_R (M : Mm) (x a : Nat) (v : Option Nat) : Mm := (M.1, M.2.1, mm_u2 M.2.2.1 x a v, M.2.2.2)
def ms_A (M : Mm) (a : Nat) (g : Nat → Int32) : Mm := (M.1, M.2.1, M.2.2.1, va_up M.2.2.2.1 a g, M.2.2.2.2)
def ms_B (M : Mm) (a : Nat) (g : Nat → Int64) : Mm := (M.1, M.2.1, M.2.2.1, M.2.2.2.1, va_up M.2.2.2.2.1 a g, M.2.2.2.2.2)
def ms_C (M : Mm) (a : Nat) (g : Nat → Option Nat) : Mm := (M.1, M.2.1, M.2.2.1, M.2.2.2.1, M.2.2.2.2.1, va_up M.2.2.2.2.2 a g)
def mm_T : Nat → List Nat := fun c => match c with
  | 0 => [0, 0, 0, 0, 0, 0, 0]
  | 1 => [0, 0, 0, 0, 0, 0, 0, 2]
  | 2 => [0, 0, 2, 2, 2]
  | 3 => [2, 0, 0]
  | 4 => [2, 0, 1, 2]
  | 5 => [2, 2, 2, 0]
  | 6 => [0, 2, 2, 2, 2]
  | 7 => [2, 2]
  | 8 => [2]
  | 9 => [0, 0, 0, 2, 2, 0, 0, 0, 0, 2, 2, 2, 2]
  | 10 => [0, 0, 0, 0, 0, 0, 0, 0, 0, 0, 0]
  | 11 => [2, 2, 0, 2, 2, 2]
  | 12 => [2, 2, 2, 2, 0, 2, 2, 0, 0, 0, 0, 0, 2, 2, 2, 2, 0, 1, 1, 0, 0, 0, 0, 1, 1]
  | _ => []
def mm_V (M : Mm) (t x a : Nat) : Value := match t with
  | 0 => .int (mm_I M x a)
  | 1 => .long (mm_J M x a)
  | _ => va_rf (mm_R M x a)
def mm_F (M : Mm) (c a : Nat) : List Value := (mm_T c).mapIdx (fun k t => mm_V M t (32 * c + k) a)
def mm_E (Y : Nat → ClassId) (K L : Nat → Nat) (M : Mm) (a : Nat) : va_E :=
  if K a < 13 then .inr (K a, mm_F M (K a) a)
  else if K a = 14 then .inl (Y 14, L a, .inr (.inl (mm_B M a)))
  else if K a < 16 then .inl (Y (K a), L a, .inl (mm_A M a))
  else .inl (Y (K a), L a, .inr (.inr (.inr (.inr (mm_C M a)))))
def mm_tys (Y : Nat → ClassId) : List (ClassId × FieldType) := [(Y 13, .int), (Y 14, .long), (Y 15, .boolean), (Y 16, .object RX2), (Y 17, .object RX4)]
def mm_W (B n : Nat) (Y : Nat → ClassId) (K L : Nat → Nat) (M : Mm) : va_W := va_pl (List.range' B n) (mm_E Y K L M)
def mm_H (D : va_G) (Y : Nat → ClassId) (B n : Nat) (K L : Nat → Nat) (M : Mm) (H : Heap) : Prop :=
  H.size = B + n ∧ (∀ a, (B ≤ a ∧ a < B + n) ↔ K a < 18) ∧ va_P D vwCl (mm_W B n Y K L M) H
theorem mw_D (B n : Nat) (f : Nat → va_E) : va_D (fun q => B ≤ q) (va_pl (List.range' B n) f) := by
  have key : ∀ (i : Nat) (p : Nat × va_E), (va_pl (List.range' B n) f)[i]? = some p → p.1 = B + i := by
    intro i p h
    simp only [va_pl, List.getElem?_map, List.getElem?_range'] at h
    by_cases hi : i < n
    · simp [hi] at h
      rw [← h]
    · simp [hi] at h
  refine ⟨fun i j p q h1 h2 h3 => ?_, fun k q h => ?_⟩
  · rw [key i p h1, key j q h2] at h3
    omega
  · show B ≤ q.1
    rw [key k q h]
    omega
theorem mw_at {D : va_G} {Y : Nat → ClassId} {B n : Nat} {K L : Nat → Nat} {M : Mm} {H : Heap} (h : mm_H D Y B n K L M H) {a : Nat} (hk : K a < 18) : ∃ q : Nat, (mm_W B n Y K L M)[q]? = some (a, mm_E Y K L M a) := by
  have h1 := (h.2.1 a).mpr hk
  exact va_pl_get (X := []) (List.mem_range'_1.mpr h1)
theorem mw_set {D : va_G} {Y : Nat → ClassId} {B n : Nat} {K L : Nat → Nat} {M M' : Mm} {H H1 : Heap} (h : mm_H D Y B n K L M H) {a q : Nat} {e : va_E} (hk : K a < 18) (hq : (mm_W B n Y K L M)[q]? = some (a, mm_E Y K L M a)) (he : va_up (mm_E Y K L M) a e = mm_E Y K L M') (hz : H1.size = H.size) (h1 : va_P D vwCl ((mm_W B n Y K L M).set q (a, e)) H1) : mm_H D Y B n K L M' H1 := by
  refine ⟨hz.trans h.1, h.2.1, ?_⟩
  have h2 := va_pl_set (X := []) (e := e) (mw_D B n (mm_E Y K L M)) (List.mem_range'_1.mpr ((h.2.1 a).mpr hk)) hq
  have h3 : (mm_W B n Y K L M).set q (a, e) = va_pl (List.range' B n) (va_up (mm_E Y K L M) a e) := h2
  rw [h3, he] at h1
  exact h1
theorem mm_E_o {Y : Nat → ClassId} {K L : Nat → Nat} {M : Mm} {a c : Nat} (h : K a = c) (hc : c < 13) : mm_E Y K L M a = .inr (c, mm_F M c a) := by
  subst h
  simp [mm_E, hc]
theorem mm_E_i {Y : Nat → ClassId} {K L : Nat → Nat} {M : Mm} {a : Nat} (h : K a = 13) : mm_E Y K L M a = .inl (Y 13, L a, .inl (mm_A M a)) := by
  simp [mm_E, h]
theorem mm_E_z {Y : Nat → ClassId} {K L : Nat → Nat} {M : Mm} {a : Nat} (h : K a = 15) : mm_E Y K L M a = .inl (Y 15, L a, .inl (mm_A M a)) := by
  simp [mm_E, h]
theorem mm_E_l {Y : Nat → ClassId} {K L : Nat → Nat} {M : Mm} {a : Nat} (h : K a = 14) : mm_E Y K L M a = .inl (Y 14, L a, .inr (.inl (mm_B M a))) := by
  simp [mm_E, h]
theorem mm_E_r {Y : Nat → ClassId} {K L : Nat → Nat} {M : Mm} {a k : Nat} (h : K a = k) (h1 : 16 ≤ k) : mm_E Y K L M a = .inl (Y k, L a, .inr (.inr (.inr (.inr (mm_C M a))))) := by
  subst h
  simp [mm_E, show ¬ K a < 13 by omega, show ¬ K a = 14 by omega, show ¬ K a < 16 by omega]
theorem mm_F_at {M : Mm} {c a k t : Nat} (h : (mm_T c)[k]? = some t) : (mm_F M c a)[k]? = some (mm_V M t (32 * c + k) a) := by
  simp [mm_F, List.getElem?_mapIdx, h]
/-- a field is set: of one address alone, of one field alone -/
theorem mm_F_set {M M' : Mm} {c a k t : Nat} (h : (mm_T c)[k]? = some t) (hv : ∀ j t', (j = k → t' = t) → mm_V M' t' (32 * c + j) a = if j = k then mm_V M' t (32 * c + k) a else mm_V M t' (32 * c + j) a) : (mm_F M c a).set k (mm_V M' t (32 * c + k) a) = mm_F M' c a := by
  apply List.ext_getElem?
  intro j
  rw [List.getElem?_set]
  obtain ⟨hl, he⟩ := List.getElem?_eq_some_iff.mp h
  by_cases hj : k = j
  · subst hj
    simp [mm_F, List.getElem?_mapIdx, he, hl]
  · rw [if_neg hj]
    simp only [mm_F, List.getElem?_mapIdx]
    cases ht : (mm_T c)[j]? with
    | none => rfl
    | some t' =>
      have := hv j t' (fun e => absurd e.symm hj)
      rw [if_neg (fun e => hj e.symm)] at this
      simp [this]
theorem mm_F_off {M M' : Mm} {c a : Nat} (hv : ∀ j t, mm_V M' t (32 * c + j) a = mm_V M t (32 * c + j) a) : mm_F M' c a = mm_F M c a := by
  simp only [mm_F]
  congr 1
  funext k t
  exact hv k t
theorem me_set {Y : Nat → ClassId} {K L : Nat → Nat} {M M' : Mm} {a c : Nat} {fs : List Value} (hk : K a = c) (hc : c < 13) (hf : fs = mm_F M' c a) (ho : ∀ b x t, b ≠ a → mm_V M' t x b = mm_V M t x b) (hA : mm_A M' = mm_A M) (hB : mm_B M' = mm_B M) (hC : mm_C M' = mm_C M) : va_up (mm_E Y K L M) a (.inr (c, fs)) = mm_E Y K L M' := by
  funext b
  by_cases hb : b = a
  · subst hb
    rw [va_up_self, mm_E_o hk hc, hf]
  · rw [va_up_ne _ _ hb]
    unfold mm_E
    rw [hA, hB, hC, mm_F_off (M := M) (M' := M') (fun j t => ho b _ t hb)]
theorem me_setI {Y : Nat → ClassId} {K L : Nat → Nat} {M : Mm} {a c k : Nat} (v : Int32) (hk : K a = c) (hc : c < 13) (ht : (mm_T c)[k]? = some 0) : va_up (mm_E Y K L M) a (.inr (c, (mm_F M c a).set k (.int v))) = mm_E Y K L (ms_I M (32 * c + k) a v) := by
  refine me_set hk hc ?_ ?_ rfl rfl rfl
  · have e : (Value.int v) = mm_V (ms_I M (32 * c + k) a v) 0 (32 * c + k) a := by simp [mm_V, ms_I, mm_I, mm_u2]
    rw [e]
    refine mm_F_set ht (fun j t' hj => ?_)
    by_cases h : j = k
    · subst h
      rw [hj rfl]
      simp
    · rw [if_neg h]
      have : 32 * c + j ≠ 32 * c + k := by omega
      unfold mm_V
      split <;> simp [ms_I, mm_I, mm_J, mm_R, mm_u2, h]
  · intro b x t hb
    unfold mm_V
    split <;> simp [ms_I, mm_I, mm_J, mm_R, mm_u2, hb]
theorem me_setJ {Y : Nat → ClassId} {K L : Nat → Nat} {M : Mm} {a c k : Nat} (v : Int64) (hk : K a = c) (hc : c < 13) (ht : (mm_T c)[k]? = some 1) : va_up (mm_E Y K L M) a (.inr (c, (mm_F M c a).set k (.long v))) = mm_E Y K L (ms_J M (32 * c + k) a v) := by
  refine me_set hk hc ?_ ?_ rfl rfl rfl
  · have e : (Value.long v) = mm_V (ms_J M (32 * c + k) a v) 1 (32 * c + k) a := by simp [mm_V, ms_J, mm_J, mm_u2]
    rw [e]
    refine mm_F_set ht (fun j t' hj => ?_)
    by_cases h : j = k
    · subst h
      rw [hj rfl]
      simp
    · rw [if_neg h]
      have : 32 * c + j ≠ 32 * c + k := by omega
      unfold mm_V
      split <;> simp [ms_J, mm_I, mm_J, mm_R, mm_u2, h]
  · intro b x t hb
    unfold mm_V
    split <;> simp [ms_J, mm_I, mm_J, mm_R, mm_u2, hb]
theorem me_setR {Y : Nat → ClassId} {K L : Nat → Nat} {M : Mm} {a c k : Nat} (v : Option Nat) (hk : K a = c) (hc : c < 13) (ht : (mm_T c)[k]? = some 2) : va_up (mm_E Y K L M) a (.inr (c, (mm_F M c a).set k (va_rf v))) = mm_E Y K L (ms_R M (32 * c + k) a v) := by
  refine me_set hk hc ?_ ?_ rfl rfl rfl
  · have e : (va_rf v) = mm_V (ms_R M (32 * c + k) a v) 2 (32 * c + k) a := by simp [mm_V, ms_R, mm_R, mm_u2]
    rw [e]
    refine mm_F_set ht (fun j t' hj => ?_)
    by_cases h : j = k
    · subst h
      rw [hj rfl]
      simp
    · rw [if_neg h]
      have : 32 * c + j ≠ 32 * c + k := by omega
      unfold mm_V
      split <;> simp [ms_R, mm_I, mm_J, mm_R, mm_u2, h]
  · intro b x t hb
    unfold mm_V
    split <;> simp [ms_R, mm_I, mm_J, mm_R, mm_u2, hb]
theorem me_setA {Y : Nat → ClassId} {K L : Nat → Nat} {M : Mm} {a k : Nat} (g : Nat → Int32) (hk : K a = k) (h : k = 13 ∨ k = 15) : va_up (mm_E Y K L M) a (.inl (Y k, L a, .inl g)) = mm_E Y K L (ms_A M a g) := by
  funext b
  by_cases hb : b = a
  · subst hb
    rw [va_up_self]
    subst hk
    rcases h with h | h <;> simp [mm_E, h, mm_A, ms_A, va_up]
  · rw [va_up_ne _ _ hb]
    unfold mm_E
    have e : mm_A (ms_A M a g) b = mm_A M b := by simp [mm_A, ms_A, va_up, hb]
    rw [e]
    rfl
theorem me_setB {Y : Nat → ClassId} {K L : Nat → Nat} {M : Mm} {a : Nat} (g : Nat → Int64) (hk : K a = 14) : va_up (mm_E Y K L M) a (.inl (Y 14, L a, .inr (.inl g))) = mm_E Y K L (ms_B M a g) := by
  funext b
  by_cases hb : b = a
  · subst hb
    rw [va_up_self]
    simp [mm_E, hk, mm_B, ms_B, va_up]
  · rw [va_up_ne _ _ hb]
    unfold mm_E
    have e : mm_B (ms_B M a g) b = mm_B M b := by simp [mm_B, ms_B, va_up, hb]
    rw [e]
    rfl
theorem me_setC {Y : Nat → ClassId} {K L : Nat → Nat} {M : Mm} {a k : Nat} (g : Nat → Option Nat) (hk : K a = k) (h : 16 ≤ k) : va_up (mm_E Y K L M) a (.inl (Y k, L a, .inr (.inr (.inr (.inr g))))) = mm_E Y K L (ms_C M a g) := by
  funext b
  by_cases hb : b = a
  · subst hb
    rw [va_up_self]
    subst hk
    simp [mm_E, show ¬ K b < 13 by omega, show ¬ K b = 14 by omega, show ¬ K b < 16 by omega, mm_C, ms_C, va_up]
  · rw [va_up_ne _ _ hb]
    unfold mm_E
    have e : mm_C (ms_C M a g) b = mm_C M b := by simp [mm_C, ms_C, va_up, hb]
    rw [e]
    rfl
