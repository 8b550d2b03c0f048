/-! two places at once; copy -/
theorem wy_2 {hh kind : Nat} : wy hh kind = -2 ↔ hh = 0 := by
  unfold wy
  constructor
  · intro h
    by_cases x : hh = 0
    · exact x
    · rw [if_neg x] at h
      split at h <;> exact absurd h (by decide)
  · intro h
    rw [if_pos h]
theorem wy_3 {hh kind : Nat} : ¬ wy hh kind = -3 := by
  unfold wy
  repeat' split
  all_goals decide
theorem gate_two {B n : Nat} {K L : Nat → Nat} {M : Mm} (iv : Iv B n K L M) (v u : Int32) {kinds : Int32} {kind : Nat} (hk : kb kinds kind) :
    (∃ k, 2 ≤ k ∧ k ≤ 13 ∧ (∃ x y, f_X8_find K L M (B + 1) v kinds = some x ∧ f_X8_find K L M (B + 1) u kinds = some y ∧ (x = none ∨ y = none)) ∧ f_X11_refuseAtEither K L B v u kinds M = f_X11_refuse K L B (-(nI k)) M ∧ ∀ M', sameS B M M' → f_X12_whyTwo K L M' (B + 44) v u (nI kind) = some (-(nI k))) ∨
    (∃ p b hh p' b' hh', v = nI p ∧ u = nI p' ∧ okk hh kind ∧ okk hh' kind ∧ Got B K L M p b hh ∧ Got B K L M p' b' hh' ∧ f_X8_find K L M (B + 1) v kinds = some (some b) ∧ f_X8_find K L M (B + 1) u kinds = some (some b') ∧ ∀ M', sameS B M M' → f_X12_whyTwo K L M' (B + 44) v u (nI kind) = some 0) := by
  obtain ⟨g, c1, -⟩ := id iv
  have hr : mm_R M (32 * 11 + 0) B = some (B + 1) := g.2.1.1.2.1
  have hms : ∀ M', sameS B M M' → MS B K L (mm_R M') := fun M' h => by rw [h.1]; exact g.1
  have find_some : ∀ w : Int32, ∃ x, f_X8_find K L M (B + 1) w kinds = some x := by
    intro w
    rcases gate iv w hk with ⟨-, -, -, h, -⟩ | ⟨-, b, -, -, -, -, h, -⟩
    · exact ⟨none, h⟩
    · exact ⟨some b, h⟩
  have find_out : ∀ w : Int32, ¬ (0 ≤ w.toInt ∧ w.toInt ≤ 15) → f_X8_find K L M (B + 1) w kinds = some none := by
    intro w hw
    unfold f_X8_find
    rw [fault_out hw]
    rfl
  have hfault : ∀ w : Int32, ∃ f, f_X8_faultAt K L M (B + 1) w kinds = some f ∧ ((0 ≤ w.toInt ∧ w.toInt ≤ 15) → ∃ p hh, w = nI p ∧ p < 16 ∧ hh ≤ 6 ∧ mm_A M (B + 45) (3940 * p) = nI hh ∧ f = wy hh kind) := by
    intro w
    by_cases hw : 0 ≤ w.toInt ∧ w.toInt ≤ 15
    · obtain ⟨p, hp, rfl⟩ := n_of (v := w) (m := 15) hw.1 hw.2 (by decide)
      obtain ⟨hh, i1, i2, -⟩ := c1 p (by omega)
      exact ⟨_, fault_in iv (by omega) hk i1 i2, fun _ => ⟨p, hh, rfl, by omega, i1, i2, rfl⟩⟩
    · exact ⟨_, fault_out hw, fun h => absurd h hw⟩
  have either : ∀ f1 f2 f, f_X8_faultAt K L M (B + 1) v kinds = some f1 → f_X8_faultAt K L M (B + 1) u kinds = some f2 → f_X11_firstFault f1 f2 = some f → f_X11_refuseAtEither K L B v u kinds M = f_X11_refuse K L B f M := by
    intro f1 f2 f h1 h2 h3
    unfold f_X11_refuseAtEither
    rw [hr]
    simp only [Option.bind_some, rc_ok g.2.1.2.1.1, h1, h2, h3]
    exact bind_eta _
  by_cases hv : 0 ≤ v.toInt ∧ v.toInt ≤ 15
  · obtain ⟨f1, e1, q1⟩ := hfault v
    obtain ⟨p, hh, rfl, hp, h6, hS, rfl⟩ := q1 hv
    by_cases hu : 0 ≤ u.toInt ∧ u.toInt ≤ 15
    · obtain ⟨f2, e2, q2⟩ := hfault u
      obtain ⟨p', hh', rfl, hp', h6', hS', rfl⟩ := q2 hu
      have hz : ∀ h : Nat, h ≤ 6 → (nI h = 0 ↔ h = 0) := fun h hh => nI_eq (b := 0) (by omega) (by omega)
      have two : ∀ M', sameS B M M' → f_X12_whyTwo K L M' (B + 44) (nI p) (nI p') (nI kind) = some (if hh = 0 ∨ hh' = 0 then -2 else if wy hh kind = 0 then wy hh' kind else wy hh kind) := by
        intro M' h
        unfold f_X12_whyTwo
        rw [isPlace_eq, if_pos hv, isPlace_eq, if_pos hu]
        simp only [Option.bind_some, m_of0 (hms M' h) hp, m_of0 (hms M' h) hp', h.2, hS, hS', why_eq (hms M' h) hp h6 (by rw [h.2]; exact hS) (kb_le hk), why_eq (hms M' h) hp' h6' (by rw [h.2]; exact hS') (kb_le hk)]
        rw [if_neg (by decide), if_neg (by decide)]
        by_cases x : hh = 0
        · rw [if_pos ((hz hh h6).mpr x), if_pos (Or.inl x)]
        · rw [if_neg (fun q => x ((hz hh h6).mp q))]
          by_cases y : hh' = 0
          · rw [if_pos ((hz hh' h6').mpr y), if_pos (Or.inr y)]
          · rw [if_neg (fun q => y ((hz hh' h6').mp q)), if_neg (show ¬ (hh = 0 ∨ hh' = 0) by omega)]
            by_cases w : wy hh kind = 0
            · rw [if_pos w, if_pos w]
            · rw [if_neg w, if_neg w]
      have ff : f_X11_firstFault (wy hh kind) (wy hh' kind) = some (if hh = 0 ∨ hh' = 0 then -2 else if wy hh kind = 0 then wy hh' kind else wy hh kind) := by
        unfold f_X11_firstFault
        rw [if_neg wy_3, if_neg wy_3]
        by_cases x : hh = 0
        · rw [if_pos (wy_2.mpr x), if_pos (Or.inl x)]
        · rw [if_neg (fun q => x (wy_2.mp q))]
          by_cases y : hh' = 0
          · rw [if_pos (wy_2.mpr y), if_pos (Or.inr y)]
          · rw [if_neg (fun q => y (wy_2.mp q)), if_neg (show ¬ (hh = 0 ∨ hh' = 0) by omega)]
            by_cases w : wy hh kind = 0
            · rw [if_pos w, if_pos w]
            · rw [if_neg w, if_neg w]
      by_cases w1 : wy hh kind = 0
      · by_cases w2 : wy hh' kind = 0
        · right
          have ok1 := wy_ok w1 h6 (kb_le hk)
          have ok2 := wy_ok w2 h6' (kb_le hk)
          obtain ⟨b, gb⟩ := got_of iv hp ok1.1 ok1.2.1 hS
          obtain ⟨b', gb'⟩ := got_of iv hp' ok2.1 ok2.2.1 hS'
          refine ⟨p, b, hh, p', b', hh', rfl, rfl, ok1, ok2, gb, gb', ?_, ?_, fun M' h => ?_⟩
          · unfold f_X8_find
            rw [e1, w1]
            simp only [Option.bind_some, switchAt_in g.2.1 hp, gb.2.2.2.2.1]
            rfl
          · unfold f_X8_find
            rw [e2, w2]
            simp only [Option.bind_some, switchAt_in g.2.1 hp', gb'.2.2.2.2.1]
            rfl
          · have := ok1.1
            have := ok2.1
            rw [two M' h, if_neg (by omega), if_pos w1, w2]
        · left
          have : ∃ k, 2 ≤ k ∧ k ≤ 13 ∧ (if hh = 0 ∨ hh' = 0 then -2 else if wy hh kind = 0 then wy hh' kind else wy hh kind) = -(nI k) := by
            by_cases x : hh = 0 ∨ hh' = 0
            · rw [if_pos x]; exact ⟨2, by decide, by decide, rfl⟩
            · rw [if_neg x, if_pos w1]; exact wy_neg w2
          obtain ⟨k, k1, k2, ek⟩ := this
          obtain ⟨x, ex⟩ := find_some (nI p)
          refine ⟨k, k1, k2, ⟨x, none, ex, ?_, Or.inr rfl⟩, ?_, fun M' h => by rw [two M' h, ek]⟩
          · unfold f_X8_find
            rw [e2]
            simp only [Option.bind_some]
            rw [if_neg w2]
          · rw [either _ _ _ e1 e2 ff, ek]
      · left
        have : ∃ k, 2 ≤ k ∧ k ≤ 13 ∧ (if hh = 0 ∨ hh' = 0 then -2 else if wy hh kind = 0 then wy hh' kind else wy hh kind) = -(nI k) := by
          by_cases x : hh = 0 ∨ hh' = 0
          · rw [if_pos x]; exact ⟨2, by decide, by decide, rfl⟩
          · rw [if_neg x, if_neg w1]; exact wy_neg w1
        obtain ⟨k, k1, k2, ek⟩ := this
        obtain ⟨y, ey⟩ := find_some (nI p')
        refine ⟨k, k1, k2, ⟨none, y, ?_, ey, Or.inl rfl⟩, ?_, fun M' h => by rw [two M' h, ek]⟩
        · unfold f_X8_find
          rw [e1]
          simp only [Option.bind_some]
          rw [if_neg w1]
        · rw [either _ _ _ e1 e2 ff, ek]
    · left
      obtain ⟨x, ex⟩ := find_some (nI p)
      refine ⟨3, by decide, by decide, ⟨x, none, ex, find_out u hu, Or.inr rfl⟩, ?_, fun M' h => ?_⟩
      · rw [either _ _ (-3) e1 (fault_out hu) (by unfold f_X11_firstFault; rw [if_neg wy_3, if_pos rfl])]
        rfl
      · unfold f_X12_whyTwo
        rw [isPlace_eq, if_pos hv, isPlace_eq, if_neg hu]
        rfl
  · left
    obtain ⟨f2, e2, -⟩ := hfault u
    obtain ⟨y, ey⟩ := find_some u
    refine ⟨3, by decide, by decide, ⟨none, y, find_out v hv, ey, Or.inl rfl⟩, ?_, fun M' h => ?_⟩
    · rw [either _ _ (-3) (fault_out hv) e2 (by unfold f_X11_firstFault; rw [if_pos rfl])]
      rfl
    · unfold f_X12_whyTwo
      rw [isPlace_eq, if_neg hv]
      rfl
section CPY
variable {B : Nat} {K L : Nat → Nat} {fu p p' i j n : Nat}
theorem cpy_loop1 (hp : p < 16) (hin : i + n ≤ 20) {v3 v4 : Int32} : ∀ (d g c : Nat) (M : Mm), MS B K L (mm_R M) → c + d = n → d < g → f_X12_copy_130 K L fu (B + 44) g (nI p) (nI i) v3 v4 (nI n) (nI c) M = f_X12_copy_165 K L fu (B + 44) fu v3 v4 (nI n) 0 (ms_A M (B + 54) (fun x => if c ≤ x ∧ x < n then mm_A M (B + 45) (3940 * p + 49 + i + x) else mm_A M (B + 54) x)) := by
  intro d
  induction d with
  | zero =>
    intro g c M hM h1 h2
    obtain ⟨g, rfl⟩ : ∃ g', g = g' + 1 := ⟨g - 1, by omega⟩
    have hc : c = n := by omega
    subst hc
    show f_X12_copy_130b K L fu (f_X12_copy_130 K L fu (B + 44) g) (B + 44) (nI p) (nI i) v3 v4 (nI c) (nI c) M = _
    unfold f_X12_copy_130b
    rw [if_pos (nI_le (Nat.le_refl _) (by omega))]
    have e : (fun x => if c ≤ x ∧ x < c then mm_A M (B + 45) (3940 * p + 49 + i + x) else mm_A M (B + 54) x) = mm_A M (B + 54) := by
      funext x
      rw [if_neg (by omega)]
    rw [e, ms_A_self]
  | succ d ih =>
    intro g c M hM h1 h2
    obtain ⟨g, rfl⟩ : ∃ g', g = g' + 1 := ⟨g - 1, by omega⟩
    show f_X12_copy_130b K L fu (f_X12_copy_130 K L fu (B + 44) g) (B + 44) (nI p) (nI i) v3 v4 (nI n) (nI c) M = _
    unfold f_X12_copy_130b
    rw [if_neg (nI_ge (by omega) (by omega)), m_of (c := 49 + nI i + nI c) hM hp (49 + i + c) (by rw [show (49 : Int32) = nI 49 from rfl, nI_add, nI_add]) (by omega), show mm_R M (32 * 12 + 15) (B + 44) = _ from hM.1.2.2.2.2.2.2.2.2.2.2, rx_ok hM.2.1.2.2.2.2.2.2.2.2.2 hM.2.2.2.2.2.2.2.2.2.2.2 (show c < 20 by omega) (by decide)]
    simp only [Option.bind_some, bn_eq, nI_1]
    have e : (fun x => if c + 1 ≤ x ∧ x < n then mm_A (ms_A M (B + 54) (upd (mm_A M (B + 54)) c (mm_A M (B + 45) (3940 * p + (49 + i + c))))) (B + 45) (3940 * p + 49 + i + x) else mm_A (ms_A M (B + 54) (upd (mm_A M (B + 54)) c (mm_A M (B + 45) (3940 * p + (49 + i + c))))) (B + 54) x) = (fun x => if c ≤ x ∧ x < n then mm_A M (B + 45) (3940 * p + 49 + i + x) else mm_A M (B + 54) x) := by
      funext x
      rw [A_A, if_neg (show ¬ B + 45 = B + 54 by omega), A_A, if_pos rfl, upd_eq]
      by_cases q : x = c
      · rw [if_neg (show ¬ (c + 1 ≤ x ∧ x < n) by omega), if_pos q, if_pos (by omega), q]
        congr 1
        omega
      · rw [if_neg q]
        by_cases q2 : c ≤ x ∧ x < n
        · rw [if_pos q2, if_pos (by omega)]
        · rw [if_neg q2, if_neg (by omega)]
    rw [nI_clamp (by omega), ih g (c + 1) (ms_A M (B + 54) (upd (mm_A M (B + 54)) c (mm_A M (B + 45) (3940 * p + (49 + i + c))))) hM (by omega) (by omega), ms_A_A, e]
theorem cpy_loop2 (hp : p' < 16) (hjn : j + n ≤ 20) : ∀ (d g c : Nat) (M : Mm), MS B K L (mm_R M) → c + d = n → d < g → f_X12_copy_165 K L fu (B + 44) g (nI p') (nI j) (nI n) (nI c) M = some (nI n, ms_A M (B + 45) (fun x => if 3940 * p' + 49 + j + c ≤ x ∧ x < 3940 * p' + 49 + j + n then mm_A M (B + 54) (x - (3940 * p' + 49 + j)) else mm_A M (B + 45) x)) := by
  intro d
  induction d with
  | zero =>
    intro g c M hM h1 h2
    obtain ⟨g, rfl⟩ : ∃ g', g = g' + 1 := ⟨g - 1, by omega⟩
    have hc : c = n := by omega
    subst hc
    show f_X12_copy_165b K L fu (f_X12_copy_165 K L fu (B + 44) g) (B + 44) (nI p') (nI j) (nI c) (nI c) M = _
    unfold f_X12_copy_165b
    rw [if_pos (nI_le (Nat.le_refl _) (by omega))]
    have e : (fun x => if 3940 * p' + 49 + j + c ≤ x ∧ x < 3940 * p' + 49 + j + c then mm_A M (B + 54) (x - (3940 * p' + 49 + j)) else mm_A M (B + 45) x) = mm_A M (B + 45) := by
      funext x
      rw [if_neg (by omega)]
    rw [e, ms_A_self]
  | succ d ih =>
    intro g c M hM h1 h2
    obtain ⟨g, rfl⟩ : ∃ g', g = g' + 1 := ⟨g - 1, by omega⟩
    show f_X12_copy_165b K L fu (f_X12_copy_165 K L fu (B + 44) g) (B + 44) (nI p') (nI j) (nI n) (nI c) M = _
    unfold f_X12_copy_165b
    rw [if_neg (nI_ge (by omega) (by omega)), show mm_R M (32 * 12 + 15) (B + 44) = _ from hM.1.2.2.2.2.2.2.2.2.2.2, rx_ok hM.2.1.2.2.2.2.2.2.2.2.2 hM.2.2.2.2.2.2.2.2.2.2.2 (show c < 20 by omega) (by decide)]
    simp only [Option.bind_some]
    rw [m_to (c := 49 + nI j + nI c) hM hp (49 + j + c) (by rw [show (49 : Int32) = nI 49 from rfl, nI_add, nI_add]) (by omega)]
    simp only [Option.bind_some, nI_1]
    have e : (fun x => if 3940 * p' + 49 + j + (c + 1) ≤ x ∧ x < 3940 * p' + 49 + j + n then mm_A (ms_A M (B + 45) (upd (mm_A M (B + 45)) (3940 * p' + (49 + j + c)) (mm_A M (B + 54) c))) (B + 54) (x - (3940 * p' + 49 + j)) else mm_A (ms_A M (B + 45) (upd (mm_A M (B + 45)) (3940 * p' + (49 + j + c)) (mm_A M (B + 54) c))) (B + 45) x) = (fun x => if 3940 * p' + 49 + j + c ≤ x ∧ x < 3940 * p' + 49 + j + n then mm_A M (B + 54) (x - (3940 * p' + 49 + j)) else mm_A M (B + 45) x) := by
      funext x
      rw [A_A, if_neg (show ¬ B + 54 = B + 45 by omega), A_A, if_pos rfl, upd_eq]
      by_cases q : x = 3940 * p' + (49 + j + c)
      · rw [if_neg (show ¬ (3940 * p' + 49 + j + (c + 1) ≤ x ∧ x < 3940 * p' + 49 + j + n) by omega), if_pos q, if_pos (by omega), q]
        congr 1
        omega
      · rw [if_neg q]
        by_cases q2 : 3940 * p' + 49 + j + c ≤ x ∧ x < 3940 * p' + 49 + j + n
        · rw [if_pos q2, if_pos (by omega)]
        · rw [if_neg q2, if_neg (by omega)]
    rw [nI_clamp (by omega), ih g (c + 1) (ms_A M (B + 45) (upd (mm_A M (B + 45)) (3940 * p' + (49 + j + c)) (mm_A M (B + 54) c))) hM (by omega) (by omega), ms_A_A, e]
theorem hasSteps_eq {M : Mm} {a k : Nat} (h : mm_I M 97 a = nI k) (hk : k ≤ 20) (v u : Int32) : f_X3_hasSteps K L M a v u = some (if 0 ≤ v.toInt ∧ 0 ≤ u.toInt ∧ v.toInt + u.toInt ≤ k then 1 else 0) := by
  unfold f_X3_hasSteps
  rw [show mm_I M (32 * 3 + 1) a = nI k from h, within_eq, nI_toInt (by omega)]
  simp only [Option.bind_some]
  by_cases h1 : 0 ≤ v.toInt ∧ v.toInt ≤ k
  · rw [if_pos h1, if_neg (by decide)]
    obtain ⟨i, i1, rfl⟩ := n_of (v := v) (m := k) h1.1 h1.2 (by omega)
    rw [within_eq, show (nI k - nI i).toInt = (k : Int) - i from pk_sub_toInt (by omega) (by omega), nI_toInt (by omega)]
    simp only [Option.bind_some]
    by_cases h2 : 0 ≤ u.toInt ∧ u.toInt ≤ (k : Int) - i
    · rw [if_pos h2, if_neg (by decide), if_pos (by omega)]
    · rw [if_neg h2, if_pos rfl, if_neg (by omega)]
  · rw [if_neg h1, if_pos rfl, if_neg (by omega)]
end CPY
