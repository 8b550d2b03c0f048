/-! row -/
theorem ms_A_self (M : Mm) (a : Nat) : ms_A M a (mm_A M a) = M := by
  obtain ⟨m1, m2, m3, m4, m5, m6⟩ := M
  have e : va_up m4 a (m4 a) = m4 := by
    funext b
    by_cases h : b = a
    · subst h; exact va_up_self _ _ _
    · exact va_up_ne _ _ h
  simp only [ms_A, mm_A, e]
theorem ms_A_A (M : Mm) (a : Nat) (g h : Nat → Int32) : ms_A (ms_A M a g) a h = ms_A M a h := by
  obtain ⟨m1, m2, m3, m4, m5, m6⟩ := M
  have e : va_up (va_up m4 a g) a h = va_up m4 a h := bx_uu m4 a g h
  simp only [ms_A, e]
theorem fill_loop {K L : Nat → Nat} {fu a m : Nat} {v : Int32} (hK : K a = 13) (hL : L a = m) (hm : m < 2 ^ 30) : ∀ (g i : Nat) (M : Mm), i ≤ m → m - i < g → f_J7_fill_53178_5 K L fu g (some a) v (nI i) (nI m) M = some (ms_A M a (fun j => if i ≤ j ∧ j < m then v else mm_A M a j)) := by
  intro g
  induction g with
  | zero => intro i M h1 h2; omega
  | succ g ih =>
    intro i M h1 h2
    show f_J7_fill_53178_5b K L fu (f_J7_fill_53178_5 K L fu g) (some a) v (nI i) (nI m) M = _
    unfold f_J7_fill_53178_5b
    by_cases hi : i = m
    · rw [if_pos (nI_le (by omega) (by omega))]
      have e : (fun j => if i ≤ j ∧ j < m then v else mm_A M a j) = mm_A M a := by
        funext j
        rw [if_neg (by omega)]
      rw [e, ms_A_self]
    · rw [if_neg (nI_ge (by omega) (by omega)), rx_ok hK hL (show i < m by omega) (by omega)]
      simp only [Option.bind_some, bn_eq]
      rw [nI_1, nI_clamp (by omega), ih (i + 1) _ (by omega) (by omega), ms_A_A]
      congr 2
      funext j
      rw [A_A, if_pos rfl, upd_eq]
      by_cases hj : j = i
      · subst hj
        rw [if_neg (by omega), if_pos rfl, if_pos (by omega)]
      · rw [if_neg hj]
        by_cases h : i + 1 ≤ j ∧ j < m
        · rw [if_pos h, if_pos (by omega)]
        · rw [if_neg h, if_neg (by omega)]
theorem fill_eq {K L : Nat → Nat} {fu a m : Nat} {v : Int32} {M : Mm} (hK : K a = 13) (hL : L a = m) (hm : m < 2 ^ 30) (hf : m < fu) : f_J7_fill_53178 K L fu (some a) v M = some (ms_A M a (fun j => if j < m then v else mm_A M a j)) := by
  unfold f_J7_fill_53178
  rw [rc_ok hK]
  simp only [Option.bind_some, bn_eq]
  rw [hL, show (0 : Int32) = nI 0 from rfl, show Int32.ofNat m = nI m from rfl, fill_loop hK hL hm fu 0 M (by omega) (by omega)]
  congr 2
  funext j
  simp
theorem row_loop {B : Nat} {K L : Nat → Nat} {fu p n : Nat} (hp : p < 16) (hn : n ≤ 20) : ∀ (g i : Nat) (M : Mm), MS B K L (mm_R M) → i ≤ n → n - i < g → f_X12_row_68 K L fu (B + 44) g (nI p) (nI n) (nI i) M = some (1, ms_A M (B + 45) (fun j => if 3940 * p + 49 + i ≤ j ∧ j < 3940 * p + 49 + n then 0 else mm_A M (B + 45) j)) := by
  intro g
  induction g with
  | zero => intro i M _ h1 h2; omega
  | succ g ih =>
    intro i M hM h1 h2
    show f_X12_row_68b K L fu (f_X12_row_68 K L fu (B + 44) g) (B + 44) (nI p) (nI n) (nI i) M = _
    unfold f_X12_row_68b
    by_cases hi : i = n
    · rw [if_pos (nI_le (by omega) (by omega))]
      have e : (fun j => if 3940 * p + 49 + i ≤ j ∧ j < 3940 * p + 49 + n then (0 : Int32) else mm_A M (B + 45) j) = mm_A M (B + 45) := by
        funext j
        rw [if_neg (by omega)]
      rw [e, ms_A_self]
    · rw [if_neg (nI_ge (by omega) (by omega)), m_to' (c := 49 + nI i) hM hp (49 + i) (nI_add 49 i) (by omega)]
      simp only [Option.bind_some]
      rw [nI_1, ih (i + 1) (mp M B (3940 * p + (49 + i)) 0) hM (by omega) (by omega)]
      unfold mp
      rw [ms_A_A]
      congr 3
      funext j
      rw [A_A, if_pos rfl, upd_eq]
      by_cases hj : j = 3940 * p + (49 + i)
      · have hC : 3940 * p + 49 + i ≤ j ∧ j < 3940 * p + 49 + n := by omega
        rw [if_pos hj, if_pos hC]
        split <;> rfl
      · rw [if_neg hj]
        by_cases h : 3940 * p + 49 + (i + 1) ≤ j ∧ j < 3940 * p + 49 + n
        · rw [if_pos h, if_pos (by omega)]
        · rw [if_neg h, if_neg (by omega)]
theorem stood_eq {K L : Nat → Nat} {M : Mm} {a z : Nat} (h : mm_I M 98 a = nI z - 1) (hz : z ≤ 20) : f_X3_isStoodOn K L M a = some (if z = 0 then 0 else 1) := by
  unfold f_X3_isStoodOn
  rw [show mm_I M (32 * 3 + 2) a = _ from h]
  have ez : (nI z - 1).toInt = (z : Int) - 1 := pk_sub_toInt (a := z) (b := 1) (by omega) (by decide)
  by_cases h0 : z = 0
  · subst h0
    rw [if_pos (by decide), if_pos rfl]
  · rw [if_neg, if_neg h0]
    intro e
    have := congrArg Int32.toInt e
    rw [ez] at this
    have h1 : (-1 : Int32).toInt = -1 := rfl
    omega
/-- row -/
theorem st_16 {fu : Nat} (hfu : 1000 ≤ fu) : so_16 Iv fu := by
  intro B n K L M w1 w2 iv
  refine gated iv w1 (kinds := 6) (kind := 1) (by unfold kb; simp) (F2 := fun m => f_X12_row K L fu (B + 44) w1 w2 m) rfl (fun m => rfl) ?_
  intro p b hh hv hk g
  subst hv
  obtain ⟨g1, g2, g3, g4, g5, g6, g7, g8, g9, g10, g11⟩ := id g
  have hc1 : rc K (some b) 9 = some b := rc_ok g9.1.1
  have hr : mm_R M (32 * 9 + 9) b = some (b + 9) := g9.1.2.2.2.1
  have hc2 : rc K (some (b + 9)) 3 = some (b + 9) := rc_ok g9.2.2.2.1.1
  have hr10 : mm_R M (32 * 3 + 0) (b + 9) = some (b + 10) := g9.2.2.2.1.2.1
  obtain ⟨k, z, l1, l2, l3, l4, l5, l6, l7, l8⟩ := g11.2.2.2.1
  have ez : (nI z - 1).toInt = (z : Int) - 1 := pk_sub_toInt (a := z) (b := 1) (by omega) (by decide)
  by_cases hneg : 0 ≤ w2.toInt
  · have hneg' : (0 : Int32) ≤ w2 := (t_le _ _).mpr hneg
    by_cases hw : 1 ≤ w2.toInt ∧ w2.toInt ≤ 20
    · obtain ⟨v, v1, ev⟩ := n_of (v := w2) (m := 20) (by omega) hw.2 (by decide)
      subst ev
      have hv1 : 1 ≤ v := by have := hw.1; rw [nI_toInt (by omega)] at this; omega
      by_cases hz0 : z = 0
      · right
        have hms : ∀ m, mm_R m = mm_R M → MS B K L (mm_R m) := fun m e => by rw [e]; exact iv.1.1
        refine ⟨(1, ms_I (ms_A M (b + 10) (fun j => if j < 20 then 0 else mm_A M (b + 10) j)) 97 (b + 9) (nI v)), (1, ms_A (mp (ms_I (ms_A M (b + 10) (fun j => if j < 20 then 0 else mm_A M (b + 10) j)) 97 (b + 9) (nI v)) B (3940 * p + 48) (nI v)) (B + 45) (fun j => if 3940 * p + 49 + 0 ≤ j ∧ j < 3940 * p + 49 + v then 0 else upd (mm_A M (B + 45)) (3940 * p + 48) (nI v) j)), ?_, ?_, ?_, rfl, ?_⟩
        · rw [if_pos hneg', if_neg (nI_ne0 (by omega) (by omega)), if_neg (show ¬ (20 : Int32) < nI v from nI_nlt (a := 20) (b := v) (by omega) (by decide))]
          simp only [hc1, hr, hc2, Option.bind_some, stood_eq l7 l2, if_pos hz0, if_true, f_X3_layRow, hr10, fill_eq g9.2.2.2.1.2.2.1 g9.2.2.2.1.2.2.2 (by decide) (show 20 < fu by omega), bn_eq]
          rw [if_neg (show ¬ (20 : Int32) < nI v from nI_nlt (a := 20) (b := v) (by omega) (by decide))]
        · exact ⟨rfl, by rw [A_I, A_A, if_neg (by omega)]⟩
        · rw [if_pos hneg', isIn_l _ (a := 1) (c := 20) rfl rfl, if_pos hw]
          simp only [Option.bind_some]
          rw [if_neg (by decide), m_of (c := 69) (hms _ (by rfl)) g1 69 rfl (by decide)]
          simp only [Option.bind_some]
          have e69 : mm_A (ms_I (ms_A M (b + 10) (fun j => if j < 20 then 0 else mm_A M (b + 10) j)) 97 (b + 9) (nI v)) (B + 45) (3940 * p + 69) = nI z - 1 := by
            rw [A_I, A_A, if_neg (show ¬ B + 45 = b + 10 by omega)]
            exact l5
          rw [e69, if_pos (by rw [t_lt, ez, show (0 : Int32).toInt = 0 from rfl]; omega), m_to' (c := 48) (hms _ (by rfl)) g1 48 rfl (by decide)]
          simp only [Option.bind_some]
          rw [show (0 : Int32) = nI 0 from rfl, row_loop g1 (by omega) fu 0 _ (hms _ (by rfl)) (by omega) (by omega), mp_S, A_I, A_A, if_neg (by omega)]
          rfl
        · refine iv_upd iv g rfl rfl (fun x h5 h6 => (((eqAt.A (by omega)).tr (eqAt.I (by omega))).tr (mp_e _ _ _ _ h6)).tr (eqAt.A h6)) (S' := fun j => if 3940 * p + 49 + 0 ≤ j ∧ j < 3940 * p + 49 + v then 0 else upd (mm_A M (B + 45)) (3940 * p + 48) (nI v) j) (by rw [A_A, if_pos rfl]) (fun j hj => ?_) ?_ ?_ ?_ (rOk_upd (fun j hj => ?_) g10) ?_
          · show (if _ then _ else _) = _
            rw [if_neg (by omega), upd_eq, if_neg (by omega)]
          · show (if _ then _ else _) = _
            rw [if_neg (by omega), upd_eq, if_neg (by omega)]
          · show (if _ then _ else _) = _
            rw [if_neg (by omega), upd_eq, if_neg (by omega)]
          · show (if _ then _ else _) = _
            rw [if_neg (by omega), upd_eq, if_neg (by omega)]
          · show (if _ then _ else _) = _
            rw [if_neg (by omega), upd_eq, if_neg (by omega)]
          · refine but_La (fun x h5 h6 h7 h8 => (((eqAt.A h8).tr (eqAt.I h7)).tr (mp_e _ _ _ _ (by omega))).tr (eqAt.A (by omega))) (fun j h5 h6 => ?_) g11 ?_
            · show (if _ then _ else _) = _
              rw [if_neg (by omega), upd_eq, if_neg (by omega)]
            · refine ⟨v, z, by omega, l2, fun h => by omega, ?_, ?_, ?_, ?_, fun j hj => ?_⟩
              · show (if _ then _ else _) = _
                rw [if_neg (by omega), upd_eq, if_pos rfl]
              · show (if _ then _ else _) = _
                rw [if_neg (by omega), upd_eq, if_neg (by omega)]
                exact l5
              · rw [if_neg (by omega)]
                simp [I_A, mp_I, I_I]
              · simpa [I_A, mp_I, I_I] using l7
              · have e0 : (fun j => if 3940 * p + 49 + 0 ≤ j ∧ j < 3940 * p + 49 + v then (0 : Int32) else upd (mm_A M (B + 45)) (3940 * p + 48) (nI v) j) (3940 * p + 49 + j) = 0 := by
                  show (if _ then _ else _) = _
                  rw [if_pos (by omega)]
                rw [e0, A_A, if_neg (by omega), mp_A _ _ _ _ (by omega), A_I, A_A, if_pos rfl]
                exact ⟨if_pos (by omega), 0, by omega, rfl⟩
      · left
        refine ⟨12, by decide, by decide, ?_, fun m hm => ?_⟩
        · rw [if_pos hneg', if_neg (nI_ne0 (by omega) (by omega)), if_neg (show ¬ (20 : Int32) < nI v from nI_nlt (a := 20) (b := v) (by omega) (by decide))]
          simp only [hc1, hr, hc2, Option.bind_some, stood_eq l7 l2, if_neg hz0, f_X11_row_54, bind_eta]
          rfl
        · have hms : MS B K L (mm_R m) := by rw [hm.1]; exact iv.1.1
          rw [if_pos hneg', isIn_l _ (a := 1) (c := 20) rfl rfl, if_pos hw]
          simp only [Option.bind_some, m_of (c := 69) hms g1 69 rfl (by decide), hm.2, l5, f_X12_row_50, bind_eta]
          rw [if_neg (by decide), if_neg (by rw [t_lt, ez, show (0 : Int32).toInt = 0 from rfl]; omega)]
          rfl
    · left
      refine ⟨12, by decide, by decide, ?_, fun m hm => ?_⟩
      · rw [if_pos hneg']
        by_cases h0 : w2 = 0
        · rw [if_pos h0]
          exact bind_eta _
        · rw [if_neg h0, if_pos]
          · exact bind_eta _
          · rw [t_lt, show (20 : Int32).toInt = 20 from rfl]
            rw [t_eq, show (0 : Int32).toInt = 0 from rfl] at h0
            omega
      · rw [if_pos hneg', isIn_l _ (a := 1) (c := 20) rfl rfl, if_neg hw]
        exact bind_eta _
  · have hneg' : ¬ (0 : Int32) ≤ w2 := fun e => hneg ((t_le _ _).mp e)
    left
    refine ⟨4, by decide, by decide, ?_, fun m hm => ?_⟩
    · rw [if_neg hneg']
      exact bind_eta _
    · rw [if_neg hneg']
      exact bind_eta _
