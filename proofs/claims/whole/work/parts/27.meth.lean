/-! methods: X12_isRing X12_hang X12_stop X12_ring X12_row X12_tear X12_step X12_whyTwo X12_copy X12_minuteAt X12_window X12_isSpent X12_whyNoGrowth -/
def f_X12_isRing_41b (K L : Nat → Nat) (fu : Nat) (k41 : Int32 → Int32 → Int32 → Mm → Option (Int32 × Mm)) (a0 : Nat) (v1 : Int32) (v2 : Int32) (v3 : Int32) (M : Mm) : Option (Int32 × Mm) :=
  if v3 ≤ 0 then
    some ((1 : Int32), M)
  else
    Option.bind (rx K L (mm_R M (32 * 12 + 6) a0) 13 (mm_I M (32 * 12 + 7) a0)) (fun a1 =>
    bn (ms_A M a1 (upd (mm_A M a1) (mm_I M (32 * 12 + 7) a0).toNatClampNeg v2)) (fun M3 =>
    bn (ms_I M3 (32 * 12 + 7) a0 ((mm_I M3 (32 * 12 + 7) a0) + (1 : Int32))) (fun M5 =>
    if (v3 + (-1)) = 0 then
      k41 v1 v1 (v3 + (-1)) M5
    else
      Option.bind (f_X12_nextOn K L fu M5 a0 v2 (v3 + (-1))) (fun x7 =>
      k41 v1 x7 (v3 + (-1)) M5))))
def f_X12_isRing_41 (K L : Nat → Nat) (fu : Nat) (a0 : Nat) : Nat → Int32 → Int32 → Int32 → Mm → Option (Int32 × Mm)
  | 0, _, _, _, _ => none
  | g + 1, v1, v2, v3, M => f_X12_isRing_41b K L fu (f_X12_isRing_41 K L fu a0 g) a0 v1 v2 v3 M
set_option maxHeartbeats 4000000 in
theorem w_X12_isRing_41b {X : Cx} {d n : Nat} {K L : Nat → Nat} {fu : Nat} {a0 : Nat} {r : (Int32 × Mm)} {k41 : Int32 → Int32 → Int32 → Mm → Option (Int32 × Mm)} {v1 : Int32} {v2 : Int32} {v3 : Int32} {M : Mm} (o : cOk X cX12_isRing RX12 (d + 1)) (hL : cL X = 4) (hr : (ch X).sig.returnType = some .boolean) (hz : (cs X).heap.size + 0 = cB X + n) (hk0 : K a0 = 12) (hE : cE X n K L r.2 (some (.int r.1)) 0 0) (hk41 : ∀ (v1 : Int32) (v2 : Int32) (v3 : Int32) (M : Mm), k41 v1 v2 v3 M = some r → gW X 0 0 n K L M 41 [(0, va_rf (some a0)), (1, .int v1), (2, .int v2), (3, .int v3)] []) (hd : 4 ≤ d + 1) (h : f_X12_isRing_41b K L fu k41 a0 v1 v2 v3 M = some r) : gW X 0 0 n K L M 41 [(0, va_rf (some a0)), (1, .int v1), (2, .int v2), (3, .int v3)] [] := by
  unfold f_X12_isRing_41b at h
  refine g_iload_n o dX12_isRing_41 3 rfl ?_
  refine g_if_le (tgt := 86) o dX12_isRing_42 (by decide) (fun z => ?_) (fun z => ?_)
  · have h := (if_pos z).symm.trans h
    refine g_iconst (v := (1 : Int32)) o dX12_isRing_86 (by decide) ?_
    cases h
    exact g_zret o hr (by decide) hE dX12_isRing_87
  · have h := (if_neg z).symm.trans h
    refine g_aload_n o dX12_isRing_45 0 rfl ?_
    refine g_getR o fl_X12_27 (rc_self hk0) (by decide) rfl dX12_isRing_46 ?_
    refine g_aload_n o dX12_isRing_49 0 rfl ?_
    refine g_getI o fl_X12_149 (rc_self hk0) (by decide) rfl dX12_isRing_50 ?_
    refine g_iload_n o dX12_isRing_53 2 rfl ?_
    obtain ⟨a1, e2, h⟩ := ob h
    refine g_iast o hz e2  dX12_isRing_54 ?_
    obtain ⟨M3, e4, h⟩ := bn_at h
    refine g_mem e4 ?_
    refine g_aload_n o dX12_isRing_55 0 rfl ?_
    refine g_dup o dX12_isRing_56 (cat_rf _) ?_
    refine g_getI o fl_X12_149 (rc_self hk0) (by decide) rfl dX12_isRing_57 ?_
    refine g_iconst (v := (1 : Int32)) o dX12_isRing_60 (by decide) ?_
    refine g_iadd o dX12_isRing_61 ?_
    refine g_putI o hz fl_X12_149 (rc_self hk0) (by decide) rfl rfl rfl  dX12_isRing_62 ?_
    obtain ⟨M5, e6, h⟩ := bn_at h
    refine g_mem e6 ?_
    refine g_iinc (i := 3) (v := v3 + (-1)) (ls' := [(3, .int (v3 + (-1))), (0, va_rf (some a0)), (1, .int v1), (2, .int v2)]) o dX12_isRing_65 3 rfl (by first | rfl | (congr 1)) (ltL hL (by decide)) rfl ?_
    refine g_iload_n o dX12_isRing_68 0 rfl ?_
    refine g_if_ne (tgt := 76) o dX12_isRing_69 (by decide) (fun z => ?_) (fun z => ?_)
    · have h := (if_neg z).symm.trans h
      refine g_aload_n o dX12_isRing_76 1 rfl ?_
      refine g_iload_n o dX12_isRing_77 3 rfl ?_
      refine g_iload_n o dX12_isRing_78 0 rfl ?_
      obtain ⟨x7, e8, h⟩ := ob h
      refine g_invV0 o (rc_self hk0) (by decide) ml_X12_152 kb_X12_nextOn kv_X12_nextOn rfl (c_X12_nextOn (cq X) (cD X) (cY X) (cB X) (d := d) (by omega) (rc_at (rc_self hk0)).2 e8) rfl rfl (by simp [cat_i, cat_l, cat_rf]) dX12_isRing_79 ?_
      refine g_istore_n (i := 2) (ls' := [(2, .int x7), (3, .int (v3 + (-1))), (0, va_rf (some a0)), (1, .int v1)]) o dX12_isRing_82 rfl (ltL hL (by decide)) rfl ?_
      refine g_goto (tgt := 41) o dX12_isRing_83 (by decide) ?_
      refine gsub [2, 3, 0, 1] rfl ?_
      exact hk41 _ _ _ _ h
    · have h := (if_pos z).symm.trans h
      refine g_iload_n o dX12_isRing_72 2 rfl ?_
      refine g_goto (tgt := 82) o dX12_isRing_73 (by decide) ?_
      refine g_istore_n (i := 2) (ls' := [(2, .int v1), (3, .int (v3 + (-1))), (0, va_rf (some a0)), (1, .int v1)]) o dX12_isRing_82 rfl (ltL hL (by decide)) rfl ?_
      refine g_goto (tgt := 41) o dX12_isRing_83 (by decide) ?_
      refine gsub [2, 3, 0, 1] rfl ?_
      exact hk41 _ _ _ _ h
theorem w_X12_isRing_41_n {X : Cx} {d n : Nat} {K L : Nat → Nat} {fu : Nat} {a0 : Nat} {r : (Int32 × Mm)} (o : cOk X cX12_isRing RX12 (d + 1)) (hL : cL X = 4) (hr : (ch X).sig.returnType = some .boolean) (hz : (cs X).heap.size + 0 = cB X + n) (hk0 : K a0 = 12) (hE : cE X n K L r.2 (some (.int r.1)) 0 0) (hd : 4 ≤ d + 1) : ∀ (g : Nat) (v1 : Int32) (v2 : Int32) (v3 : Int32) (M : Mm), f_X12_isRing_41 K L fu a0 g v1 v2 v3 M = some r → gW X 0 0 n K L M 41 [(0, va_rf (some a0)), (1, .int v1), (2, .int v2), (3, .int v3)] []
  | 0, _, _, _, _, h => by cases h
  | g + 1, v1, v2, v3, M, h => w_X12_isRing_41b o hL hr hz hk0 hE (w_X12_isRing_41_n o hL hr hz hk0 hE hd g) hd h
theorem w_X12_isRing_41 {X : Cx} {d n : Nat} {K L : Nat → Nat} {fu : Nat} {a0 : Nat} {r : (Int32 × Mm)} {v1 : Int32} {v2 : Int32} {v3 : Int32} {M : Mm} (o : cOk X cX12_isRing RX12 (d + 1)) (hL : cL X = 4) (hr : (ch X).sig.returnType = some .boolean) (hz : (cs X).heap.size + 0 = cB X + n) (hk0 : K a0 = 12) (hE : cE X n K L r.2 (some (.int r.1)) 0 0) (hd : 4 ≤ d + 1) (h : f_X12_isRing_41 K L fu a0 fu v1 v2 v3 M = some r) : gW X 0 0 n K L M 41 [(0, va_rf (some a0)), (1, .int v1), (2, .int v2), (3, .int v3)] [] := w_X12_isRing_41_n o hL hr hz hk0 hE hd fu v1 v2 v3 M h
def f_X12_isRing_2b (K L : Nat → Nat) (fu : Nat) (k2 : Int32 → Mm → Option (Int32 × Mm)) (a0 : Nat) (v1 : Int32) (M : Mm) : Option (Int32 × Mm) :=
  if (16 : Int32) ≤ v1 then
    some ((0 : Int32), M)
  else
    Option.bind (f_X12_findFar K L fu a0 v1 M) (fun x1 =>
    Option.bind (rx K L (mm_R x1 (32 * 12 + 14) a0) 13 v1) (fun a3 =>
    if (mm_A x1 a3 v1.toNatClampNeg) ≤ (16 : Int32) then
      bn (ms_I x1 (32 * 12 + 7) a0 (0 : Int32)) (fun M5 =>
      Option.bind (rx K L (mm_R M5 (32 * 12 + 14) a0) 13 v1) (fun a7 =>
      bn (mm_A M5 a7 v1.toNatClampNeg) (fun x9 =>
      f_X12_isRing_41 K L fu a0 fu v1 v1 x9 M5)))
    else
      k2 (v1 + 1) x1))
def f_X12_isRing_2 (K L : Nat → Nat) (fu : Nat) (a0 : Nat) : Nat → Int32 → Mm → Option (Int32 × Mm)
  | 0, _, _ => none
  | g + 1, v1, M => f_X12_isRing_2b K L fu (f_X12_isRing_2 K L fu a0 g) a0 v1 M
set_option maxHeartbeats 4000000 in
theorem w_X12_isRing_2b {X : Cx} {d n : Nat} {K L : Nat → Nat} {fu : Nat} {a0 : Nat} {r : (Int32 × Mm)} {k2 : Int32 → Mm → Option (Int32 × Mm)} {v1 : Int32} {M : Mm} (o : cOk X cX12_isRing RX12 (d + 1)) (hL : cL X = 4) (hr : (ch X).sig.returnType = some .boolean) (hz : (cs X).heap.size + 0 = cB X + n) (hk0 : K a0 = 12) (hE : cE X n K L r.2 (some (.int r.1)) 0 0) (hk2 : ∀ (v1 : Int32) (M : Mm), k2 v1 M = some r → gW X 0 0 n K L M 2 [(0, va_rf (some a0)), (1, .int v1)] []) (hd : 4 ≤ d + 1) (h : f_X12_isRing_2b K L fu k2 a0 v1 M = some r) : gW X 0 0 n K L M 2 [(0, va_rf (some a0)), (1, .int v1)] [] := by
  unfold f_X12_isRing_2b at h
  refine g_iload_n o dX12_isRing_2 1 rfl ?_
  refine g_bipush (v := (16 : Int32)) o dX12_isRing_3 (by decide) ?_
  refine g_icmp_ge (tgt := 94) o dX12_isRing_5 (by decide) (fun z => ?_) (fun z => ?_)
  · have h := (if_pos z).symm.trans h
    refine g_iconst (v := (0 : Int32)) o dX12_isRing_94 (by decide) ?_
    cases h
    exact g_zret o hr (by decide) hE dX12_isRing_95
  · have h := (if_neg z).symm.trans h
    refine g_aload_n o dX12_isRing_8 0 rfl ?_
    refine g_iload_n o dX12_isRing_9 1 rfl ?_
    obtain ⟨x1, e2, h⟩ := ob h
    refine g_invV0 o (rc_self hk0) (by decide) ml_X12_146 kb_X12_findFar kv_X12_findFar rfl (c_X12_findFar (cq X) (cD X) (cY X) (cB X) (d := d) (by omega) (rc_at (rc_self hk0)).2 e2) rfl rfl (by simp [cat_i, cat_l, cat_rf]) dX12_isRing_10 ?_
    refine g_aload_n o dX12_isRing_13 0 rfl ?_
    refine g_getR o fl_X12_37 (rc_self hk0) (by decide) rfl dX12_isRing_14 ?_
    refine g_iload_n o dX12_isRing_17 1 rfl ?_
    obtain ⟨a3, e4, h⟩ := ob h
    refine g_iald o e4 dX12_isRing_18 ?_
    refine g_bipush (v := (16 : Int32)) o dX12_isRing_19 (by decide) ?_
    refine g_icmp_le (tgt := 27) o dX12_isRing_21 (by decide) (fun z => ?_) (fun z => ?_)
    · have h := (if_pos z).symm.trans h
      refine g_aload_n o dX12_isRing_27 0 rfl ?_
      refine g_iconst (v := (0 : Int32)) o dX12_isRing_28 (by decide) ?_
      refine g_putI o hz fl_X12_149 (rc_self hk0) (by decide) rfl rfl rfl  dX12_isRing_29 ?_
      obtain ⟨M5, e6, h⟩ := bn_at h
      refine g_mem e6 ?_
      refine g_iload_n o dX12_isRing_32 1 rfl ?_
      refine g_istore_n (i := 2) (ls' := [(2, .int v1), (0, va_rf (some a0)), (1, .int v1)]) o dX12_isRing_33 rfl (ltL hL (by decide)) rfl ?_
      refine g_aload_n o dX12_isRing_34 1 rfl ?_
      refine g_getR o fl_X12_37 (rc_self hk0) (by decide) rfl dX12_isRing_35 ?_
      refine g_iload_n o dX12_isRing_38 2 rfl ?_
      obtain ⟨a7, e8, h⟩ := ob h
      refine g_iald o e8 dX12_isRing_39 ?_
      obtain ⟨x9, e10, h⟩ := bn_at h
      refine g_topI e10 ?_
      refine g_istore_n (i := 3) (ls' := [(3, .int x9), (2, .int v1), (0, va_rf (some a0)), (1, .int v1)]) o dX12_isRing_40 rfl (ltL hL (by decide)) rfl ?_
      refine gsub [2, 3, 1, 0] rfl ?_
      exact w_X12_isRing_41 o hL hr hz hk0 hE hd h
    · have h := (if_neg z).symm.trans h
      refine g_goto (tgt := 88) o dX12_isRing_24 (by decide) ?_
      refine g_iinc (i := 1) (v := v1 + 1) (ls' := [(1, .int (v1 + 1)), (0, va_rf (some a0))]) o dX12_isRing_88 1 rfl (by first | rfl | (congr 1)) (ltL hL (by decide)) rfl ?_
      refine g_goto (tgt := 2) o dX12_isRing_91 (by decide) ?_
      refine gsub [1, 0] rfl ?_
      exact hk2 _ _ h
theorem w_X12_isRing_2_n {X : Cx} {d n : Nat} {K L : Nat → Nat} {fu : Nat} {a0 : Nat} {r : (Int32 × Mm)} (o : cOk X cX12_isRing RX12 (d + 1)) (hL : cL X = 4) (hr : (ch X).sig.returnType = some .boolean) (hz : (cs X).heap.size + 0 = cB X + n) (hk0 : K a0 = 12) (hE : cE X n K L r.2 (some (.int r.1)) 0 0) (hd : 4 ≤ d + 1) : ∀ (g : Nat) (v1 : Int32) (M : Mm), f_X12_isRing_2 K L fu a0 g v1 M = some r → gW X 0 0 n K L M 2 [(0, va_rf (some a0)), (1, .int v1)] []
  | 0, _, _, h => by cases h
  | g + 1, v1, M, h => w_X12_isRing_2b o hL hr hz hk0 hE (w_X12_isRing_2_n o hL hr hz hk0 hE hd g) hd h
theorem w_X12_isRing_2 {X : Cx} {d n : Nat} {K L : Nat → Nat} {fu : Nat} {a0 : Nat} {r : (Int32 × Mm)} {v1 : Int32} {M : Mm} (o : cOk X cX12_isRing RX12 (d + 1)) (hL : cL X = 4) (hr : (ch X).sig.returnType = some .boolean) (hz : (cs X).heap.size + 0 = cB X + n) (hk0 : K a0 = 12) (hE : cE X n K L r.2 (some (.int r.1)) 0 0) (hd : 4 ≤ d + 1) (h : f_X12_isRing_2 K L fu a0 fu v1 M = some r) : gW X 0 0 n K L M 2 [(0, va_rf (some a0)), (1, .int v1)] [] := w_X12_isRing_2_n o hL hr hz hk0 hE hd fu v1 M h
def f_X12_isRing (K L : Nat → Nat) (fu : Nat) (a0 : Nat) (M : Mm) : Option (Int32 × Mm) :=
  f_X12_isRing_2 K L fu a0 fu (0 : Int32) M
set_option maxHeartbeats 4000000 in
theorem w_X12_isRing_0 {X : Cx} {d n : Nat} {K L : Nat → Nat} {fu : Nat} {a0 : Nat} {r : (Int32 × Mm)} {M : Mm} (o : cOk X cX12_isRing RX12 (d + 1)) (hL : cL X = 4) (hr : (ch X).sig.returnType = some .boolean) (hz : (cs X).heap.size + 0 = cB X + n) (hk0 : K a0 = 12) (hE : cE X n K L r.2 (some (.int r.1)) 0 0) (hd : 4 ≤ d + 1) (h : f_X12_isRing K L fu a0  M = some r) : gW X 0 0 n K L M 0 [(0, va_rf (some a0))] [] := by
  unfold f_X12_isRing at h
  refine g_iconst (v := (0 : Int32)) o dX12_isRing_0 (by decide) ?_
  refine g_istore_n (i := 1) (ls' := [(1, .int (0 : Int32)), (0, va_rf (some a0))]) o dX12_isRing_1 rfl (ltL hL (by decide)) rfl ?_
  refine gsub [1, 0] rfl ?_
  exact w_X12_isRing_2 o hL hr hz hk0 hE hd h
theorem c_X12_isRing (l : Launch) (D : va_G) (Y : Nat → ClassId) (B : Nat) {d : Nat} {n : Nat} {K L : Nat → Nat} {fu : Nat} {M : Mm} {a0 : Nat} {r : (Int32 × Mm)} (hd : 4 ≤ d) (hk0 : K a0 = 12) (h : f_X12_isRing K L fu a0  M = some r) : mC l D Y B d yX12_isRing cX12_isRing 4 (some .boolean) [va_rf (some a0)] n K L M n K L r.2 (some (.int r.1)) 0 0 := by
  obtain ⟨d, rfl⟩ : ∃ e, d = e + 1 := ⟨d - 1, by omega⟩
  refine mk_met (by decide) (by simp [lgs_r, lgs_i, lgs_l, lgs_n]) (fun X e1 e2 e3 e4 o hL hr hnm hz hc hs hE => ?_)
  subst e1 e2 e3 e4
  rw [show lv_args 0 [va_rf (some a0)] = [(0, va_rf (some a0))] by simp [lva_r, lva_i, lva_l, lva_n]]
  exact w_X12_isRing_0 o hL hr hz hk0 hE hd h
def f_X12_hang_97 (K L : Nat → Nat) (fu : Nat) (a0 : Nat) (v1 : Int32) (v2 : Int32) (v3 : Int32) (M : Mm) : Option (Int32 × Mm) :=
  Option.bind (f_X12_of K L M a0 v1 (44 : Int32)) (fun x1 =>
  Option.bind (f_X12_to K L a0 v1 (44 : Int32) v2 M) (fun x3 =>
  Option.bind (f_X12_isRing K L fu a0 x3) (fun x5 =>
  if (x5.1) = 0 then
    Option.bind (f_X12_to K L a0 v1 (45 : Int32) v3 x5.2) (fun x7 =>
    some ((1 : Int32), x7))
  else
    Option.bind (f_X12_to K L a0 v1 (44 : Int32) x1 x5.2) (fun x9 =>
    Option.bind (f_X12_no K L a0 (-7 : Int32) x9) (fun x11 =>
    some (x11.1, x11.2))))))
set_option maxHeartbeats 4000000 in
theorem w_X12_hang_97 {X : Cx} {d n : Nat} {K L : Nat → Nat} {fu : Nat} {a0 : Nat} {r : (Int32 × Mm)} {v1 : Int32} {v2 : Int32} {v3 : Int32} {M : Mm} (o : cOk X cX12_hang RX12 (d + 1)) (hL : cL X = 5) (hr : (ch X).sig.returnType = some .int) (hz : (cs X).heap.size + 0 = cB X + n) (hk0 : K a0 = 12) (hE : cE X n K L r.2 (some (.int r.1)) 0 0) (hd : 5 ≤ d + 1) (h : f_X12_hang_97 K L fu a0 v1 v2 v3 M = some r) : gW X 0 0 n K L M 97 [(0, va_rf (some a0)), (1, .int v1), (2, .int v2), (3, .int v3)] [] := by
  unfold f_X12_hang_97 at h
  refine g_aload_n o dX12_hang_97 0 rfl ?_
  refine g_iload_n o dX12_hang_98 1 rfl ?_
  refine g_bipush (v := (44 : Int32)) o dX12_hang_99 (by decide) ?_
  obtain ⟨x1, e2, h⟩ := ob h
  refine g_invV0 o (rc_self hk0) (by decide) ml_X12_43 kb_X12_of kv_X12_of rfl (c_X12_of (cq X) (cD X) (cY X) (cB X) (d := d) (by omega) (rc_at (rc_self hk0)).2 e2) rfl rfl (by simp [cat_i, cat_l, cat_rf]) dX12_hang_101 ?_
  refine g_istore (i := 4) (ls' := [(4, .int x1), (0, va_rf (some a0)), (1, .int v1), (2, .int v2), (3, .int v3)]) o dX12_hang_104 (ltL hL (by decide)) rfl ?_
  refine g_aload_n o dX12_hang_106 1 rfl ?_
  refine g_iload_n o dX12_hang_107 2 rfl ?_
  refine g_bipush (v := (44 : Int32)) o dX12_hang_108 (by decide) ?_
  refine g_iload_n o dX12_hang_110 3 rfl ?_
  obtain ⟨x3, e4, h⟩ := ob h
  refine g_invV0 o (rc_self hk0) (by decide) ml_X12_125 kb_X12_to kv_X12_to rfl (c_X12_to (cq X) (cD X) (cY X) (cB X) (d := d) (by omega) (rc_at (rc_self hk0)).2 e4) rfl rfl (by simp [cat_i, cat_l, cat_rf]) dX12_hang_111 ?_
  refine g_aload_n o dX12_hang_114 1 rfl ?_
  obtain ⟨x5, e6, h⟩ := ob h
  refine g_invV0 o (rc_self hk0) (by decide) ml_X12_155 kb_X12_isRing kv_X12_isRing rfl (c_X12_isRing (cq X) (cD X) (cY X) (cB X) (d := d) (by omega) (rc_at (rc_self hk0)).2 e6) rfl rfl (by simp [cat_i, cat_l, cat_rf]) dX12_hang_115 ?_
  refine g_if_eq (tgt := 137) o dX12_hang_118 (by decide) (fun z => ?_) (fun z => ?_)
  · have h := (if_pos z).symm.trans h
    refine g_aload_n o dX12_hang_137 1 rfl ?_
    refine g_iload_n o dX12_hang_138 2 rfl ?_
    refine g_bipush (v := (45 : Int32)) o dX12_hang_139 (by decide) ?_
    refine g_iload_n o dX12_hang_141 4 rfl ?_
    obtain ⟨x7, e8, h⟩ := ob h
    refine g_invV0 o (rc_self hk0) (by decide) ml_X12_125 kb_X12_to kv_X12_to rfl (c_X12_to (cq X) (cD X) (cY X) (cB X) (d := d) (by omega) (rc_at (rc_self hk0)).2 e8) rfl rfl (by simp [cat_i, cat_l, cat_rf]) dX12_hang_142 ?_
    refine g_iconst (v := (1 : Int32)) o dX12_hang_145 (by decide) ?_
    cases h
    exact g_iret o hr hE dX12_hang_146
  · have h := (if_neg z).symm.trans h
    refine g_aload_n o dX12_hang_121 1 rfl ?_
    refine g_iload_n o dX12_hang_122 2 rfl ?_
    refine g_bipush (v := (44 : Int32)) o dX12_hang_123 (by decide) ?_
    refine g_iload o dX12_hang_125 0 rfl ?_
    obtain ⟨x9, e10, h⟩ := ob h
    refine g_invV0 o (rc_self hk0) (by decide) ml_X12_125 kb_X12_to kv_X12_to rfl (c_X12_to (cq X) (cD X) (cY X) (cB X) (d := d) (by omega) (rc_at (rc_self hk0)).2 e10) rfl rfl (by simp [cat_i, cat_l, cat_rf]) dX12_hang_127 ?_
    refine g_aload_n o dX12_hang_130 1 rfl ?_
    refine g_bipush (v := (-7 : Int32)) o dX12_hang_131 (by decide) ?_
    obtain ⟨x11, e12, h⟩ := ob h
    refine g_invV0 o (rc_self hk0) (by decide) ml_X12_72 kb_X12_no kv_X12_no rfl (c_X12_no (cq X) (cD X) (cY X) (cB X) (d := d) (by omega) (rc_at (rc_self hk0)).2 e12) rfl rfl (by simp [cat_i, cat_l, cat_rf]) dX12_hang_133 ?_
    cases h
    exact g_iret o hr hE dX12_hang_136
def f_X12_hang_90 (K L : Nat → Nat) (fu : Nat) (a0 : Nat) (M : Mm) : Option (Int32 × Mm) :=
  Option.bind (f_X12_no K L a0 (-5 : Int32) M) (fun x1 =>
  some (x1.1, x1.2))
set_option maxHeartbeats 4000000 in
theorem w_X12_hang_90 {X : Cx} {d n : Nat} {K L : Nat → Nat} {fu : Nat} {a0 : Nat} {r : (Int32 × Mm)} {M : Mm} (o : cOk X cX12_hang RX12 (d + 1)) (hL : cL X = 5) (hr : (ch X).sig.returnType = some .int) (hz : (cs X).heap.size + 0 = cB X + n) (hk0 : K a0 = 12) (hE : cE X n K L r.2 (some (.int r.1)) 0 0) (hd : 5 ≤ d + 1) (h : f_X12_hang_90 K L fu a0  M = some r) : gW X 0 0 n K L M 90 [(0, va_rf (some a0))] [] := by
  unfold f_X12_hang_90 at h
  refine g_aload_n o dX12_hang_90 0 rfl ?_
  refine g_bipush (v := (-5 : Int32)) o dX12_hang_91 (by decide) ?_
  obtain ⟨x1, e2, h⟩ := ob h
  refine g_invV0 o (rc_self hk0) (by decide) ml_X12_72 kb_X12_no kv_X12_no rfl (c_X12_no (cq X) (cD X) (cY X) (cB X) (d := d) (by omega) (rc_at (rc_self hk0)).2 e2) rfl rfl (by simp [cat_i, cat_l, cat_rf]) dX12_hang_93 ?_
  cases h
  exact g_iret o hr hE dX12_hang_96
def f_X12_hang_67 (K L : Nat → Nat) (fu : Nat) (a0 : Nat) (v1 : Int32) (v2 : Int32) (v3 : Int32) (M : Mm) : Option (Int32 × Mm) :=
  Option.bind (f_X12_hangs K L M a0 v1) (fun x1 =>
  if x1 = 0 then
    f_X12_hang_90 K L fu a0 M
  else
    if v2 < 0 then
      f_X12_hang_97 K L fu a0 v1 v2 v3 M
    else
      Option.bind (f_X12_of K L M a0 v2 (0 : Int32)) (fun x3 =>
      if x3 = (6 : Int32) then
        f_X12_hang_90 K L fu a0 M
      else
        f_X12_hang_97 K L fu a0 v1 v2 v3 M))
set_option maxHeartbeats 4000000 in
theorem w_X12_hang_67 {X : Cx} {d n : Nat} {K L : Nat → Nat} {fu : Nat} {a0 : Nat} {r : (Int32 × Mm)} {v1 : Int32} {v2 : Int32} {v3 : Int32} {M : Mm} (o : cOk X cX12_hang RX12 (d + 1)) (hL : cL X = 5) (hr : (ch X).sig.returnType = some .int) (hz : (cs X).heap.size + 0 = cB X + n) (hk0 : K a0 = 12) (hE : cE X n K L r.2 (some (.int r.1)) 0 0) (hd : 5 ≤ d + 1) (h : f_X12_hang_67 K L fu a0 v1 v2 v3 M = some r) : gW X 0 0 n K L M 67 [(0, va_rf (some a0)), (1, .int v1), (2, .int v2), (3, .int v3)] [] := by
  unfold f_X12_hang_67 at h
  refine g_aload_n o dX12_hang_67 0 rfl ?_
  refine g_iload_n o dX12_hang_68 1 rfl ?_
  obtain ⟨x1, e2, h⟩ := ob h
  refine g_invV0 o (rc_self hk0) (by decide) ml_X12_57 kb_X12_hangs kv_X12_hangs rfl (c_X12_hangs (cq X) (cD X) (cY X) (cB X) (d := d) (by omega) (rc_at (rc_self hk0)).2 e2) rfl rfl (by simp [cat_i, cat_l, cat_rf]) dX12_hang_69 ?_
  refine g_if_eq (tgt := 90) o dX12_hang_72 (by decide) (fun z => ?_) (fun z => ?_)
  · have h := (if_pos z).symm.trans h
    refine gsub [0] rfl ?_
    exact w_X12_hang_90 o hL hr hz hk0 hE hd h
  · have h := (if_neg z).symm.trans h
    refine g_iload_n o dX12_hang_75 2 rfl ?_
    refine g_if_lt (tgt := 97) o dX12_hang_76 (by decide) (fun z => ?_) (fun z => ?_)
    · have h := (if_pos z).symm.trans h
      exact w_X12_hang_97 o hL hr hz hk0 hE hd h
    · have h := (if_neg z).symm.trans h
      refine g_aload_n o dX12_hang_79 0 rfl ?_
      refine g_iload_n o dX12_hang_80 2 rfl ?_
      refine g_iconst (v := (0 : Int32)) o dX12_hang_81 (by decide) ?_
      obtain ⟨x3, e4, h⟩ := ob h
      refine g_invV0 o (rc_self hk0) (by decide) ml_X12_43 kb_X12_of kv_X12_of rfl (c_X12_of (cq X) (cD X) (cY X) (cB X) (d := d) (by omega) (rc_at (rc_self hk0)).2 e4) rfl rfl (by simp [cat_i, cat_l, cat_rf]) dX12_hang_82 ?_
      refine g_bipush (v := (6 : Int32)) o dX12_hang_85 (by decide) ?_
      refine g_icmp_ne (tgt := 97) o dX12_hang_87 (by decide) (fun z => ?_) (fun z => ?_)
      · have h := (if_neg z).symm.trans h
        exact w_X12_hang_97 o hL hr hz hk0 hE hd h
      · have h := (if_pos z).symm.trans h
        refine gsub [0] rfl ?_
        exact w_X12_hang_90 o hL hr hz hk0 hE hd h
def f_X12_hang_60 (K L : Nat → Nat) (fu : Nat) (a0 : Nat) (M : Mm) : Option (Int32 × Mm) :=
  Option.bind (f_X12_no K L a0 (-2 : Int32) M) (fun x1 =>
  some (x1.1, x1.2))
set_option maxHeartbeats 4000000 in
theorem w_X12_hang_60 {X : Cx} {d n : Nat} {K L : Nat → Nat} {fu : Nat} {a0 : Nat} {r : (Int32 × Mm)} {M : Mm} (o : cOk X cX12_hang RX12 (d + 1)) (hL : cL X = 5) (hr : (ch X).sig.returnType = some .int) (hz : (cs X).heap.size + 0 = cB X + n) (hk0 : K a0 = 12) (hE : cE X n K L r.2 (some (.int r.1)) 0 0) (hd : 5 ≤ d + 1) (h : f_X12_hang_60 K L fu a0  M = some r) : gW X 0 0 n K L M 60 [(0, va_rf (some a0))] [] := by
  unfold f_X12_hang_60 at h
  refine g_aload_n o dX12_hang_60 0 rfl ?_
  refine g_bipush (v := (-2 : Int32)) o dX12_hang_61 (by decide) ?_
  obtain ⟨x1, e2, h⟩ := ob h
  refine g_invV0 o (rc_self hk0) (by decide) ml_X12_72 kb_X12_no kv_X12_no rfl (c_X12_no (cq X) (cD X) (cY X) (cB X) (d := d) (by omega) (rc_at (rc_self hk0)).2 e2) rfl rfl (by simp [cat_i, cat_l, cat_rf]) dX12_hang_63 ?_
  cases h
  exact g_iret o hr hE dX12_hang_66
def f_X12_hang_38 (K L : Nat → Nat) (fu : Nat) (a0 : Nat) (v1 : Int32) (v2 : Int32) (v3 : Int32) (M : Mm) : Option (Int32 × Mm) :=
  Option.bind (f_X12_of K L M a0 v1 (0 : Int32)) (fun x1 =>
  if x1 = 0 then
    f_X12_hang_60 K L fu a0 M
  else
    if v2 < 0 then
      f_X12_hang_67 K L fu a0 v1 v2 v3 M
    else
      Option.bind (f_X12_of K L M a0 v2 (0 : Int32)) (fun x3 =>
      if x3 = 0 then
        f_X12_hang_60 K L fu a0 M
      else
        f_X12_hang_67 K L fu a0 v1 v2 v3 M))
set_option maxHeartbeats 4000000 in
theorem w_X12_hang_38 {X : Cx} {d n : Nat} {K L : Nat → Nat} {fu : Nat} {a0 : Nat} {r : (Int32 × Mm)} {v1 : Int32} {v2 : Int32} {v3 : Int32} {M : Mm} (o : cOk X cX12_hang RX12 (d + 1)) (hL : cL X = 5) (hr : (ch X).sig.returnType = some .int) (hz : (cs X).heap.size + 0 = cB X + n) (hk0 : K a0 = 12) (hE : cE X n K L r.2 (some (.int r.1)) 0 0) (hd : 5 ≤ d + 1) (h : f_X12_hang_38 K L fu a0 v1 v2 v3 M = some r) : gW X 0 0 n K L M 38 [(0, va_rf (some a0)), (1, .int v1), (2, .int v2), (3, .int v3)] [] := by
  unfold f_X12_hang_38 at h
  refine g_aload_n o dX12_hang_38 0 rfl ?_
  refine g_iload_n o dX12_hang_39 1 rfl ?_
  refine g_iconst (v := (0 : Int32)) o dX12_hang_40 (by decide) ?_
  obtain ⟨x1, e2, h⟩ := ob h
  refine g_invV0 o (rc_self hk0) (by decide) ml_X12_43 kb_X12_of kv_X12_of rfl (c_X12_of (cq X) (cD X) (cY X) (cB X) (d := d) (by omega) (rc_at (rc_self hk0)).2 e2) rfl rfl (by simp [cat_i, cat_l, cat_rf]) dX12_hang_41 ?_
  refine g_if_eq (tgt := 60) o dX12_hang_44 (by decide) (fun z => ?_) (fun z => ?_)
  · have h := (if_pos z).symm.trans h
    refine gsub [0] rfl ?_
    exact w_X12_hang_60 o hL hr hz hk0 hE hd h
  · have h := (if_neg z).symm.trans h
    refine g_iload_n o dX12_hang_47 2 rfl ?_
    refine g_if_lt (tgt := 67) o dX12_hang_48 (by decide) (fun z => ?_) (fun z => ?_)
    · have h := (if_pos z).symm.trans h
      exact w_X12_hang_67 o hL hr hz hk0 hE hd h
    · have h := (if_neg z).symm.trans h
      refine g_aload_n o dX12_hang_51 0 rfl ?_
      refine g_iload_n o dX12_hang_52 2 rfl ?_
      refine g_iconst (v := (0 : Int32)) o dX12_hang_53 (by decide) ?_
      obtain ⟨x3, e4, h⟩ := ob h
      refine g_invV0 o (rc_self hk0) (by decide) ml_X12_43 kb_X12_of kv_X12_of rfl (c_X12_of (cq X) (cD X) (cY X) (cB X) (d := d) (by omega) (rc_at (rc_self hk0)).2 e4) rfl rfl (by simp [cat_i, cat_l, cat_rf]) dX12_hang_54 ?_
      refine g_if_ne (tgt := 67) o dX12_hang_57 (by decide) (fun z => ?_) (fun z => ?_)
      · have h := (if_neg z).symm.trans h
        exact w_X12_hang_67 o hL hr hz hk0 hE hd h
      · have h := (if_pos z).symm.trans h
        refine gsub [0] rfl ?_
        exact w_X12_hang_60 o hL hr hz hk0 hE hd h
def f_X12_hang_31 (K L : Nat → Nat) (fu : Nat) (a0 : Nat) (M : Mm) : Option (Int32 × Mm) :=
  Option.bind (f_X12_no K L a0 (-3 : Int32) M) (fun x1 =>
  some (x1.1, x1.2))
set_option maxHeartbeats 4000000 in
theorem w_X12_hang_31 {X : Cx} {d n : Nat} {K L : Nat → Nat} {fu : Nat} {a0 : Nat} {r : (Int32 × Mm)} {M : Mm} (o : cOk X cX12_hang RX12 (d + 1)) (hL : cL X = 5) (hr : (ch X).sig.returnType = some .int) (hz : (cs X).heap.size + 0 = cB X + n) (hk0 : K a0 = 12) (hE : cE X n K L r.2 (some (.int r.1)) 0 0) (hd : 5 ≤ d + 1) (h : f_X12_hang_31 K L fu a0  M = some r) : gW X 0 0 n K L M 31 [(0, va_rf (some a0))] [] := by
  unfold f_X12_hang_31 at h
  refine g_aload_n o dX12_hang_31 0 rfl ?_
  refine g_bipush (v := (-3 : Int32)) o dX12_hang_32 (by decide) ?_
  obtain ⟨x1, e2, h⟩ := ob h
  refine g_invV0 o (rc_self hk0) (by decide) ml_X12_72 kb_X12_no kv_X12_no rfl (c_X12_no (cq X) (cD X) (cY X) (cB X) (d := d) (by omega) (rc_at (rc_self hk0)).2 e2) rfl rfl (by simp [cat_i, cat_l, cat_rf]) dX12_hang_34 ?_
  cases h
  exact g_iret o hr hE dX12_hang_37
def f_X12_hang (K L : Nat → Nat) (fu : Nat) (a0 : Nat) (v1 : Int32) (v2 : Int32) (v3 : Int32) (M : Mm) : Option (Int32 × Mm) :=
  Option.bind (f_X12_isPlace v1) (fun x1 =>
  if x1 = 0 then
    f_X12_hang_31 K L fu a0 M
  else
    if v2 = (-1 : Int32) then
      f_X12_hang_38 K L fu a0 v1 v2 v3 M
    else
      Option.bind (f_X12_isPlace v2) (fun x3 =>
      if x3 = 0 then
        f_X12_hang_31 K L fu a0 M
      else
        Option.bind (f_X12_isIn (v3.toInt64) (0 : Int64) (7 : Int64)) (fun x5 =>
        if x5 = 0 then
          f_X12_hang_31 K L fu a0 M
        else
          f_X12_hang_38 K L fu a0 v1 v2 v3 M)))
set_option maxHeartbeats 4000000 in
theorem w_X12_hang_0 {X : Cx} {d n : Nat} {K L : Nat → Nat} {fu : Nat} {a0 : Nat} {r : (Int32 × Mm)} {v1 : Int32} {v2 : Int32} {v3 : Int32} {M : Mm} (o : cOk X cX12_hang RX12 (d + 1)) (hL : cL X = 5) (hr : (ch X).sig.returnType = some .int) (hz : (cs X).heap.size + 0 = cB X + n) (hk0 : K a0 = 12) (hE : cE X n K L r.2 (some (.int r.1)) 0 0) (hd : 5 ≤ d + 1) (h : f_X12_hang K L fu a0 v1 v2 v3 M = some r) : gW X 0 0 n K L M 0 [(0, va_rf (some a0)), (1, .int v1), (2, .int v2), (3, .int v3)] [] := by
  unfold f_X12_hang at h
  refine g_iload_n o dX12_hang_0 1 rfl ?_
  obtain ⟨x1, e2, h⟩ := ob h
  refine g_invS0 o ml_X12_47 kb_X12_isPlace ks_X12_isPlace (c_X12_isPlace (cq X) (cD X) (cY X) (cB X) (d := d) (by omega) e2) rfl rfl (by simp [cat_i, cat_l, cat_rf]) dX12_hang_1 ?_
  refine g_if_eq (tgt := 31) o dX12_hang_4 (by decide) (fun z => ?_) (fun z => ?_)
  · have h := (if_pos z).symm.trans h
    refine gsub [0] rfl ?_
    exact w_X12_hang_31 o hL hr hz hk0 hE hd h
  · have h := (if_neg z).symm.trans h
    refine g_iload_n o dX12_hang_7 2 rfl ?_
    refine g_iconst (v := (-1 : Int32)) o dX12_hang_8 (by decide) ?_
    refine g_icmp_eq (tgt := 38) o dX12_hang_9 (by decide) (fun z => ?_) (fun z => ?_)
    · have h := (if_pos z).symm.trans h
      exact w_X12_hang_38 o hL hr hz hk0 hE hd h
    · have h := (if_neg z).symm.trans h
      refine g_iload_n o dX12_hang_12 2 rfl ?_
      obtain ⟨x3, e4, h⟩ := ob h
      refine g_invS0 o ml_X12_47 kb_X12_isPlace ks_X12_isPlace (c_X12_isPlace (cq X) (cD X) (cY X) (cB X) (d := d) (by omega) e4) rfl rfl (by simp [cat_i, cat_l, cat_rf]) dX12_hang_13 ?_
      refine g_if_eq (tgt := 31) o dX12_hang_16 (by decide) (fun z => ?_) (fun z => ?_)
      · have h := (if_pos z).symm.trans h
        refine gsub [0] rfl ?_
        exact w_X12_hang_31 o hL hr hz hk0 hE hd h
      · have h := (if_neg z).symm.trans h
        refine g_iload_n o dX12_hang_19 3 rfl ?_
        refine g_i2l o dX12_hang_20 ?_
        refine g_lconst (v := (0 : Int64)) o dX12_hang_21 (by decide) ?_
        refine g_ldc2 (v := (7 : Int64)) o kc_X12_70 dX12_hang_22 ?_
        obtain ⟨x5, e6, h⟩ := ob h
        refine g_invS0 o ml_X12_62 kb_X12_isIn ks_X12_isIn (c_X12_isIn (cq X) (cD X) (cY X) (cB X) (d := d) (by omega) e6) rfl rfl (by simp [cat_i, cat_l, cat_rf]) dX12_hang_25 ?_
        refine g_if_ne (tgt := 38) o dX12_hang_28 (by decide) (fun z => ?_) (fun z => ?_)
        · have h := (if_neg z).symm.trans h
          exact w_X12_hang_38 o hL hr hz hk0 hE hd h
        · have h := (if_pos z).symm.trans h
          refine gsub [0] rfl ?_
          exact w_X12_hang_31 o hL hr hz hk0 hE hd h
theorem c_X12_hang (l : Launch) (D : va_G) (Y : Nat → ClassId) (B : Nat) {d : Nat} {n : Nat} {K L : Nat → Nat} {fu : Nat} {M : Mm} {a0 : Nat} {v1 : Int32} {v2 : Int32} {v3 : Int32} {r : (Int32 × Mm)} (hd : 5 ≤ d) (hk0 : K a0 = 12) (h : f_X12_hang K L fu a0 v1 v2 v3 M = some r) : mC l D Y B d yX12_hang cX12_hang 5 (some .int) [va_rf (some a0), .int v1, .int v2, .int v3] n K L M n K L r.2 (some (.int r.1)) 0 0 := by
  obtain ⟨d, rfl⟩ : ∃ e, d = e + 1 := ⟨d - 1, by omega⟩
  refine mk_met (by decide) (by simp [lgs_r, lgs_i, lgs_l, lgs_n]) (fun X e1 e2 e3 e4 o hL hr hnm hz hc hs hE => ?_)
  subst e1 e2 e3 e4
  rw [show lv_args 0 [va_rf (some a0), .int v1, .int v2, .int v3] = [(0, va_rf (some a0)), (1, .int v1), (2, .int v2), (3, .int v3)] by simp [lva_r, lva_i, lva_l, lva_n]]
  exact w_X12_hang_0 o hL hr hz hk0 hE hd h
def f_X12_stop_101 (K L : Nat → Nat) (fu : Nat) (a0 : Nat) (s0 : Int32) (s1 : Int32) (s2 : Int32) (s3 : (Option Nat)) (M : Mm) : Option (Int32 × Mm) :=
  Option.bind (rc K s3 12) (fun a1 =>
  Option.bind (f_X12_to K L a1 s2 s1 s0 M) (fun x3 =>
  some ((1 : Int32), x3)))
set_option maxHeartbeats 4000000 in
theorem w_X12_stop_101 {X : Cx} {d n : Nat} {K L : Nat → Nat} {fu : Nat} {a0 : Nat} {r : (Int32 × Mm)} {s0 : Int32} {s1 : Int32} {s2 : Int32} {s3 : (Option Nat)} {M : Mm} (o : cOk X cX12_stop RX12 (d + 1)) (hL : cL X = 6) (hr : (ch X).sig.returnType = some .int) (hz : (cs X).heap.size + 0 = cB X + n) (hk0 : K a0 = 12) (hE : cE X n K L r.2 (some (.int r.1)) 0 0) (hd : 5 ≤ d + 1) (h : f_X12_stop_101 K L fu a0 s0 s1 s2 s3 M = some r) : gW X 0 0 n K L M 101 [(0, va_rf (some a0))] [.int s0, .int s1, .int s2, va_rf s3] := by
  unfold f_X12_stop_101 at h
  obtain ⟨a1, e2, h⟩ := ob h
  obtain ⟨x3, e4, h⟩ := ob h
  refine g_invV0 o e2 (by decide) ml_X12_125 kb_X12_to kv_X12_to rfl (c_X12_to (cq X) (cD X) (cY X) (cB X) (d := d) (by omega) (rc_at e2).2 e4) rfl rfl (by simp [cat_i, cat_l, cat_rf]) dX12_stop_101 ?_
  refine g_iconst (v := (1 : Int32)) o dX12_stop_104 (by decide) ?_
  cases h
  exact g_iret o hr hE dX12_stop_105
def f_X12_stop_41 (K L : Nat → Nat) (fu : Nat) (a0 : Nat) (M : Mm) : Option (Int32 × Mm) :=
  Option.bind (f_X12_no K L a0 (-12 : Int32) M) (fun x1 =>
  some (x1.1, x1.2))
set_option maxHeartbeats 4000000 in
theorem w_X12_stop_41 {X : Cx} {d n : Nat} {K L : Nat → Nat} {fu : Nat} {a0 : Nat} {r : (Int32 × Mm)} {M : Mm} (o : cOk X cX12_stop RX12 (d + 1)) (hL : cL X = 6) (hr : (ch X).sig.returnType = some .int) (hz : (cs X).heap.size + 0 = cB X + n) (hk0 : K a0 = 12) (hE : cE X n K L r.2 (some (.int r.1)) 0 0) (hd : 5 ≤ d + 1) (h : f_X12_stop_41 K L fu a0  M = some r) : gW X 0 0 n K L M 41 [(0, va_rf (some a0))] [] := by
  unfold f_X12_stop_41 at h
  refine g_aload_n o dX12_stop_41 0 rfl ?_
  refine g_bipush (v := (-12 : Int32)) o dX12_stop_42 (by decide) ?_
  obtain ⟨x1, e2, h⟩ := ob h
  refine g_invV0 o (rc_self hk0) (by decide) ml_X12_72 kb_X12_no kv_X12_no rfl (c_X12_no (cq X) (cD X) (cY X) (cB X) (d := d) (by omega) (rc_at (rc_self hk0)).2 e2) rfl rfl (by simp [cat_i, cat_l, cat_rf]) dX12_stop_44 ?_
  cases h
  exact g_iret o hr hE dX12_stop_47
def f_X12_stop (K L : Nat → Nat) (fu : Nat) (a0 : Nat) (v1 : Int32) (v2 : Int32) (v3 : Int32) (M : Mm) : Option (Int32 × Mm) :=
  Option.bind (f_X12_why K L M a0 v1 (4 : Int32)) (fun x1 =>
  if x1 = 0 then
    Option.bind (f_X12_isIn (v2.toInt64) (0 : Int64) (65535 : Int64)) (fun x3 =>
    if x3 = 0 then
      f_X12_stop_41 K L fu a0 M
    else
      if ((v2 >>> (v1 &&& 31)) &&& (1 : Int32)) = (1 : Int32) then
        f_X12_stop_41 K L fu a0 M
      else
        Option.bind (f_X12_of K L M a0 v1 (46 : Int32)) (fun x5 =>
        Option.bind (f_X12_to K L a0 v1 (46 : Int32) v2 M) (fun x7 =>
        Option.bind (f_X12_isRing K L fu a0 x7) (fun x9 =>
        if (x9.1) = 0 then
          if v3 = 0 then
            f_X12_stop_101 K L fu a0 (0 : Int32) (47 : Int32) v1 (some a0) (x9.2)
          else
            f_X12_stop_101 K L fu a0 (1 : Int32) (47 : Int32) v1 (some a0) (x9.2)
        else
          Option.bind (f_X12_to K L a0 v1 (46 : Int32) x5 x9.2) (fun x11 =>
          Option.bind (f_X12_no K L a0 (-7 : Int32) x11) (fun x13 =>
          some (x13.1, x13.2)))))))
  else
    Option.bind (f_X12_no K L a0 x1 M) (fun x15 =>
    some (x15.1, x15.2)))
set_option maxHeartbeats 4000000 in
theorem w_X12_stop_0 {X : Cx} {d n : Nat} {K L : Nat → Nat} {fu : Nat} {a0 : Nat} {r : (Int32 × Mm)} {v1 : Int32} {v2 : Int32} {v3 : Int32} {M : Mm} (o : cOk X cX12_stop RX12 (d + 1)) (hL : cL X = 6) (hr : (ch X).sig.returnType = some .int) (hz : (cs X).heap.size + 0 = cB X + n) (hk0 : K a0 = 12) (hE : cE X n K L r.2 (some (.int r.1)) 0 0) (hd : 5 ≤ d + 1) (h : f_X12_stop K L fu a0 v1 v2 v3 M = some r) : gW X 0 0 n K L M 0 [(0, va_rf (some a0)), (1, .int v1), (2, .int v2), (3, .int v3)] [] := by
  unfold f_X12_stop at h
  refine g_aload_n o dX12_stop_0 0 rfl ?_
  refine g_iload_n o dX12_stop_1 1 rfl ?_
  refine g_iconst (v := (4 : Int32)) o dX12_stop_2 (by decide) ?_
  obtain ⟨x1, e2, h⟩ := ob h
  refine g_invV0 o (rc_self hk0) (by decide) ml_X12_119 kb_X12_why kv_X12_why rfl (c_X12_why (cq X) (cD X) (cY X) (cB X) (d := d) (by omega) (rc_at (rc_self hk0)).2 e2) rfl rfl (by simp [cat_i, cat_l, cat_rf]) dX12_stop_3 ?_
  refine g_istore (i := 4) (ls' := [(4, .int x1), (0, va_rf (some a0)), (1, .int v1), (2, .int v2), (3, .int v3)]) o dX12_stop_6 (ltL hL (by decide)) rfl ?_
  refine g_iload o dX12_stop_8 0 rfl ?_
  refine g_if_eq (tgt := 20) o dX12_stop_10 (by decide) (fun z => ?_) (fun z => ?_)
  · have h := (if_pos z).symm.trans h
    refine g_iload_n o dX12_stop_20 3 rfl ?_
    refine g_i2l o dX12_stop_21 ?_
    refine g_lconst (v := (0 : Int64)) o dX12_stop_22 (by decide) ?_
    refine g_ldc2 (v := (65535 : Int64)) o kc_X12_159 dX12_stop_23 ?_
    obtain ⟨x3, e4, h⟩ := ob h
    refine g_invS0 o ml_X12_62 kb_X12_isIn ks_X12_isIn (c_X12_isIn (cq X) (cD X) (cY X) (cB X) (d := d) (by omega) e4) rfl rfl (by simp [cat_i, cat_l, cat_rf]) dX12_stop_26 ?_
    refine g_if_eq (tgt := 41) o dX12_stop_29 (by decide) (fun z => ?_) (fun z => ?_)
    · have h := (if_pos z).symm.trans h
      refine gsub [1] rfl ?_
      exact w_X12_stop_41 o hL hr hz hk0 hE hd h
    · have h := (if_neg z).symm.trans h
      refine g_iload_n o dX12_stop_32 3 rfl ?_
      refine g_iload_n o dX12_stop_33 2 rfl ?_
      refine g_ishr o dX12_stop_34 ?_
      refine g_iconst (v := (1 : Int32)) o dX12_stop_35 (by decide) ?_
      refine g_iand o dX12_stop_36 ?_
      refine g_iconst (v := (1 : Int32)) o dX12_stop_37 (by decide) ?_
      refine g_icmp_ne (tgt := 48) o dX12_stop_38 (by decide) (fun z => ?_) (fun z => ?_)
      · have h := (if_neg z).symm.trans h
        refine g_aload_n o dX12_stop_48 1 rfl ?_
        refine g_iload_n o dX12_stop_49 2 rfl ?_
        refine g_bipush (v := (46 : Int32)) o dX12_stop_50 (by decide) ?_
        obtain ⟨x5, e6, h⟩ := ob h
        refine g_invV0 o (rc_self hk0) (by decide) ml_X12_43 kb_X12_of kv_X12_of rfl (c_X12_of (cq X) (cD X) (cY X) (cB X) (d := d) (by omega) (rc_at (rc_self hk0)).2 e6) rfl rfl (by simp [cat_i, cat_l, cat_rf]) dX12_stop_52 ?_
        refine g_istore (i := 5) (ls' := [(5, .int x5), (4, .int x1), (0, va_rf (some a0)), (1, .int v1), (2, .int v2), (3, .int v3)]) o dX12_stop_55 (ltL hL (by decide)) rfl ?_
        refine g_aload_n o dX12_stop_57 2 rfl ?_
        refine g_iload_n o dX12_stop_58 3 rfl ?_
        refine g_bipush (v := (46 : Int32)) o dX12_stop_59 (by decide) ?_
        refine g_iload_n o dX12_stop_61 4 rfl ?_
        obtain ⟨x7, e8, h⟩ := ob h
        refine g_invV0 o (rc_self hk0) (by decide) ml_X12_125 kb_X12_to kv_X12_to rfl (c_X12_to (cq X) (cD X) (cY X) (cB X) (d := d) (by omega) (rc_at (rc_self hk0)).2 e8) rfl rfl (by simp [cat_i, cat_l, cat_rf]) dX12_stop_62 ?_
        refine g_aload_n o dX12_stop_65 2 rfl ?_
        obtain ⟨x9, e10, h⟩ := ob h
        refine g_invV0 o (rc_self hk0) (by decide) ml_X12_155 kb_X12_isRing kv_X12_isRing rfl (c_X12_isRing (cq X) (cD X) (cY X) (cB X) (d := d) (by omega) (rc_at (rc_self hk0)).2 e10) rfl rfl (by simp [cat_i, cat_l, cat_rf]) dX12_stop_66 ?_
        refine g_if_eq (tgt := 88) o dX12_stop_69 (by decide) (fun z => ?_) (fun z => ?_)
        · have h := (if_pos z).symm.trans h
          refine g_aload_n o dX12_stop_88 2 rfl ?_
          refine g_iload_n o dX12_stop_89 3 rfl ?_
          refine g_bipush (v := (47 : Int32)) o dX12_stop_90 (by decide) ?_
          refine g_iload_n o dX12_stop_92 5 rfl ?_
          refine g_if_eq (tgt := 100) o dX12_stop_93 (by decide) (fun z => ?_) (fun z => ?_)
          · have h := (if_pos z).symm.trans h
            refine g_iconst (v := (0 : Int32)) o dX12_stop_100 (by decide) ?_
            refine gsub [2] rfl ?_
            exact w_X12_stop_101 o hL hr hz hk0 hE hd h
          · have h := (if_neg z).symm.trans h
            refine g_iconst (v := (1 : Int32)) o dX12_stop_96 (by decide) ?_
            refine g_goto (tgt := 101) o dX12_stop_97 (by decide) ?_
            refine gsub [2] rfl ?_
            exact w_X12_stop_101 o hL hr hz hk0 hE hd h
        · have h := (if_neg z).symm.trans h
          refine g_aload_n o dX12_stop_72 2 rfl ?_
          refine g_iload_n o dX12_stop_73 3 rfl ?_
          refine g_bipush (v := (46 : Int32)) o dX12_stop_74 (by decide) ?_
          refine g_iload o dX12_stop_76 0 rfl ?_
          obtain ⟨x11, e12, h⟩ := ob h
          refine g_invV0 o (rc_self hk0) (by decide) ml_X12_125 kb_X12_to kv_X12_to rfl (c_X12_to (cq X) (cD X) (cY X) (cB X) (d := d) (by omega) (rc_at (rc_self hk0)).2 e12) rfl rfl (by simp [cat_i, cat_l, cat_rf]) dX12_stop_78 ?_
          refine g_aload_n o dX12_stop_81 2 rfl ?_
          refine g_bipush (v := (-7 : Int32)) o dX12_stop_82 (by decide) ?_
          obtain ⟨x13, e14, h⟩ := ob h
          refine g_invV0 o (rc_self hk0) (by decide) ml_X12_72 kb_X12_no kv_X12_no rfl (c_X12_no (cq X) (cD X) (cY X) (cB X) (d := d) (by omega) (rc_at (rc_self hk0)).2 e14) rfl rfl (by simp [cat_i, cat_l, cat_rf]) dX12_stop_84 ?_
          cases h
          exact g_iret o hr hE dX12_stop_87
      · have h := (if_pos z).symm.trans h
        refine gsub [1] rfl ?_
        exact w_X12_stop_41 o hL hr hz hk0 hE hd h
  · have h := (if_neg z).symm.trans h
    refine g_aload_n o dX12_stop_13 1 rfl ?_
    refine g_iload o dX12_stop_14 0 rfl ?_
    obtain ⟨x15, e16, h⟩ := ob h
    refine g_invV0 o (rc_self hk0) (by decide) ml_X12_72 kb_X12_no kv_X12_no rfl (c_X12_no (cq X) (cD X) (cY X) (cB X) (d := d) (by omega) (rc_at (rc_self hk0)).2 e16) rfl rfl (by simp [cat_i, cat_l, cat_rf]) dX12_stop_16 ?_
    cases h
    exact g_iret o hr hE dX12_stop_19
theorem c_X12_stop (l : Launch) (D : va_G) (Y : Nat → ClassId) (B : Nat) {d : Nat} {n : Nat} {K L : Nat → Nat} {fu : Nat} {M : Mm} {a0 : Nat} {v1 : Int32} {v2 : Int32} {v3 : Int32} {r : (Int32 × Mm)} (hd : 5 ≤ d) (hk0 : K a0 = 12) (h : f_X12_stop K L fu a0 v1 v2 v3 M = some r) : mC l D Y B d yX12_stop cX12_stop 6 (some .int) [va_rf (some a0), .int v1, .int v2, .int v3] n K L M n K L r.2 (some (.int r.1)) 0 0 := by
  obtain ⟨d, rfl⟩ : ∃ e, d = e + 1 := ⟨d - 1, by omega⟩
  refine mk_met (by decide) (by simp [lgs_r, lgs_i, lgs_l, lgs_n]) (fun X e1 e2 e3 e4 o hL hr hnm hz hc hs hE => ?_)
  subst e1 e2 e3 e4
  rw [show lv_args 0 [va_rf (some a0), .int v1, .int v2, .int v3] = [(0, va_rf (some a0)), (1, .int v1), (2, .int v2), (3, .int v3)] by simp [lva_r, lva_i, lva_l, lva_n]]
  exact w_X12_stop_0 o hL hr hz hk0 hE hd h
def f_X12_ring (K L : Nat → Nat) (a0 : Nat) (v1 : Int32) (M : Mm) : Option (Int32 × Mm) :=
  Option.bind (f_X12_isIn (v1.toInt64) (0 : Int64) (((mm_I M (32 * 12 + 7) a0) - (1 : Int32)).toInt64)) (fun x1 =>
  if x1 = 0 then
    Option.bind (f_X12_no K L a0 (-3 : Int32) M) (fun x3 =>
    some (x3.1, x3.2))
  else
    Option.bind (rx K L (mm_R M (32 * 12 + 6) a0) 13 v1) (fun a5 =>
    some (mm_A M a5 v1.toNatClampNeg, M)))
set_option maxHeartbeats 4000000 in
theorem w_X12_ring_0 {X : Cx} {d n : Nat} {K L : Nat → Nat} {a0 : Nat} {r : (Int32 × Mm)} {v1 : Int32} {M : Mm} (o : cOk X cX12_ring RX12 (d + 1)) (hL : cL X = 2) (hr : (ch X).sig.returnType = some .int) (hz : (cs X).heap.size + 0 = cB X + n) (hk0 : K a0 = 12) (hE : cE X n K L r.2 (some (.int r.1)) 0 0) (hd : 1 ≤ d + 1) (h : f_X12_ring K L a0 v1 M = some r) : gW X 0 0 n K L M 0 [(0, va_rf (some a0)), (1, .int v1)] [] := by
  unfold f_X12_ring at h
  refine g_iload_n o dX12_ring_0 1 rfl ?_
  refine g_i2l o dX12_ring_1 ?_
  refine g_lconst (v := (0 : Int64)) o dX12_ring_2 (by decide) ?_
  refine g_aload_n o dX12_ring_3 0 rfl ?_
  refine g_getI o fl_X12_149 (rc_self hk0) (by decide) rfl dX12_ring_4 ?_
  refine g_iconst (v := (1 : Int32)) o dX12_ring_7 (by decide) ?_
  refine g_isub o dX12_ring_8 ?_
  refine g_i2l o dX12_ring_9 ?_
  obtain ⟨x1, e2, h⟩ := ob h
  refine g_invS0 o ml_X12_62 kb_X12_isIn ks_X12_isIn (c_X12_isIn (cq X) (cD X) (cY X) (cB X) (d := d) (by omega) e2) rfl rfl (by simp [cat_i, cat_l, cat_rf]) dX12_ring_10 ?_
  refine g_if_eq (tgt := 25) o dX12_ring_13 (by decide) (fun z => ?_) (fun z => ?_)
  · have h := (if_pos z).symm.trans h
    refine g_aload_n o dX12_ring_25 0 rfl ?_
    refine g_bipush (v := (-3 : Int32)) o dX12_ring_26 (by decide) ?_
    obtain ⟨x3, e4, h⟩ := ob h
    refine g_invV0 o (rc_self hk0) (by decide) ml_X12_72 kb_X12_no kv_X12_no rfl (c_X12_no (cq X) (cD X) (cY X) (cB X) (d := d) (by omega) (rc_at (rc_self hk0)).2 e4) rfl rfl (by simp [cat_i, cat_l, cat_rf]) dX12_ring_28 ?_
    cases h
    exact g_iret o hr hE dX12_ring_31
  · have h := (if_neg z).symm.trans h
    refine g_aload_n o dX12_ring_16 0 rfl ?_
    refine g_getR o fl_X12_27 (rc_self hk0) (by decide) rfl dX12_ring_17 ?_
    refine g_iload_n o dX12_ring_20 1 rfl ?_
    obtain ⟨a5, e6, h⟩ := ob h
    refine g_iald o e6 dX12_ring_21 ?_
    refine g_goto (tgt := 31) o dX12_ring_22 (by decide) ?_
    cases h
    exact g_iret o hr hE dX12_ring_31
theorem c_X12_ring (l : Launch) (D : va_G) (Y : Nat → ClassId) (B : Nat) {d : Nat} {n : Nat} {K L : Nat → Nat} {M : Mm} {a0 : Nat} {v1 : Int32} {r : (Int32 × Mm)} (hd : 1 ≤ d) (hk0 : K a0 = 12) (h : f_X12_ring K L a0 v1 M = some r) : mC l D Y B d yX12_ring cX12_ring 2 (some .int) [va_rf (some a0), .int v1] n K L M n K L r.2 (some (.int r.1)) 0 0 := by
  obtain ⟨d, rfl⟩ : ∃ e, d = e + 1 := ⟨d - 1, by omega⟩
  refine mk_met (by decide) (by simp [lgs_r, lgs_i, lgs_l, lgs_n]) (fun X e1 e2 e3 e4 o hL hr hnm hz hc hs hE => ?_)
  subst e1 e2 e3 e4
  rw [show lv_args 0 [va_rf (some a0), .int v1] = [(0, va_rf (some a0)), (1, .int v1)] by simp [lva_r, lva_i, lva_l, lva_n]]
  exact w_X12_ring_0 o hL hr hz hk0 hE hd h
def f_X12_row_68b (K L : Nat → Nat) (fu : Nat) (k68 : Int32 → Int32 → Int32 → Mm → Option (Int32 × Mm)) (a0 : Nat) (v1 : Int32) (v2 : Int32) (v4 : Int32) (M : Mm) : Option (Int32 × Mm) :=
  if v2 ≤ v4 then
    some ((1 : Int32), M)
  else
    Option.bind (f_X12_to K L a0 v1 ((49 : Int32) + v4) (0 : Int32) M) (fun x1 =>
    k68 v1 v2 (v4 + 1) x1)
def f_X12_row_68 (K L : Nat → Nat) (fu : Nat) (a0 : Nat) : Nat → Int32 → Int32 → Int32 → Mm → Option (Int32 × Mm)
  | 0, _, _, _, _ => none
  | g + 1, v1, v2, v4, M => f_X12_row_68b K L fu (f_X12_row_68 K L fu a0 g) a0 v1 v2 v4 M
set_option maxHeartbeats 4000000 in
theorem w_X12_row_68b {X : Cx} {d n : Nat} {K L : Nat → Nat} {fu : Nat} {a0 : Nat} {r : (Int32 × Mm)} {k68 : Int32 → Int32 → Int32 → Mm → Option (Int32 × Mm)} {v1 : Int32} {v2 : Int32} {v4 : Int32} {M : Mm} (o : cOk X cX12_row RX12 (d + 1)) (hL : cL X = 5) (hr : (ch X).sig.returnType = some .int) (hz : (cs X).heap.size + 0 = cB X + n) (hk0 : K a0 = 12) (hE : cE X n K L r.2 (some (.int r.1)) 0 0) (hk68 : ∀ (v1 : Int32) (v2 : Int32) (v4 : Int32) (M : Mm), k68 v1 v2 v4 M = some r → gW X 0 0 n K L M 68 [(0, va_rf (some a0)), (1, .int v1), (2, .int v2), (4, .int v4)] []) (hd : 3 ≤ d + 1) (h : f_X12_row_68b K L fu k68 a0 v1 v2 v4 M = some r) : gW X 0 0 n K L M 68 [(0, va_rf (some a0)), (1, .int v1), (2, .int v2), (4, .int v4)] [] := by
  unfold f_X12_row_68b at h
  refine g_iload o dX12_row_68 3 rfl ?_
  refine g_iload_n o dX12_row_70 2 rfl ?_
  refine g_icmp_ge (tgt := 91) o dX12_row_71 (by decide) (fun z => ?_) (fun z => ?_)
  · have h := (if_pos z).symm.trans h
    refine g_iconst (v := (1 : Int32)) o dX12_row_91 (by decide) ?_
    cases h
    exact g_iret o hr hE dX12_row_92
  · have h := (if_neg z).symm.trans h
    refine g_aload_n o dX12_row_74 0 rfl ?_
    refine g_iload_n o dX12_row_75 1 rfl ?_
    refine g_bipush (v := (49 : Int32)) o dX12_row_76 (by decide) ?_
    refine g_iload o dX12_row_78 3 rfl ?_
    refine g_iadd o dX12_row_80 ?_
    refine g_iconst (v := (0 : Int32)) o dX12_row_81 (by decide) ?_
    obtain ⟨x1, e2, h⟩ := ob h
    refine g_invV0 o (rc_self hk0) (by decide) ml_X12_125 kb_X12_to kv_X12_to rfl (c_X12_to (cq X) (cD X) (cY X) (cB X) (d := d) (by omega) (rc_at (rc_self hk0)).2 e2) rfl rfl (by simp [cat_i, cat_l, cat_rf]) dX12_row_82 ?_
    refine g_iinc (i := 4) (v := v4 + 1) (ls' := [(4, .int (v4 + 1)), (0, va_rf (some a0)), (1, .int v1), (2, .int v2)]) o dX12_row_85 3 rfl (by first | rfl | (congr 1)) (ltL hL (by decide)) rfl ?_
    refine g_goto (tgt := 68) o dX12_row_88 (by decide) ?_
    refine gsub [1, 2, 3, 0] rfl ?_
    exact hk68 _ _ _ _ h
theorem w_X12_row_68_n {X : Cx} {d n : Nat} {K L : Nat → Nat} {fu : Nat} {a0 : Nat} {r : (Int32 × Mm)} (o : cOk X cX12_row RX12 (d + 1)) (hL : cL X = 5) (hr : (ch X).sig.returnType = some .int) (hz : (cs X).heap.size + 0 = cB X + n) (hk0 : K a0 = 12) (hE : cE X n K L r.2 (some (.int r.1)) 0 0) (hd : 3 ≤ d + 1) : ∀ (g : Nat) (v1 : Int32) (v2 : Int32) (v4 : Int32) (M : Mm), f_X12_row_68 K L fu a0 g v1 v2 v4 M = some r → gW X 0 0 n K L M 68 [(0, va_rf (some a0)), (1, .int v1), (2, .int v2), (4, .int v4)] []
  | 0, _, _, _, _, h => by cases h
  | g + 1, v1, v2, v4, M, h => w_X12_row_68b o hL hr hz hk0 hE (w_X12_row_68_n o hL hr hz hk0 hE hd g) hd h
theorem w_X12_row_68 {X : Cx} {d n : Nat} {K L : Nat → Nat} {fu : Nat} {a0 : Nat} {r : (Int32 × Mm)} {v1 : Int32} {v2 : Int32} {v4 : Int32} {M : Mm} (o : cOk X cX12_row RX12 (d + 1)) (hL : cL X = 5) (hr : (ch X).sig.returnType = some .int) (hz : (cs X).heap.size + 0 = cB X + n) (hk0 : K a0 = 12) (hE : cE X n K L r.2 (some (.int r.1)) 0 0) (hd : 3 ≤ d + 1) (h : f_X12_row_68 K L fu a0 fu v1 v2 v4 M = some r) : gW X 0 0 n K L M 68 [(0, va_rf (some a0)), (1, .int v1), (2, .int v2), (4, .int v4)] [] := w_X12_row_68_n o hL hr hz hk0 hE hd fu v1 v2 v4 M h
def f_X12_row_50 (K L : Nat → Nat) (fu : Nat) (a0 : Nat) (M : Mm) : Option (Int32 × Mm) :=
  Option.bind (f_X12_no K L a0 (-12 : Int32) M) (fun x1 =>
  some (x1.1, x1.2))
set_option maxHeartbeats 4000000 in
theorem w_X12_row_50 {X : Cx} {d n : Nat} {K L : Nat → Nat} {fu : Nat} {a0 : Nat} {r : (Int32 × Mm)} {M : Mm} (o : cOk X cX12_row RX12 (d + 1)) (hL : cL X = 5) (hr : (ch X).sig.returnType = some .int) (hz : (cs X).heap.size + 0 = cB X + n) (hk0 : K a0 = 12) (hE : cE X n K L r.2 (some (.int r.1)) 0 0) (hd : 3 ≤ d + 1) (h : f_X12_row_50 K L fu a0  M = some r) : gW X 0 0 n K L M 50 [(0, va_rf (some a0))] [] := by
  unfold f_X12_row_50 at h
  refine g_aload_n o dX12_row_50 0 rfl ?_
  refine g_bipush (v := (-12 : Int32)) o dX12_row_51 (by decide) ?_
  obtain ⟨x1, e2, h⟩ := ob h
  refine g_invV0 o (rc_self hk0) (by decide) ml_X12_72 kb_X12_no kv_X12_no rfl (c_X12_no (cq X) (cD X) (cY X) (cB X) (d := d) (by omega) (rc_at (rc_self hk0)).2 e2) rfl rfl (by simp [cat_i, cat_l, cat_rf]) dX12_row_53 ?_
  cases h
  exact g_iret o hr hE dX12_row_56
def f_X12_row (K L : Nat → Nat) (fu : Nat) (a0 : Nat) (v1 : Int32) (v2 : Int32) (M : Mm) : Option (Int32 × Mm) :=
  Option.bind (f_X12_why K L M a0 v1 (1 : Int32)) (fun x1 =>
  if x1 = 0 then
    if 0 ≤ v2 then
      Option.bind (f_X12_isIn (v2.toInt64) (1 : Int64) (20 : Int64)) (fun x3 =>
      if x3 = 0 then
        f_X12_row_50 K L fu a0 M
      else
        Option.bind (f_X12_of K L M a0 v1 (69 : Int32)) (fun x5 =>
        if x5 < 0 then
          Option.bind (f_X12_to K L a0 v1 (48 : Int32) v2 M) (fun x7 =>
          f_X12_row_68 K L fu a0 fu v1 v2 (0 : Int32) x7)
        else
          f_X12_row_50 K L fu a0 M))
    else
      Option.bind (f_X12_no K L a0 (-4 : Int32) M) (fun x9 =>
      some (x9.1, x9.2))
  else
    Option.bind (f_X12_no K L a0 x1 M) (fun x11 =>
    some (x11.1, x11.2)))
set_option maxHeartbeats 4000000 in
theorem w_X12_row_0 {X : Cx} {d n : Nat} {K L : Nat → Nat} {fu : Nat} {a0 : Nat} {r : (Int32 × Mm)} {v1 : Int32} {v2 : Int32} {M : Mm} (o : cOk X cX12_row RX12 (d + 1)) (hL : cL X = 5) (hr : (ch X).sig.returnType = some .int) (hz : (cs X).heap.size + 0 = cB X + n) (hk0 : K a0 = 12) (hE : cE X n K L r.2 (some (.int r.1)) 0 0) (hd : 3 ≤ d + 1) (h : f_X12_row K L fu a0 v1 v2 M = some r) : gW X 0 0 n K L M 0 [(0, va_rf (some a0)), (1, .int v1), (2, .int v2)] [] := by
  unfold f_X12_row at h
  refine g_aload_n o dX12_row_0 0 rfl ?_
  refine g_iload_n o dX12_row_1 1 rfl ?_
  refine g_iconst (v := (1 : Int32)) o dX12_row_2 (by decide) ?_
  obtain ⟨x1, e2, h⟩ := ob h
  refine g_invV0 o (rc_self hk0) (by decide) ml_X12_119 kb_X12_why kv_X12_why rfl (c_X12_why (cq X) (cD X) (cY X) (cB X) (d := d) (by omega) (rc_at (rc_self hk0)).2 e2) rfl rfl (by simp [cat_i, cat_l, cat_rf]) dX12_row_3 ?_
  refine g_istore_n (i := 3) (ls' := [(3, .int x1), (0, va_rf (some a0)), (1, .int v1), (2, .int v2)]) o dX12_row_6 rfl (ltL hL (by decide)) rfl ?_
  refine g_iload_n o dX12_row_7 0 rfl ?_
  refine g_if_eq (tgt := 17) o dX12_row_8 (by decide) (fun z => ?_) (fun z => ?_)
  · have h := (if_pos z).symm.trans h
    refine g_iload_n o dX12_row_17 3 rfl ?_
    refine g_if_ge (tgt := 28) o dX12_row_18 (by decide) (fun z => ?_) (fun z => ?_)
    · have h := (if_pos z).symm.trans h
      refine g_iload_n o dX12_row_28 3 rfl ?_
      refine g_i2l o dX12_row_29 ?_
      refine g_lconst (v := (1 : Int64)) o dX12_row_30 (by decide) ?_
      refine g_ldc2 (v := (20 : Int64)) o kc_X12_161 dX12_row_31 ?_
      obtain ⟨x3, e4, h⟩ := ob h
      refine g_invS0 o ml_X12_62 kb_X12_isIn ks_X12_isIn (c_X12_isIn (cq X) (cD X) (cY X) (cB X) (d := d) (by omega) e4) rfl rfl (by simp [cat_i, cat_l, cat_rf]) dX12_row_34 ?_
      refine g_if_eq (tgt := 50) o dX12_row_37 (by decide) (fun z => ?_) (fun z => ?_)
      · have h := (if_pos z).symm.trans h
        refine gsub [1] rfl ?_
        exact w_X12_row_50 o hL hr hz hk0 hE hd h
      · have h := (if_neg z).symm.trans h
        refine g_aload_n o dX12_row_40 1 rfl ?_
        refine g_iload_n o dX12_row_41 2 rfl ?_
        refine g_bipush (v := (69 : Int32)) o dX12_row_42 (by decide) ?_
        obtain ⟨x5, e6, h⟩ := ob h
        refine g_invV0 o (rc_self hk0) (by decide) ml_X12_43 kb_X12_of kv_X12_of rfl (c_X12_of (cq X) (cD X) (cY X) (cB X) (d := d) (by omega) (rc_at (rc_self hk0)).2 e6) rfl rfl (by simp [cat_i, cat_l, cat_rf]) dX12_row_44 ?_
        refine g_if_lt (tgt := 57) o dX12_row_47 (by decide) (fun z => ?_) (fun z => ?_)
        · have h := (if_pos z).symm.trans h
          refine g_aload_n o dX12_row_57 1 rfl ?_
          refine g_iload_n o dX12_row_58 2 rfl ?_
          refine g_bipush (v := (48 : Int32)) o dX12_row_59 (by decide) ?_
          refine g_iload_n o dX12_row_61 3 rfl ?_
          obtain ⟨x7, e8, h⟩ := ob h
          refine g_invV0 o (rc_self hk0) (by decide) ml_X12_125 kb_X12_to kv_X12_to rfl (c_X12_to (cq X) (cD X) (cY X) (cB X) (d := d) (by omega) (rc_at (rc_self hk0)).2 e8) rfl rfl (by simp [cat_i, cat_l, cat_rf]) dX12_row_62 ?_
          refine g_iconst (v := (0 : Int32)) o dX12_row_65 (by decide) ?_
          refine g_istore (i := 4) (ls' := [(4, .int (0 : Int32)), (3, .int x1), (0, va_rf (some a0)), (1, .int v1), (2, .int v2)]) o dX12_row_66 (ltL hL (by decide)) rfl ?_
          refine gsub [2, 3, 4, 0] rfl ?_
          exact w_X12_row_68 o hL hr hz hk0 hE hd h
        · have h := (if_neg z).symm.trans h
          refine gsub [1] rfl ?_
          exact w_X12_row_50 o hL hr hz hk0 hE hd h
    · have h := (if_neg z).symm.trans h
      refine g_aload_n o dX12_row_21 1 rfl ?_
      refine g_bipush (v := (-4 : Int32)) o dX12_row_22 (by decide) ?_
      obtain ⟨x9, e10, h⟩ := ob h
      refine g_invV0 o (rc_self hk0) (by decide) ml_X12_72 kb_X12_no kv_X12_no rfl (c_X12_no (cq X) (cD X) (cY X) (cB X) (d := d) (by omega) (rc_at (rc_self hk0)).2 e10) rfl rfl (by simp [cat_i, cat_l, cat_rf]) dX12_row_24 ?_
      cases h
      exact g_iret o hr hE dX12_row_27
  · have h := (if_neg z).symm.trans h
    refine g_aload_n o dX12_row_11 1 rfl ?_
    refine g_iload_n o dX12_row_12 0 rfl ?_
    obtain ⟨x11, e12, h⟩ := ob h
    refine g_invV0 o (rc_self hk0) (by decide) ml_X12_72 kb_X12_no kv_X12_no rfl (c_X12_no (cq X) (cD X) (cY X) (cB X) (d := d) (by omega) (rc_at (rc_self hk0)).2 e12) rfl rfl (by simp [cat_i, cat_l, cat_rf]) dX12_row_13 ?_
    cases h
    exact g_iret o hr hE dX12_row_16
theorem c_X12_row (l : Launch) (D : va_G) (Y : Nat → ClassId) (B : Nat) {d : Nat} {n : Nat} {K L : Nat → Nat} {fu : Nat} {M : Mm} {a0 : Nat} {v1 : Int32} {v2 : Int32} {r : (Int32 × Mm)} (hd : 3 ≤ d) (hk0 : K a0 = 12) (h : f_X12_row K L fu a0 v1 v2 M = some r) : mC l D Y B d yX12_row cX12_row 5 (some .int) [va_rf (some a0), .int v1, .int v2] n K L M n K L r.2 (some (.int r.1)) 0 0 := by
  obtain ⟨d, rfl⟩ : ∃ e, d = e + 1 := ⟨d - 1, by omega⟩
  refine mk_met (by decide) (by simp [lgs_r, lgs_i, lgs_l, lgs_n]) (fun X e1 e2 e3 e4 o hL hr hnm hz hc hs hE => ?_)
  subst e1 e2 e3 e4
  rw [show lv_args 0 [va_rf (some a0), .int v1, .int v2] = [(0, va_rf (some a0)), (1, .int v1), (2, .int v2)] by simp [lva_r, lva_i, lva_l, lva_n]]
  exact w_X12_row_0 o hL hr hz hk0 hE hd h
def f_X12_tear_32 (K L : Nat → Nat) (a0 : Nat) (v1 : Int32) (s0 : Int32) (M : Mm) : Option (Int32 × Mm) :=
  Option.bind (f_X12_to K L a0 v1 (48 : Int32) (0 : Int32) M) (fun x1 =>
  some (s0, x1))
set_option maxHeartbeats 4000000 in
theorem w_X12_tear_32 {X : Cx} {d n : Nat} {K L : Nat → Nat} {a0 : Nat} {r : (Int32 × Mm)} {v1 : Int32} {s0 : Int32} {M : Mm} (o : cOk X cX12_tear RX12 (d + 1)) (hL : cL X = 4) (hr : (ch X).sig.returnType = some .int) (hz : (cs X).heap.size + 0 = cB X + n) (hk0 : K a0 = 12) (hE : cE X n K L r.2 (some (.int r.1)) 0 0) (hd : 3 ≤ d + 1) (h : f_X12_tear_32 K L a0 v1 s0 M = some r) : gW X 0 0 n K L M 32 [(0, va_rf (some a0)), (1, .int v1)] [.int s0] := by
  unfold f_X12_tear_32 at h
  refine g_istore_n (i := 3) (ls' := [(3, .int s0), (0, va_rf (some a0)), (1, .int v1)]) o dX12_tear_32 rfl (ltL hL (by decide)) rfl ?_
  refine g_aload_n o dX12_tear_33 1 rfl ?_
  refine g_iload_n o dX12_tear_34 2 rfl ?_
  refine g_bipush (v := (48 : Int32)) o dX12_tear_35 (by decide) ?_
  refine g_iconst (v := (0 : Int32)) o dX12_tear_37 (by decide) ?_
  obtain ⟨x1, e2, h⟩ := ob h
  refine g_invV0 o (rc_self hk0) (by decide) ml_X12_125 kb_X12_to kv_X12_to rfl (c_X12_to (cq X) (cD X) (cY X) (cB X) (d := d) (by omega) (rc_at (rc_self hk0)).2 e2) rfl rfl (by simp [cat_i, cat_l, cat_rf]) dX12_tear_38 ?_
  refine g_iload_n o dX12_tear_41 0 rfl ?_
  cases h
  exact g_iret o hr hE dX12_tear_42
def f_X12_tear (K L : Nat → Nat) (a0 : Nat) (v1 : Int32) (M : Mm) : Option (Int32 × Mm) :=
  Option.bind (f_X12_why K L M a0 v1 (1 : Int32)) (fun x1 =>
  if x1 = 0 then
    Option.bind (f_X12_of K L M a0 v1 (48 : Int32)) (fun x3 =>
    if x3 ≤ 0 then
      f_X12_tear_32 K L a0 v1 (0 : Int32) M
    else
      f_X12_tear_32 K L a0 v1 (1 : Int32) M)
  else
    Option.bind (f_X12_no K L a0 x1 M) (fun x5 =>
    some (x5.1, x5.2)))
set_option maxHeartbeats 4000000 in
theorem w_X12_tear_0 {X : Cx} {d n : Nat} {K L : Nat → Nat} {a0 : Nat} {r : (Int32 × Mm)} {v1 : Int32} {M : Mm} (o : cOk X cX12_tear RX12 (d + 1)) (hL : cL X = 4) (hr : (ch X).sig.returnType = some .int) (hz : (cs X).heap.size + 0 = cB X + n) (hk0 : K a0 = 12) (hE : cE X n K L r.2 (some (.int r.1)) 0 0) (hd : 3 ≤ d + 1) (h : f_X12_tear K L a0 v1 M = some r) : gW X 0 0 n K L M 0 [(0, va_rf (some a0)), (1, .int v1)] [] := by
  unfold f_X12_tear at h
  refine g_aload_n o dX12_tear_0 0 rfl ?_
  refine g_iload_n o dX12_tear_1 1 rfl ?_
  refine g_iconst (v := (1 : Int32)) o dX12_tear_2 (by decide) ?_
  obtain ⟨x1, e2, h⟩ := ob h
  refine g_invV0 o (rc_self hk0) (by decide) ml_X12_119 kb_X12_why kv_X12_why rfl (c_X12_why (cq X) (cD X) (cY X) (cB X) (d := d) (by omega) (rc_at (rc_self hk0)).2 e2) rfl rfl (by simp [cat_i, cat_l, cat_rf]) dX12_tear_3 ?_
  refine g_istore_n (i := 2) (ls' := [(2, .int x1), (0, va_rf (some a0)), (1, .int v1)]) o dX12_tear_6 rfl (ltL hL (by decide)) rfl ?_
  refine g_iload_n o dX12_tear_7 0 rfl ?_
  refine g_if_eq (tgt := 17) o dX12_tear_8 (by decide) (fun z => ?_) (fun z => ?_)
  · have h := (if_pos z).symm.trans h
    refine g_aload_n o dX12_tear_17 1 rfl ?_
    refine g_iload_n o dX12_tear_18 2 rfl ?_
    refine g_bipush (v := (48 : Int32)) o dX12_tear_19 (by decide) ?_
    obtain ⟨x3, e4, h⟩ := ob h
    refine g_invV0 o (rc_self hk0) (by decide) ml_X12_43 kb_X12_of kv_X12_of rfl (c_X12_of (cq X) (cD X) (cY X) (cB X) (d := d) (by omega) (rc_at (rc_self hk0)).2 e4) rfl rfl (by simp [cat_i, cat_l, cat_rf]) dX12_tear_21 ?_
    refine g_if_le (tgt := 31) o dX12_tear_24 (by decide) (fun z => ?_) (fun z => ?_)
    · have h := (if_pos z).symm.trans h
      refine g_iconst (v := (0 : Int32)) o dX12_tear_31 (by decide) ?_
      refine gsub [1, 2] rfl ?_
      exact w_X12_tear_32 o hL hr hz hk0 hE hd h
    · have h := (if_neg z).symm.trans h
      refine g_iconst (v := (1 : Int32)) o dX12_tear_27 (by decide) ?_
      refine g_goto (tgt := 32) o dX12_tear_28 (by decide) ?_
      refine gsub [1, 2] rfl ?_
      exact w_X12_tear_32 o hL hr hz hk0 hE hd h
  · have h := (if_neg z).symm.trans h
    refine g_aload_n o dX12_tear_11 1 rfl ?_
    refine g_iload_n o dX12_tear_12 0 rfl ?_
    obtain ⟨x5, e6, h⟩ := ob h
    refine g_invV0 o (rc_self hk0) (by decide) ml_X12_72 kb_X12_no kv_X12_no rfl (c_X12_no (cq X) (cD X) (cY X) (cB X) (d := d) (by omega) (rc_at (rc_self hk0)).2 e6) rfl rfl (by simp [cat_i, cat_l, cat_rf]) dX12_tear_13 ?_
    cases h
    exact g_iret o hr hE dX12_tear_16
theorem c_X12_tear (l : Launch) (D : va_G) (Y : Nat → ClassId) (B : Nat) {d : Nat} {n : Nat} {K L : Nat → Nat} {M : Mm} {a0 : Nat} {v1 : Int32} {r : (Int32 × Mm)} (hd : 3 ≤ d) (hk0 : K a0 = 12) (h : f_X12_tear K L a0 v1 M = some r) : mC l D Y B d yX12_tear cX12_tear 4 (some .int) [va_rf (some a0), .int v1] n K L M n K L r.2 (some (.int r.1)) 0 0 := by
  obtain ⟨d, rfl⟩ : ∃ e, d = e + 1 := ⟨d - 1, by omega⟩
  refine mk_met (by decide) (by simp [lgs_r, lgs_i, lgs_l, lgs_n]) (fun X e1 e2 e3 e4 o hL hr hnm hz hc hs hE => ?_)
  subst e1 e2 e3 e4
  rw [show lv_args 0 [va_rf (some a0), .int v1] = [(0, va_rf (some a0)), (1, .int v1)] by simp [lva_r, lva_i, lva_l, lva_n]]
  exact w_X12_tear_0 o hL hr hz hk0 hE hd h
def f_X12_step_90 (K L : Nat → Nat) (a0 : Nat) (M : Mm) : Option (Int32 × Mm) :=
  Option.bind (f_X12_no K L a0 (-12 : Int32) M) (fun x1 =>
  some (x1.1, x1.2))
set_option maxHeartbeats 4000000 in
theorem w_X12_step_90 {X : Cx} {d n : Nat} {K L : Nat → Nat} {a0 : Nat} {r : (Int32 × Mm)} {M : Mm} (o : cOk X cX12_step RX12 (d + 1)) (hL : cL X = 6) (hr : (ch X).sig.returnType = some .int) (hz : (cs X).heap.size + 0 = cB X + n) (hk0 : K a0 = 12) (hE : cE X n K L r.2 (some (.int r.1)) 0 0) (hd : 3 ≤ d + 1) (h : f_X12_step_90 K L a0  M = some r) : gW X 0 0 n K L M 90 [(0, va_rf (some a0))] [] := by
  unfold f_X12_step_90 at h
  refine g_aload_n o dX12_step_90 0 rfl ?_
  refine g_bipush (v := (-12 : Int32)) o dX12_step_91 (by decide) ?_
  obtain ⟨x1, e2, h⟩ := ob h
  refine g_invV0 o (rc_self hk0) (by decide) ml_X12_72 kb_X12_no kv_X12_no rfl (c_X12_no (cq X) (cD X) (cY X) (cB X) (d := d) (by omega) (rc_at (rc_self hk0)).2 e2) rfl rfl (by simp [cat_i, cat_l, cat_rf]) dX12_step_93 ?_
  cases h
  exact g_iret o hr hE dX12_step_96
def f_X12_step_55 (K L : Nat → Nat) (a0 : Nat) (v1 : Int32) (v2 : Int32) (v3 : Int32) (v4 : Int32) (M : Mm) : Option (Int32 × Mm) :=
  if v4 = 0 then
    Option.bind (f_X12_isIn (v3.toInt64) (0 : Int64) (10000 : Int64)) (fun x1 =>
    if x1 = 0 then
      f_X12_step_90 K L a0 M
    else
      Option.bind (f_X12_of K L M a0 v1 (69 : Int32)) (fun x3 =>
      if x3 < v2 then
        Option.bind (f_X12_of K L M a0 v1 ((49 : Int32) + v2)) (fun x5 =>
        Option.bind (f_X12_to K L a0 v1 ((49 : Int32) + v2) v3 M) (fun x7 =>
        some (x5, x7)))
      else
        f_X12_step_90 K L a0 M))
  else
    Option.bind (f_X12_no K L a0 v4 M) (fun x9 =>
    some (x9.1, x9.2))
set_option maxHeartbeats 4000000 in
theorem w_X12_step_55 {X : Cx} {d n : Nat} {K L : Nat → Nat} {a0 : Nat} {r : (Int32 × Mm)} {v1 : Int32} {v2 : Int32} {v3 : Int32} {v4 : Int32} {M : Mm} (o : cOk X cX12_step RX12 (d + 1)) (hL : cL X = 6) (hr : (ch X).sig.returnType = some .int) (hz : (cs X).heap.size + 0 = cB X + n) (hk0 : K a0 = 12) (hE : cE X n K L r.2 (some (.int r.1)) 0 0) (hd : 3 ≤ d + 1) (h : f_X12_step_55 K L a0 v1 v2 v3 v4 M = some r) : gW X 0 0 n K L M 55 [(0, va_rf (some a0)), (1, .int v1), (2, .int v2), (3, .int v3), (4, .int v4)] [] := by
  unfold f_X12_step_55 at h
  refine g_iload o dX12_step_55 4 rfl ?_
  refine g_if_eq (tgt := 67) o dX12_step_57 (by decide) (fun z => ?_) (fun z => ?_)
  · have h := (if_pos z).symm.trans h
    refine g_iload_n o dX12_step_67 3 rfl ?_
    refine g_i2l o dX12_step_68 ?_
    refine g_lconst (v := (0 : Int64)) o dX12_step_69 (by decide) ?_
    refine g_ldc2 (v := (10000 : Int64)) o kc_X12_89 dX12_step_70 ?_
    obtain ⟨x1, e2, h⟩ := ob h
    refine g_invS0 o ml_X12_62 kb_X12_isIn ks_X12_isIn (c_X12_isIn (cq X) (cD X) (cY X) (cB X) (d := d) (by omega) e2) rfl rfl (by simp [cat_i, cat_l, cat_rf]) dX12_step_73 ?_
    refine g_if_eq (tgt := 90) o dX12_step_76 (by decide) (fun z => ?_) (fun z => ?_)
    · have h := (if_pos z).symm.trans h
      refine gsub [0] rfl ?_
      exact w_X12_step_90 o hL hr hz hk0 hE hd h
    · have h := (if_neg z).symm.trans h
      refine g_aload_n o dX12_step_79 0 rfl ?_
      refine g_iload_n o dX12_step_80 1 rfl ?_
      refine g_bipush (v := (69 : Int32)) o dX12_step_81 (by decide) ?_
      obtain ⟨x3, e4, h⟩ := ob h
      refine g_invV0 o (rc_self hk0) (by decide) ml_X12_43 kb_X12_of kv_X12_of rfl (c_X12_of (cq X) (cD X) (cY X) (cB X) (d := d) (by omega) (rc_at (rc_self hk0)).2 e4) rfl rfl (by simp [cat_i, cat_l, cat_rf]) dX12_step_83 ?_
      refine g_iload_n o dX12_step_86 2 rfl ?_
      refine g_icmp_lt (tgt := 97) o dX12_step_87 (by decide) (fun z => ?_) (fun z => ?_)
      · have h := (if_pos z).symm.trans h
        refine g_aload_n o dX12_step_97 0 rfl ?_
        refine g_iload_n o dX12_step_98 1 rfl ?_
        refine g_bipush (v := (49 : Int32)) o dX12_step_99 (by decide) ?_
        refine g_iload_n o dX12_step_101 2 rfl ?_
        refine g_iadd o dX12_step_102 ?_
        obtain ⟨x5, e6, h⟩ := ob h
        refine g_invV0 o (rc_self hk0) (by decide) ml_X12_43 kb_X12_of kv_X12_of rfl (c_X12_of (cq X) (cD X) (cY X) (cB X) (d := d) (by omega) (rc_at (rc_self hk0)).2 e6) rfl rfl (by simp [cat_i, cat_l, cat_rf]) dX12_step_103 ?_
        refine g_istore (i := 5) (ls' := [(5, .int x5), (0, va_rf (some a0)), (1, .int v1), (2, .int v2), (3, .int v3), (4, .int v4)]) o dX12_step_106 (ltL hL (by decide)) rfl ?_
        refine g_aload_n o dX12_step_108 1 rfl ?_
        refine g_iload_n o dX12_step_109 2 rfl ?_
        refine g_bipush (v := (49 : Int32)) o dX12_step_110 (by decide) ?_
        refine g_iload_n o dX12_step_112 3 rfl ?_
        refine g_iadd o dX12_step_113 ?_
        refine g_iload_n o dX12_step_114 4 rfl ?_
        obtain ⟨x7, e8, h⟩ := ob h
        refine g_invV0 o (rc_self hk0) (by decide) ml_X12_125 kb_X12_to kv_X12_to rfl (c_X12_to (cq X) (cD X) (cY X) (cB X) (d := d) (by omega) (rc_at (rc_self hk0)).2 e8) rfl rfl (by simp [cat_i, cat_l, cat_rf]) dX12_step_115 ?_
        refine g_iload o dX12_step_118 0 rfl ?_
        cases h
        exact g_iret o hr hE dX12_step_120
      · have h := (if_neg z).symm.trans h
        refine gsub [0] rfl ?_
        exact w_X12_step_90 o hL hr hz hk0 hE hd h
  · have h := (if_neg z).symm.trans h
    refine g_aload_n o dX12_step_60 0 rfl ?_
    refine g_iload o dX12_step_61 4 rfl ?_
    obtain ⟨x9, e10, h⟩ := ob h
    refine g_invV0 o (rc_self hk0) (by decide) ml_X12_72 kb_X12_no kv_X12_no rfl (c_X12_no (cq X) (cD X) (cY X) (cB X) (d := d) (by omega) (rc_at (rc_self hk0)).2 e10) rfl rfl (by simp [cat_i, cat_l, cat_rf]) dX12_step_63 ?_
    cases h
    exact g_iret o hr hE dX12_step_66
def f_X12_step_27 (K L : Nat → Nat) (a0 : Nat) (v1 : Int32) (v2 : Int32) (v3 : Int32) (v4 : Int32) (M : Mm) : Option (Int32 × Mm) :=
  if v4 = 0 then
    Option.bind (f_X12_of K L M a0 v1 (48 : Int32)) (fun x1 =>
    Option.bind (f_X12_isIn (v2.toInt64) (0 : Int64) ((x1 - (1 : Int32)).toInt64)) (fun x3 =>
    if x3 = 0 then
      f_X12_step_55 K L a0 v1 v2 v3 (-3 : Int32) M
    else
      f_X12_step_55 K L a0 v1 v2 v3 v4 M))
  else
    f_X12_step_55 K L a0 v1 v2 v3 v4 M
set_option maxHeartbeats 4000000 in
theorem w_X12_step_27 {X : Cx} {d n : Nat} {K L : Nat → Nat} {a0 : Nat} {r : (Int32 × Mm)} {v1 : Int32} {v2 : Int32} {v3 : Int32} {v4 : Int32} {M : Mm} (o : cOk X cX12_step RX12 (d + 1)) (hL : cL X = 6) (hr : (ch X).sig.returnType = some .int) (hz : (cs X).heap.size + 0 = cB X + n) (hk0 : K a0 = 12) (hE : cE X n K L r.2 (some (.int r.1)) 0 0) (hd : 3 ≤ d + 1) (h : f_X12_step_27 K L a0 v1 v2 v3 v4 M = some r) : gW X 0 0 n K L M 27 [(0, va_rf (some a0)), (1, .int v1), (2, .int v2), (3, .int v3), (4, .int v4)] [] := by
  unfold f_X12_step_27 at h
  refine g_iload o dX12_step_27 4 rfl ?_
  refine g_if_ne (tgt := 55) o dX12_step_29 (by decide) (fun z => ?_) (fun z => ?_)
  · have h := (if_neg z).symm.trans h
    exact w_X12_step_55 o hL hr hz hk0 hE hd h
  · have h := (if_pos z).symm.trans h
    refine g_iload_n o dX12_step_32 2 rfl ?_
    refine g_i2l o dX12_step_33 ?_
    refine g_lconst (v := (0 : Int64)) o dX12_step_34 (by decide) ?_
    refine g_aload_n o dX12_step_35 0 rfl ?_
    refine g_iload_n o dX12_step_36 1 rfl ?_
    refine g_bipush (v := (48 : Int32)) o dX12_step_37 (by decide) ?_
    obtain ⟨x1, e2, h⟩ := ob h
    refine g_invV0 o (rc_self hk0) (by decide) ml_X12_43 kb_X12_of kv_X12_of rfl (c_X12_of (cq X) (cD X) (cY X) (cB X) (d := d) (by omega) (rc_at (rc_self hk0)).2 e2) rfl rfl (by simp [cat_i, cat_l, cat_rf]) dX12_step_39 ?_
    refine g_iconst (v := (1 : Int32)) o dX12_step_42 (by decide) ?_
    refine g_isub o dX12_step_43 ?_
    refine g_i2l o dX12_step_44 ?_
    obtain ⟨x3, e4, h⟩ := ob h
    refine g_invS0 o ml_X12_62 kb_X12_isIn ks_X12_isIn (c_X12_isIn (cq X) (cD X) (cY X) (cB X) (d := d) (by omega) e4) rfl rfl (by simp [cat_i, cat_l, cat_rf]) dX12_step_45 ?_
    refine g_if_ne (tgt := 55) o dX12_step_48 (by decide) (fun z => ?_) (fun z => ?_)
    · have h := (if_neg z).symm.trans h
      exact w_X12_step_55 o hL hr hz hk0 hE hd h
    · have h := (if_pos z).symm.trans h
      refine g_bipush (v := (-3 : Int32)) o dX12_step_51 (by decide) ?_
      refine g_istore (i := 4) (ls' := [(4, .int (-3 : Int32)), (0, va_rf (some a0)), (1, .int v1), (2, .int v2), (3, .int v3)]) o dX12_step_53 (ltL hL (by decide)) rfl ?_
      refine gsub [1, 2, 3, 4, 0] rfl ?_
      exact w_X12_step_55 o hL hr hz hk0 hE hd h
def f_X12_step (K L : Nat → Nat) (a0 : Nat) (v1 : Int32) (v2 : Int32) (v3 : Int32) (M : Mm) : Option (Int32 × Mm) :=
  Option.bind (f_X12_why K L M a0 v1 (1 : Int32)) (fun x1 =>
  if x1 = 0 then
    Option.bind (f_X12_of K L M a0 v1 (48 : Int32)) (fun x3 =>
    if x3 = 0 then
      f_X12_step_27 K L a0 v1 v2 v3 (-2 : Int32) M
    else
      f_X12_step_27 K L a0 v1 v2 v3 x1 M)
  else
    f_X12_step_27 K L a0 v1 v2 v3 x1 M)
set_option maxHeartbeats 4000000 in
theorem w_X12_step_0 {X : Cx} {d n : Nat} {K L : Nat → Nat} {a0 : Nat} {r : (Int32 × Mm)} {v1 : Int32} {v2 : Int32} {v3 : Int32} {M : Mm} (o : cOk X cX12_step RX12 (d + 1)) (hL : cL X = 6) (hr : (ch X).sig.returnType = some .int) (hz : (cs X).heap.size + 0 = cB X + n) (hk0 : K a0 = 12) (hE : cE X n K L r.2 (some (.int r.1)) 0 0) (hd : 3 ≤ d + 1) (h : f_X12_step K L a0 v1 v2 v3 M = some r) : gW X 0 0 n K L M 0 [(0, va_rf (some a0)), (1, .int v1), (2, .int v2), (3, .int v3)] [] := by
  unfold f_X12_step at h
  refine g_aload_n o dX12_step_0 0 rfl ?_
  refine g_iload_n o dX12_step_1 1 rfl ?_
  refine g_iconst (v := (1 : Int32)) o dX12_step_2 (by decide) ?_
  obtain ⟨x1, e2, h⟩ := ob h
  refine g_invV0 o (rc_self hk0) (by decide) ml_X12_119 kb_X12_why kv_X12_why rfl (c_X12_why (cq X) (cD X) (cY X) (cB X) (d := d) (by omega) (rc_at (rc_self hk0)).2 e2) rfl rfl (by simp [cat_i, cat_l, cat_rf]) dX12_step_3 ?_
  refine g_istore (i := 4) (ls' := [(4, .int x1), (0, va_rf (some a0)), (1, .int v1), (2, .int v2), (3, .int v3)]) o dX12_step_6 (ltL hL (by decide)) rfl ?_
  refine g_iload o dX12_step_8 0 rfl ?_
  refine g_if_ne (tgt := 27) o dX12_step_10 (by decide) (fun z => ?_) (fun z => ?_)
  · have h := (if_neg z).symm.trans h
    refine gsub [1, 2, 3, 4, 0] rfl ?_
    exact w_X12_step_27 o hL hr hz hk0 hE hd h
  · have h := (if_pos z).symm.trans h
    refine g_aload_n o dX12_step_13 1 rfl ?_
    refine g_iload_n o dX12_step_14 2 rfl ?_
    refine g_bipush (v := (48 : Int32)) o dX12_step_15 (by decide) ?_
    obtain ⟨x3, e4, h⟩ := ob h
    refine g_invV0 o (rc_self hk0) (by decide) ml_X12_43 kb_X12_of kv_X12_of rfl (c_X12_of (cq X) (cD X) (cY X) (cB X) (d := d) (by omega) (rc_at (rc_self hk0)).2 e4) rfl rfl (by simp [cat_i, cat_l, cat_rf]) dX12_step_17 ?_
    refine g_if_ne (tgt := 27) o dX12_step_20 (by decide) (fun z => ?_) (fun z => ?_)
    · have h := (if_neg z).symm.trans h
      refine gsub [1, 2, 3, 4, 0] rfl ?_
      exact w_X12_step_27 o hL hr hz hk0 hE hd h
    · have h := (if_pos z).symm.trans h
      refine g_bipush (v := (-2 : Int32)) o dX12_step_23 (by decide) ?_
      refine g_istore (i := 4) (ls' := [(4, .int (-2 : Int32)), (0, va_rf (some a0)), (1, .int v1), (2, .int v2), (3, .int v3)]) o dX12_step_25 (ltL hL (by decide)) rfl ?_
      refine gsub [1, 2, 3, 4, 0] rfl ?_
      exact w_X12_step_27 o hL hr hz hk0 hE hd h
theorem c_X12_step (l : Launch) (D : va_G) (Y : Nat → ClassId) (B : Nat) {d : Nat} {n : Nat} {K L : Nat → Nat} {M : Mm} {a0 : Nat} {v1 : Int32} {v2 : Int32} {v3 : Int32} {r : (Int32 × Mm)} (hd : 3 ≤ d) (hk0 : K a0 = 12) (h : f_X12_step K L a0 v1 v2 v3 M = some r) : mC l D Y B d yX12_step cX12_step 6 (some .int) [va_rf (some a0), .int v1, .int v2, .int v3] n K L M n K L r.2 (some (.int r.1)) 0 0 := by
  obtain ⟨d, rfl⟩ : ∃ e, d = e + 1 := ⟨d - 1, by omega⟩
  refine mk_met (by decide) (by simp [lgs_r, lgs_i, lgs_l, lgs_n]) (fun X e1 e2 e3 e4 o hL hr hnm hz hc hs hE => ?_)
  subst e1 e2 e3 e4
  rw [show lv_args 0 [va_rf (some a0), .int v1, .int v2, .int v3] = [(0, va_rf (some a0)), (1, .int v1), (2, .int v2), (3, .int v3)] by simp [lva_r, lva_i, lva_l, lva_n]]
  exact w_X12_step_0 o hL hr hz hk0 hE hd h
def f_X12_whyTwo (K L : Nat → Nat) (M : Mm) (a0 : Nat) (v1 : Int32) (v2 : Int32) (v3 : Int32) : Option Int32 :=
  Option.bind (f_X12_isPlace v1) (fun x1 =>
  if x1 = 0 then
    some (-3 : Int32)
  else
    Option.bind (f_X12_isPlace v2) (fun x3 =>
    if x3 = 0 then
      some (-3 : Int32)
    else
      Option.bind (f_X12_of K L M a0 v1 (0 : Int32)) (fun x5 =>
      if x5 = 0 then
        some (-2 : Int32)
      else
        Option.bind (f_X12_of K L M a0 v2 (0 : Int32)) (fun x7 =>
        if x7 = 0 then
          some (-2 : Int32)
        else
          Option.bind (f_X12_why K L M a0 v1 v3) (fun x9 =>
          if x9 = 0 then
            Option.bind (f_X12_why K L M a0 v2 v3) (fun x11 =>
            some x11)
          else
            some x9)))))
set_option maxHeartbeats 4000000 in
theorem w_X12_whyTwo_0 {X : Cx} {d n : Nat} {K L : Nat → Nat} {M : Mm} {a0 : Nat} {r : Int32} {v1 : Int32} {v2 : Int32} {v3 : Int32} (o : cOk X cX12_whyTwo RX12 (d + 1)) (hL : cL X = 5) (hr : (ch X).sig.returnType = some .int) (hk0 : K a0 = 12) (hE : cE X n K L M (some (.int r)) 0 0) (hd : 3 ≤ d + 1) (h : f_X12_whyTwo K L M a0 v1 v2 v3 = some r) : gW X 0 0 n K L M 0 [(0, va_rf (some a0)), (1, .int v1), (2, .int v2), (3, .int v3)] [] := by
  unfold f_X12_whyTwo at h
  refine g_iload_n o dX12_whyTwo_0 1 rfl ?_
  obtain ⟨x1, e2, h⟩ := ob h
  refine g_invS0 o ml_X12_47 kb_X12_isPlace ks_X12_isPlace (c_X12_isPlace (cq X) (cD X) (cY X) (cB X) (d := d) (by omega) e2) rfl rfl (by simp [cat_i, cat_l, cat_rf]) dX12_whyTwo_1 ?_
  refine g_if_eq (tgt := 14) o dX12_whyTwo_4 (by decide) (fun z => ?_) (fun z => ?_)
  · have h := (if_pos z).symm.trans h
    refine g_bipush (v := (-3 : Int32)) o dX12_whyTwo_14 (by decide) ?_
    cases h
    exact g_iret o hr hE dX12_whyTwo_16
  · have h := (if_neg z).symm.trans h
    refine g_iload_n o dX12_whyTwo_7 2 rfl ?_
    obtain ⟨x3, e4, h⟩ := ob h
    refine g_invS0 o ml_X12_47 kb_X12_isPlace ks_X12_isPlace (c_X12_isPlace (cq X) (cD X) (cY X) (cB X) (d := d) (by omega) e4) rfl rfl (by simp [cat_i, cat_l, cat_rf]) dX12_whyTwo_8 ?_
    refine g_if_ne (tgt := 17) o dX12_whyTwo_11 (by decide) (fun z => ?_) (fun z => ?_)
    · have h := (if_neg z).symm.trans h
      refine g_aload_n o dX12_whyTwo_17 0 rfl ?_
      refine g_iload_n o dX12_whyTwo_18 1 rfl ?_
      refine g_iconst (v := (0 : Int32)) o dX12_whyTwo_19 (by decide) ?_
      obtain ⟨x5, e6, h⟩ := ob h
      refine g_invV0 o (rc_self hk0) (by decide) ml_X12_43 kb_X12_of kv_X12_of rfl (c_X12_of (cq X) (cD X) (cY X) (cB X) (d := d) (by omega) (rc_at (rc_self hk0)).2 e6) rfl rfl (by simp [cat_i, cat_l, cat_rf]) dX12_whyTwo_20 ?_
      refine g_if_eq (tgt := 35) o dX12_whyTwo_23 (by decide) (fun z => ?_) (fun z => ?_)
      · have h := (if_pos z).symm.trans h
        refine g_bipush (v := (-2 : Int32)) o dX12_whyTwo_35 (by decide) ?_
        cases h
        exact g_iret o hr hE dX12_whyTwo_37
      · have h := (if_neg z).symm.trans h
        refine g_aload_n o dX12_whyTwo_26 0 rfl ?_
        refine g_iload_n o dX12_whyTwo_27 2 rfl ?_
        refine g_iconst (v := (0 : Int32)) o dX12_whyTwo_28 (by decide) ?_
        obtain ⟨x7, e8, h⟩ := ob h
        refine g_invV0 o (rc_self hk0) (by decide) ml_X12_43 kb_X12_of kv_X12_of rfl (c_X12_of (cq X) (cD X) (cY X) (cB X) (d := d) (by omega) (rc_at (rc_self hk0)).2 e8) rfl rfl (by simp [cat_i, cat_l, cat_rf]) dX12_whyTwo_29 ?_
        refine g_if_ne (tgt := 38) o dX12_whyTwo_32 (by decide) (fun z => ?_) (fun z => ?_)
        · have h := (if_neg z).symm.trans h
          refine g_aload_n o dX12_whyTwo_38 0 rfl ?_
          refine g_iload_n o dX12_whyTwo_39 1 rfl ?_
          refine g_iload_n o dX12_whyTwo_40 3 rfl ?_
          obtain ⟨x9, e10, h⟩ := ob h
          refine g_invV0 o (rc_self hk0) (by decide) ml_X12_119 kb_X12_why kv_X12_why rfl (c_X12_why (cq X) (cD X) (cY X) (cB X) (d := d) (by omega) (rc_at (rc_self hk0)).2 e10) rfl rfl (by simp [cat_i, cat_l, cat_rf]) dX12_whyTwo_41 ?_
          refine g_istore (i := 4) (ls' := [(4, .int x9), (0, va_rf (some a0)), (1, .int v1), (2, .int v2), (3, .int v3)]) o dX12_whyTwo_44 (ltL hL (by decide)) rfl ?_
          refine g_iload o dX12_whyTwo_46 0 rfl ?_
          refine g_if_eq (tgt := 56) o dX12_whyTwo_48 (by decide) (fun z => ?_) (fun z => ?_)
          · have h := (if_pos z).symm.trans h
            refine g_aload_n o dX12_whyTwo_56 1 rfl ?_
            refine g_iload_n o dX12_whyTwo_57 3 rfl ?_
            refine g_iload_n o dX12_whyTwo_58 4 rfl ?_
            obtain ⟨x11, e12, h⟩ := ob h
            refine g_invV0 o (rc_self hk0) (by decide) ml_X12_119 kb_X12_why kv_X12_why rfl (c_X12_why (cq X) (cD X) (cY X) (cB X) (d := d) (by omega) (rc_at (rc_self hk0)).2 e12) rfl rfl (by simp [cat_i, cat_l, cat_rf]) dX12_whyTwo_59 ?_
            cases h
            exact g_iret o hr hE dX12_whyTwo_62
          · have h := (if_neg z).symm.trans h
            refine g_iload o dX12_whyTwo_51 0 rfl ?_
            refine g_goto (tgt := 62) o dX12_whyTwo_53 (by decide) ?_
            cases h
            exact g_iret o hr hE dX12_whyTwo_62
        · have h := (if_pos z).symm.trans h
          refine g_bipush (v := (-2 : Int32)) o dX12_whyTwo_35 (by decide) ?_
          cases h
          exact g_iret o hr hE dX12_whyTwo_37
    · have h := (if_pos z).symm.trans h
      refine g_bipush (v := (-3 : Int32)) o dX12_whyTwo_14 (by decide) ?_
      cases h
      exact g_iret o hr hE dX12_whyTwo_16
theorem c_X12_whyTwo (l : Launch) (D : va_G) (Y : Nat → ClassId) (B : Nat) {d : Nat} {n : Nat} {K L : Nat → Nat} {M : Mm} {a0 : Nat} {v1 : Int32} {v2 : Int32} {v3 : Int32} {r : Int32} (hd : 3 ≤ d) (hk0 : K a0 = 12) (h : f_X12_whyTwo K L M a0 v1 v2 v3 = some r) : mC l D Y B d yX12_whyTwo cX12_whyTwo 5 (some .int) [va_rf (some a0), .int v1, .int v2, .int v3] n K L M n K L M (some (.int r)) 0 0 := by
  obtain ⟨d, rfl⟩ : ∃ e, d = e + 1 := ⟨d - 1, by omega⟩
  refine mk_met (by decide) (by simp [lgs_r, lgs_i, lgs_l, lgs_n]) (fun X e1 e2 e3 e4 o hL hr hnm hz hc hs hE => ?_)
  subst e1 e2 e3 e4
  rw [show lv_args 0 [va_rf (some a0), .int v1, .int v2, .int v3] = [(0, va_rf (some a0)), (1, .int v1), (2, .int v2), (3, .int v3)] by simp [lva_r, lva_i, lva_l, lva_n]]
  exact w_X12_whyTwo_0 o hL hr hk0 hE hd h
def f_X12_copy_165b (K L : Nat → Nat) (fu : Nat) (k165 : Int32 → Int32 → Int32 → Int32 → Mm → Option (Int32 × Mm)) (a0 : Nat) (v3 : Int32) (v4 : Int32) (v5 : Int32) (v7 : Int32) (M : Mm) : Option (Int32 × Mm) :=
  if v5 ≤ v7 then
    some (v5, M)
  else
    Option.bind (rx K L (mm_R M (32 * 12 + 15) a0) 13 v7) (fun a1 =>
    Option.bind (f_X12_to K L a0 v3 (((49 : Int32) + v4) + v7) (mm_A M a1 v7.toNatClampNeg) M) (fun x3 =>
    k165 v3 v4 v5 (v7 + 1) x3))
def f_X12_copy_165 (K L : Nat → Nat) (fu : Nat) (a0 : Nat) : Nat → Int32 → Int32 → Int32 → Int32 → Mm → Option (Int32 × Mm)
  | 0, _, _, _, _, _ => none
  | g + 1, v3, v4, v5, v7, M => f_X12_copy_165b K L fu (f_X12_copy_165 K L fu a0 g) a0 v3 v4 v5 v7 M
set_option maxHeartbeats 4000000 in
theorem w_X12_copy_165b {X : Cx} {d n : Nat} {K L : Nat → Nat} {fu : Nat} {a0 : Nat} {r : (Int32 × Mm)} {k165 : Int32 → Int32 → Int32 → Int32 → Mm → Option (Int32 × Mm)} {v3 : Int32} {v4 : Int32} {v5 : Int32} {v7 : Int32} {M : Mm} (o : cOk X cX12_copy RX12 (d + 1)) (hL : cL X = 8) (hr : (ch X).sig.returnType = some .int) (hz : (cs X).heap.size + 0 = cB X + n) (hk0 : K a0 = 12) (hE : cE X n K L r.2 (some (.int r.1)) 0 0) (hk165 : ∀ (v3 : Int32) (v4 : Int32) (v5 : Int32) (v7 : Int32) (M : Mm), k165 v3 v4 v5 v7 M = some r → gW X 0 0 n K L M 165 [(0, va_rf (some a0)), (3, .int v3), (4, .int v4), (5, .int v5), (7, .int v7)] []) (hd : 4 ≤ d + 1) (h : f_X12_copy_165b K L fu k165 a0 v3 v4 v5 v7 M = some r) : gW X 0 0 n K L M 165 [(0, va_rf (some a0)), (3, .int v3), (4, .int v4), (5, .int v5), (7, .int v7)] [] := by
  unfold f_X12_copy_165b at h
  refine g_iload o dX12_copy_165 4 rfl ?_
  refine g_iload o dX12_copy_167 3 rfl ?_
  refine g_icmp_ge (tgt := 198) o dX12_copy_169 (by decide) (fun z => ?_) (fun z => ?_)
  · have h := (if_pos z).symm.trans h
    refine g_iload o dX12_copy_198 3 rfl ?_
    cases h
    exact g_iret o hr hE dX12_copy_200
  · have h := (if_neg z).symm.trans h
    refine g_aload_n o dX12_copy_172 0 rfl ?_
    refine g_iload_n o dX12_copy_173 1 rfl ?_
    refine g_bipush (v := (49 : Int32)) o dX12_copy_174 (by decide) ?_
    refine g_iload o dX12_copy_176 2 rfl ?_
    refine g_iadd o dX12_copy_178 ?_
    refine g_iload o dX12_copy_179 4 rfl ?_
    refine g_iadd o dX12_copy_181 ?_
    refine g_aload_n o dX12_copy_182 0 rfl ?_
    refine g_getR o fl_X12_40 (rc_self hk0) (by decide) rfl dX12_copy_183 ?_
    refine g_iload o dX12_copy_186 4 rfl ?_
    obtain ⟨a1, e2, h⟩ := ob h
    refine g_iald o e2 dX12_copy_188 ?_
    obtain ⟨x3, e4, h⟩ := ob h
    refine g_invV0 o (rc_self hk0) (by decide) ml_X12_125 kb_X12_to kv_X12_to rfl (c_X12_to (cq X) (cD X) (cY X) (cB X) (d := d) (by omega) (rc_at (rc_self hk0)).2 e4) rfl rfl (by simp [cat_i, cat_l, cat_rf]) dX12_copy_189 ?_
    refine g_iinc (i := 7) (v := v7 + 1) (ls' := [(7, .int (v7 + 1)), (0, va_rf (some a0)), (3, .int v3), (4, .int v4), (5, .int v5)]) o dX12_copy_192 4 rfl (by first | rfl | (congr 1)) (ltL hL (by decide)) rfl ?_
    refine g_goto (tgt := 165) o dX12_copy_195 (by decide) ?_
    refine gsub [1, 2, 3, 4, 0] rfl ?_
    exact hk165 _ _ _ _ _ h
theorem w_X12_copy_165_n {X : Cx} {d n : Nat} {K L : Nat → Nat} {fu : Nat} {a0 : Nat} {r : (Int32 × Mm)} (o : cOk X cX12_copy RX12 (d + 1)) (hL : cL X = 8) (hr : (ch X).sig.returnType = some .int) (hz : (cs X).heap.size + 0 = cB X + n) (hk0 : K a0 = 12) (hE : cE X n K L r.2 (some (.int r.1)) 0 0) (hd : 4 ≤ d + 1) : ∀ (g : Nat) (v3 : Int32) (v4 : Int32) (v5 : Int32) (v7 : Int32) (M : Mm), f_X12_copy_165 K L fu a0 g v3 v4 v5 v7 M = some r → gW X 0 0 n K L M 165 [(0, va_rf (some a0)), (3, .int v3), (4, .int v4), (5, .int v5), (7, .int v7)] []
  | 0, _, _, _, _, _, h => by cases h
  | g + 1, v3, v4, v5, v7, M, h => w_X12_copy_165b o hL hr hz hk0 hE (w_X12_copy_165_n o hL hr hz hk0 hE hd g) hd h
theorem w_X12_copy_165 {X : Cx} {d n : Nat} {K L : Nat → Nat} {fu : Nat} {a0 : Nat} {r : (Int32 × Mm)} {v3 : Int32} {v4 : Int32} {v5 : Int32} {v7 : Int32} {M : Mm} (o : cOk X cX12_copy RX12 (d + 1)) (hL : cL X = 8) (hr : (ch X).sig.returnType = some .int) (hz : (cs X).heap.size + 0 = cB X + n) (hk0 : K a0 = 12) (hE : cE X n K L r.2 (some (.int r.1)) 0 0) (hd : 4 ≤ d + 1) (h : f_X12_copy_165 K L fu a0 fu v3 v4 v5 v7 M = some r) : gW X 0 0 n K L M 165 [(0, va_rf (some a0)), (3, .int v3), (4, .int v4), (5, .int v5), (7, .int v7)] [] := w_X12_copy_165_n o hL hr hz hk0 hE hd fu v3 v4 v5 v7 M h
def f_X12_copy_130b (K L : Nat → Nat) (fu : Nat) (k130 : Int32 → Int32 → Int32 → Int32 → Int32 → Int32 → Mm → Option (Int32 × Mm)) (a0 : Nat) (v1 : Int32) (v2 : Int32) (v3 : Int32) (v4 : Int32) (v5 : Int32) (v7 : Int32) (M : Mm) : Option (Int32 × Mm) :=
  if v5 ≤ v7 then
    f_X12_copy_165 K L fu a0 fu v3 v4 v5 (0 : Int32) M
  else
    Option.bind (f_X12_of K L M a0 v1 (((49 : Int32) + v2) + v7)) (fun x1 =>
    Option.bind (rx K L (mm_R M (32 * 12 + 15) a0) 13 v7) (fun a3 =>
    bn (ms_A M a3 (upd (mm_A M a3) v7.toNatClampNeg x1)) (fun M5 =>
    k130 v1 v2 v3 v4 v5 (v7 + 1) M5)))
def f_X12_copy_130 (K L : Nat → Nat) (fu : Nat) (a0 : Nat) : Nat → Int32 → Int32 → Int32 → Int32 → Int32 → Int32 → Mm → Option (Int32 × Mm)
  | 0, _, _, _, _, _, _, _ => none
  | g + 1, v1, v2, v3, v4, v5, v7, M => f_X12_copy_130b K L fu (f_X12_copy_130 K L fu a0 g) a0 v1 v2 v3 v4 v5 v7 M
set_option maxHeartbeats 4000000 in
theorem w_X12_copy_130b {X : Cx} {d n : Nat} {K L : Nat → Nat} {fu : Nat} {a0 : Nat} {r : (Int32 × Mm)} {k130 : Int32 → Int32 → Int32 → Int32 → Int32 → Int32 → Mm → Option (Int32 × Mm)} {v1 : Int32} {v2 : Int32} {v3 : Int32} {v4 : Int32} {v5 : Int32} {v7 : Int32} {M : Mm} (o : cOk X cX12_copy RX12 (d + 1)) (hL : cL X = 8) (hr : (ch X).sig.returnType = some .int) (hz : (cs X).heap.size + 0 = cB X + n) (hk0 : K a0 = 12) (hE : cE X n K L r.2 (some (.int r.1)) 0 0) (hk130 : ∀ (v1 : Int32) (v2 : Int32) (v3 : Int32) (v4 : Int32) (v5 : Int32) (v7 : Int32) (M : Mm), k130 v1 v2 v3 v4 v5 v7 M = some r → gW X 0 0 n K L M 130 [(0, va_rf (some a0)), (1, .int v1), (2, .int v2), (3, .int v3), (4, .int v4), (5, .int v5), (7, .int v7)] []) (hd : 4 ≤ d + 1) (h : f_X12_copy_130b K L fu k130 a0 v1 v2 v3 v4 v5 v7 M = some r) : gW X 0 0 n K L M 130 [(0, va_rf (some a0)), (1, .int v1), (2, .int v2), (3, .int v3), (4, .int v4), (5, .int v5), (7, .int v7)] [] := by
  unfold f_X12_copy_130b at h
  refine g_iload o dX12_copy_130 6 rfl ?_
  refine g_iload o dX12_copy_132 5 rfl ?_
  refine g_icmp_ge (tgt := 162) o dX12_copy_134 (by decide) (fun z => ?_) (fun z => ?_)
  · have h := (if_pos z).symm.trans h
    refine g_iconst (v := (0 : Int32)) o dX12_copy_162 (by decide) ?_
    refine g_istore (i := 7) (ls' := [(7, .int (0 : Int32)), (0, va_rf (some a0)), (1, .int v1), (2, .int v2), (3, .int v3), (4, .int v4), (5, .int v5)]) o dX12_copy_163 (ltL hL (by decide)) rfl ?_
    refine gsub [1, 4, 5, 6, 0] rfl ?_
    exact w_X12_copy_165 o hL hr hz hk0 hE hd h
  · have h := (if_neg z).symm.trans h
    refine g_aload_n o dX12_copy_137 0 rfl ?_
    refine g_getR o fl_X12_40 (rc_self hk0) (by decide) rfl dX12_copy_138 ?_
    refine g_iload o dX12_copy_141 6 rfl ?_
    refine g_aload_n o dX12_copy_143 0 rfl ?_
    refine g_iload_n o dX12_copy_144 1 rfl ?_
    refine g_bipush (v := (49 : Int32)) o dX12_copy_145 (by decide) ?_
    refine g_iload_n o dX12_copy_147 2 rfl ?_
    refine g_iadd o dX12_copy_148 ?_
    refine g_iload o dX12_copy_149 6 rfl ?_
    refine g_iadd o dX12_copy_151 ?_
    obtain ⟨x1, e2, h⟩ := ob h
    refine g_invV0 o (rc_self hk0) (by decide) ml_X12_43 kb_X12_of kv_X12_of rfl (c_X12_of (cq X) (cD X) (cY X) (cB X) (d := d) (by omega) (rc_at (rc_self hk0)).2 e2) rfl rfl (by simp [cat_i, cat_l, cat_rf]) dX12_copy_152 ?_
    obtain ⟨a3, e4, h⟩ := ob h
    refine g_iast o hz e4  dX12_copy_155 ?_
    obtain ⟨M5, e6, h⟩ := bn_at h
    refine g_mem e6 ?_
    refine g_iinc (i := 7) (v := v7 + 1) (ls' := [(7, .int (v7 + 1)), (0, va_rf (some a0)), (1, .int v1), (2, .int v2), (3, .int v3), (4, .int v4), (5, .int v5)]) o dX12_copy_156 6 rfl (by first | rfl | (congr 1)) (ltL hL (by decide)) rfl ?_
    refine g_goto (tgt := 130) o dX12_copy_159 (by decide) ?_
    refine gsub [1, 2, 3, 4, 5, 6, 0] rfl ?_
    exact hk130 _ _ _ _ _ _ _ h
theorem w_X12_copy_130_n {X : Cx} {d n : Nat} {K L : Nat → Nat} {fu : Nat} {a0 : Nat} {r : (Int32 × Mm)} (o : cOk X cX12_copy RX12 (d + 1)) (hL : cL X = 8) (hr : (ch X).sig.returnType = some .int) (hz : (cs X).heap.size + 0 = cB X + n) (hk0 : K a0 = 12) (hE : cE X n K L r.2 (some (.int r.1)) 0 0) (hd : 4 ≤ d + 1) : ∀ (g : Nat) (v1 : Int32) (v2 : Int32) (v3 : Int32) (v4 : Int32) (v5 : Int32) (v7 : Int32) (M : Mm), f_X12_copy_130 K L fu a0 g v1 v2 v3 v4 v5 v7 M = some r → gW X 0 0 n K L M 130 [(0, va_rf (some a0)), (1, .int v1), (2, .int v2), (3, .int v3), (4, .int v4), (5, .int v5), (7, .int v7)] []
  | 0, _, _, _, _, _, _, _, h => by cases h
  | g + 1, v1, v2, v3, v4, v5, v7, M, h => w_X12_copy_130b o hL hr hz hk0 hE (w_X12_copy_130_n o hL hr hz hk0 hE hd g) hd h
theorem w_X12_copy_130 {X : Cx} {d n : Nat} {K L : Nat → Nat} {fu : Nat} {a0 : Nat} {r : (Int32 × Mm)} {v1 : Int32} {v2 : Int32} {v3 : Int32} {v4 : Int32} {v5 : Int32} {v7 : Int32} {M : Mm} (o : cOk X cX12_copy RX12 (d + 1)) (hL : cL X = 8) (hr : (ch X).sig.returnType = some .int) (hz : (cs X).heap.size + 0 = cB X + n) (hk0 : K a0 = 12) (hE : cE X n K L r.2 (some (.int r.1)) 0 0) (hd : 4 ≤ d + 1) (h : f_X12_copy_130 K L fu a0 fu v1 v2 v3 v4 v5 v7 M = some r) : gW X 0 0 n K L M 130 [(0, va_rf (some a0)), (1, .int v1), (2, .int v2), (3, .int v3), (4, .int v4), (5, .int v5), (7, .int v7)] [] := w_X12_copy_130_n o hL hr hz hk0 hE hd fu v1 v2 v3 v4 v5 v7 M h
def f_X12_copy_120 (K L : Nat → Nat) (fu : Nat) (a0 : Nat) (M : Mm) : Option (Int32 × Mm) :=
  Option.bind (f_X12_no K L a0 (-6 : Int32) M) (fun x1 =>
  some (x1.1, x1.2))
set_option maxHeartbeats 4000000 in
theorem w_X12_copy_120 {X : Cx} {d n : Nat} {K L : Nat → Nat} {fu : Nat} {a0 : Nat} {r : (Int32 × Mm)} {M : Mm} (o : cOk X cX12_copy RX12 (d + 1)) (hL : cL X = 8) (hr : (ch X).sig.returnType = some .int) (hz : (cs X).heap.size + 0 = cB X + n) (hk0 : K a0 = 12) (hE : cE X n K L r.2 (some (.int r.1)) 0 0) (hd : 4 ≤ d + 1) (h : f_X12_copy_120 K L fu a0  M = some r) : gW X 0 0 n K L M 120 [(0, va_rf (some a0))] [] := by
  unfold f_X12_copy_120 at h
  refine g_aload_n o dX12_copy_120 0 rfl ?_
  refine g_bipush (v := (-6 : Int32)) o dX12_copy_121 (by decide) ?_
  obtain ⟨x1, e2, h⟩ := ob h
  refine g_invV0 o (rc_self hk0) (by decide) ml_X12_72 kb_X12_no kv_X12_no rfl (c_X12_no (cq X) (cD X) (cY X) (cB X) (d := d) (by omega) (rc_at (rc_self hk0)).2 e2) rfl rfl (by simp [cat_i, cat_l, cat_rf]) dX12_copy_123 ?_
  cases h
  exact g_iret o hr hE dX12_copy_126
def f_X12_copy_57 (K L : Nat → Nat) (fu : Nat) (a0 : Nat) (v1 : Int32) (v2 : Int32) (v3 : Int32) (v4 : Int32) (v5 : Int32) (v6 : Int32) (M : Mm) : Option (Int32 × Mm) :=
  if v6 = 0 then
    if v5 < 0 then
      f_X12_copy_120 K L fu a0 M
    else
      if v2 < 0 then
        f_X12_copy_120 K L fu a0 M
      else
        if v4 < 0 then
          f_X12_copy_120 K L fu a0 M
        else
          Option.bind (f_X12_of K L M a0 v1 (48 : Int32)) (fun x1 =>
          if 0 < (lg_cmp ((v2.toInt64) + (v5.toInt64)) (x1.toInt64)) then
            f_X12_copy_120 K L fu a0 M
          else
            Option.bind (f_X12_of K L M a0 v3 (48 : Int32)) (fun x3 =>
            if (lg_cmp ((v4.toInt64) + (v5.toInt64)) (x3.toInt64)) ≤ 0 then
              f_X12_copy_130 K L fu a0 fu v1 v2 v3 v4 v5 (0 : Int32) M
            else
              f_X12_copy_120 K L fu a0 M))
  else
    Option.bind (f_X12_no K L a0 v6 M) (fun x5 =>
    some (x5.1, x5.2))
set_option maxHeartbeats 4000000 in
theorem w_X12_copy_57 {X : Cx} {d n : Nat} {K L : Nat → Nat} {fu : Nat} {a0 : Nat} {r : (Int32 × Mm)} {v1 : Int32} {v2 : Int32} {v3 : Int32} {v4 : Int32} {v5 : Int32} {v6 : Int32} {M : Mm} (o : cOk X cX12_copy RX12 (d + 1)) (hL : cL X = 8) (hr : (ch X).sig.returnType = some .int) (hz : (cs X).heap.size + 0 = cB X + n) (hk0 : K a0 = 12) (hE : cE X n K L r.2 (some (.int r.1)) 0 0) (hd : 4 ≤ d + 1) (h : f_X12_copy_57 K L fu a0 v1 v2 v3 v4 v5 v6 M = some r) : gW X 0 0 n K L M 57 [(0, va_rf (some a0)), (1, .int v1), (2, .int v2), (3, .int v3), (4, .int v4), (5, .int v5), (6, .int v6)] [] := by
  unfold f_X12_copy_57 at h
  refine g_iload o dX12_copy_57 6 rfl ?_
  refine g_if_eq (tgt := 69) o dX12_copy_59 (by decide) (fun z => ?_) (fun z => ?_)
  · have h := (if_pos z).symm.trans h
    refine g_iload o dX12_copy_69 5 rfl ?_
    refine g_if_lt (tgt := 120) o dX12_copy_71 (by decide) (fun z => ?_) (fun z => ?_)
    · have h := (if_pos z).symm.trans h
      refine gsub [0] rfl ?_
      exact w_X12_copy_120 o hL hr hz hk0 hE hd h
    · have h := (if_neg z).symm.trans h
      refine g_iload_n o dX12_copy_74 2 rfl ?_
      refine g_if_lt (tgt := 120) o dX12_copy_75 (by decide) (fun z => ?_) (fun z => ?_)
      · have h := (if_pos z).symm.trans h
        refine gsub [0] rfl ?_
        exact w_X12_copy_120 o hL hr hz hk0 hE hd h
      · have h := (if_neg z).symm.trans h
        refine g_iload o dX12_copy_78 4 rfl ?_
        refine g_if_lt (tgt := 120) o dX12_copy_80 (by decide) (fun z => ?_) (fun z => ?_)
        · have h := (if_pos z).symm.trans h
          refine gsub [0] rfl ?_
          exact w_X12_copy_120 o hL hr hz hk0 hE hd h
        · have h := (if_neg z).symm.trans h
          refine g_iload_n o dX12_copy_83 2 rfl ?_
          refine g_i2l o dX12_copy_84 ?_
          refine g_iload o dX12_copy_85 5 rfl ?_
          refine g_i2l o dX12_copy_87 ?_
          refine g_ladd o dX12_copy_88 ?_
          refine g_aload_n o dX12_copy_89 0 rfl ?_
          refine g_iload_n o dX12_copy_90 1 rfl ?_
          refine g_bipush (v := (48 : Int32)) o dX12_copy_91 (by decide) ?_
          obtain ⟨x1, e2, h⟩ := ob h
          refine g_invV0 o (rc_self hk0) (by decide) ml_X12_43 kb_X12_of kv_X12_of rfl (c_X12_of (cq X) (cD X) (cY X) (cB X) (d := d) (by omega) (rc_at (rc_self hk0)).2 e2) rfl rfl (by simp [cat_i, cat_l, cat_rf]) dX12_copy_93 ?_
          refine g_i2l o dX12_copy_96 ?_
          refine g_lcmp o dX12_copy_97 ?_
          refine g_if_gt (tgt := 120) o dX12_copy_98 (by decide) (fun z => ?_) (fun z => ?_)
          · have h := (if_pos z).symm.trans h
            refine gsub [0] rfl ?_
            exact w_X12_copy_120 o hL hr hz hk0 hE hd h
          · have h := (if_neg z).symm.trans h
            refine g_iload o dX12_copy_101 4 rfl ?_
            refine g_i2l o dX12_copy_103 ?_
            refine g_iload o dX12_copy_104 5 rfl ?_
            refine g_i2l o dX12_copy_106 ?_
            refine g_ladd o dX12_copy_107 ?_
            refine g_aload_n o dX12_copy_108 0 rfl ?_
            refine g_iload_n o dX12_copy_109 3 rfl ?_
            refine g_bipush (v := (48 : Int32)) o dX12_copy_110 (by decide) ?_
            obtain ⟨x3, e4, h⟩ := ob h
            refine g_invV0 o (rc_self hk0) (by decide) ml_X12_43 kb_X12_of kv_X12_of rfl (c_X12_of (cq X) (cD X) (cY X) (cB X) (d := d) (by omega) (rc_at (rc_self hk0)).2 e4) rfl rfl (by simp [cat_i, cat_l, cat_rf]) dX12_copy_112 ?_
            refine g_i2l o dX12_copy_115 ?_
            refine g_lcmp o dX12_copy_116 ?_
            refine g_if_le (tgt := 127) o dX12_copy_117 (by decide) (fun z => ?_) (fun z => ?_)
            · have h := (if_pos z).symm.trans h
              refine g_iconst (v := (0 : Int32)) o dX12_copy_127 (by decide) ?_
              refine g_istore (i := 7) (ls' := [(7, .int (0 : Int32)), (0, va_rf (some a0)), (1, .int v1), (2, .int v2), (3, .int v3), (4, .int v4), (5, .int v5), (6, .int v6)]) o dX12_copy_128 (ltL hL (by decide)) rfl ?_
              refine gsub [1, 2, 3, 4, 5, 6, 0] rfl ?_
              exact w_X12_copy_130 o hL hr hz hk0 hE hd h
            · have h := (if_neg z).symm.trans h
              refine gsub [0] rfl ?_
              exact w_X12_copy_120 o hL hr hz hk0 hE hd h
  · have h := (if_neg z).symm.trans h
    refine g_aload_n o dX12_copy_62 0 rfl ?_
    refine g_iload o dX12_copy_63 6 rfl ?_
    obtain ⟨x5, e6, h⟩ := ob h
    refine g_invV0 o (rc_self hk0) (by decide) ml_X12_72 kb_X12_no kv_X12_no rfl (c_X12_no (cq X) (cD X) (cY X) (cB X) (d := d) (by omega) (rc_at (rc_self hk0)).2 e6) rfl rfl (by simp [cat_i, cat_l, cat_rf]) dX12_copy_65 ?_
    cases h
    exact g_iret o hr hE dX12_copy_68
def f_X12_copy_38 (K L : Nat → Nat) (fu : Nat) (a0 : Nat) (v1 : Int32) (v2 : Int32) (v3 : Int32) (v4 : Int32) (v5 : Int32) (v6 : Int32) (M : Mm) : Option (Int32 × Mm) :=
  if v6 = 0 then
    Option.bind (f_X12_of K L M a0 v3 (69 : Int32)) (fun x1 =>
    if x1 < 0 then
      f_X12_copy_57 K L fu a0 v1 v2 v3 v4 v5 v6 M
    else
      f_X12_copy_57 K L fu a0 v1 v2 v3 v4 v5 (-12 : Int32) M)
  else
    f_X12_copy_57 K L fu a0 v1 v2 v3 v4 v5 v6 M
set_option maxHeartbeats 4000000 in
theorem w_X12_copy_38 {X : Cx} {d n : Nat} {K L : Nat → Nat} {fu : Nat} {a0 : Nat} {r : (Int32 × Mm)} {v1 : Int32} {v2 : Int32} {v3 : Int32} {v4 : Int32} {v5 : Int32} {v6 : Int32} {M : Mm} (o : cOk X cX12_copy RX12 (d + 1)) (hL : cL X = 8) (hr : (ch X).sig.returnType = some .int) (hz : (cs X).heap.size + 0 = cB X + n) (hk0 : K a0 = 12) (hE : cE X n K L r.2 (some (.int r.1)) 0 0) (hd : 4 ≤ d + 1) (h : f_X12_copy_38 K L fu a0 v1 v2 v3 v4 v5 v6 M = some r) : gW X 0 0 n K L M 38 [(0, va_rf (some a0)), (1, .int v1), (2, .int v2), (3, .int v3), (4, .int v4), (5, .int v5), (6, .int v6)] [] := by
  unfold f_X12_copy_38 at h
  refine g_iload o dX12_copy_38 6 rfl ?_
  refine g_if_ne (tgt := 57) o dX12_copy_40 (by decide) (fun z => ?_) (fun z => ?_)
  · have h := (if_neg z).symm.trans h
    exact w_X12_copy_57 o hL hr hz hk0 hE hd h
  · have h := (if_pos z).symm.trans h
    refine g_aload_n o dX12_copy_43 0 rfl ?_
    refine g_iload_n o dX12_copy_44 3 rfl ?_
    refine g_bipush (v := (69 : Int32)) o dX12_copy_45 (by decide) ?_
    obtain ⟨x1, e2, h⟩ := ob h
    refine g_invV0 o (rc_self hk0) (by decide) ml_X12_43 kb_X12_of kv_X12_of rfl (c_X12_of (cq X) (cD X) (cY X) (cB X) (d := d) (by omega) (rc_at (rc_self hk0)).2 e2) rfl rfl (by simp [cat_i, cat_l, cat_rf]) dX12_copy_47 ?_
    refine g_if_lt (tgt := 57) o dX12_copy_50 (by decide) (fun z => ?_) (fun z => ?_)
    · have h := (if_pos z).symm.trans h
      exact w_X12_copy_57 o hL hr hz hk0 hE hd h
    · have h := (if_neg z).symm.trans h
      refine g_bipush (v := (-12 : Int32)) o dX12_copy_53 (by decide) ?_
      refine g_istore (i := 6) (ls' := [(6, .int (-12 : Int32)), (0, va_rf (some a0)), (1, .int v1), (2, .int v2), (3, .int v3), (4, .int v4), (5, .int v5)]) o dX12_copy_55 (ltL hL (by decide)) rfl ?_
      refine gsub [1, 2, 3, 4, 5, 6, 0] rfl ?_
      exact w_X12_copy_57 o hL hr hz hk0 hE hd h
def f_X12_copy_34 (K L : Nat → Nat) (fu : Nat) (a0 : Nat) (v1 : Int32) (v2 : Int32) (v3 : Int32) (v4 : Int32) (v5 : Int32) (M : Mm) : Option (Int32 × Mm) :=
  f_X12_copy_38 K L fu a0 v1 v2 v3 v4 v5 (-2 : Int32) M
set_option maxHeartbeats 4000000 in
theorem w_X12_copy_34 {X : Cx} {d n : Nat} {K L : Nat → Nat} {fu : Nat} {a0 : Nat} {r : (Int32 × Mm)} {v1 : Int32} {v2 : Int32} {v3 : Int32} {v4 : Int32} {v5 : Int32} {M : Mm} (o : cOk X cX12_copy RX12 (d + 1)) (hL : cL X = 8) (hr : (ch X).sig.returnType = some .int) (hz : (cs X).heap.size + 0 = cB X + n) (hk0 : K a0 = 12) (hE : cE X n K L r.2 (some (.int r.1)) 0 0) (hd : 4 ≤ d + 1) (h : f_X12_copy_34 K L fu a0 v1 v2 v3 v4 v5 M = some r) : gW X 0 0 n K L M 34 [(0, va_rf (some a0)), (1, .int v1), (2, .int v2), (3, .int v3), (4, .int v4), (5, .int v5)] [] := by
  unfold f_X12_copy_34 at h
  refine g_bipush (v := (-2 : Int32)) o dX12_copy_34 (by decide) ?_
  refine g_istore (i := 6) (ls' := [(6, .int (-2 : Int32)), (0, va_rf (some a0)), (1, .int v1), (2, .int v2), (3, .int v3), (4, .int v4), (5, .int v5)]) o dX12_copy_36 (ltL hL (by decide)) rfl ?_
  refine gsub [1, 2, 3, 4, 5, 6, 0] rfl ?_
  exact w_X12_copy_38 o hL hr hz hk0 hE hd h
def f_X12_copy (K L : Nat → Nat) (fu : Nat) (a0 : Nat) (v1 : Int32) (v2 : Int32) (v3 : Int32) (v4 : Int32) (v5 : Int32) (M : Mm) : Option (Int32 × Mm) :=
  Option.bind (f_X12_whyTwo K L M a0 v1 v3 (1 : Int32)) (fun x1 =>
  if x1 = 0 then
    Option.bind (f_X12_of K L M a0 v1 (48 : Int32)) (fun x3 =>
    if x3 = 0 then
      f_X12_copy_34 K L fu a0 v1 v2 v3 v4 v5 M
    else
      Option.bind (f_X12_of K L M a0 v3 (48 : Int32)) (fun x5 =>
      if x5 = 0 then
        f_X12_copy_34 K L fu a0 v1 v2 v3 v4 v5 M
      else
        f_X12_copy_38 K L fu a0 v1 v2 v3 v4 v5 x1 M))
  else
    f_X12_copy_38 K L fu a0 v1 v2 v3 v4 v5 x1 M)
set_option maxHeartbeats 4000000 in
theorem w_X12_copy_0 {X : Cx} {d n : Nat} {K L : Nat → Nat} {fu : Nat} {a0 : Nat} {r : (Int32 × Mm)} {v1 : Int32} {v2 : Int32} {v3 : Int32} {v4 : Int32} {v5 : Int32} {M : Mm} (o : cOk X cX12_copy RX12 (d + 1)) (hL : cL X = 8) (hr : (ch X).sig.returnType = some .int) (hz : (cs X).heap.size + 0 = cB X + n) (hk0 : K a0 = 12) (hE : cE X n K L r.2 (some (.int r.1)) 0 0) (hd : 4 ≤ d + 1) (h : f_X12_copy K L fu a0 v1 v2 v3 v4 v5 M = some r) : gW X 0 0 n K L M 0 [(0, va_rf (some a0)), (1, .int v1), (2, .int v2), (3, .int v3), (4, .int v4), (5, .int v5)] [] := by
  unfold f_X12_copy at h
  refine g_aload_n o dX12_copy_0 0 rfl ?_
  refine g_iload_n o dX12_copy_1 1 rfl ?_
  refine g_iload_n o dX12_copy_2 3 rfl ?_
  refine g_iconst (v := (1 : Int32)) o dX12_copy_3 (by decide) ?_
  obtain ⟨x1, e2, h⟩ := ob h
  refine g_invV0 o (rc_self hk0) (by decide) ml_X12_163 kb_X12_whyTwo kv_X12_whyTwo rfl (c_X12_whyTwo (cq X) (cD X) (cY X) (cB X) (d := d) (by omega) (rc_at (rc_self hk0)).2 e2) rfl rfl (by simp [cat_i, cat_l, cat_rf]) dX12_copy_4 ?_
  refine g_istore (i := 6) (ls' := [(6, .int x1), (0, va_rf (some a0)), (1, .int v1), (2, .int v2), (3, .int v3), (4, .int v4), (5, .int v5)]) o dX12_copy_7 (ltL hL (by decide)) rfl ?_
  refine g_iload o dX12_copy_9 0 rfl ?_
  refine g_if_ne (tgt := 38) o dX12_copy_11 (by decide) (fun z => ?_) (fun z => ?_)
  · have h := (if_neg z).symm.trans h
    refine gsub [1, 2, 3, 4, 5, 6, 0] rfl ?_
    exact w_X12_copy_38 o hL hr hz hk0 hE hd h
  · have h := (if_pos z).symm.trans h
    refine g_aload_n o dX12_copy_14 1 rfl ?_
    refine g_iload_n o dX12_copy_15 2 rfl ?_
    refine g_bipush (v := (48 : Int32)) o dX12_copy_16 (by decide) ?_
    obtain ⟨x3, e4, h⟩ := ob h
    refine g_invV0 o (rc_self hk0) (by decide) ml_X12_43 kb_X12_of kv_X12_of rfl (c_X12_of (cq X) (cD X) (cY X) (cB X) (d := d) (by omega) (rc_at (rc_self hk0)).2 e4) rfl rfl (by simp [cat_i, cat_l, cat_rf]) dX12_copy_18 ?_
    refine g_if_eq (tgt := 34) o dX12_copy_21 (by decide) (fun z => ?_) (fun z => ?_)
    · have h := (if_pos z).symm.trans h
      refine gsub [1, 2, 3, 4, 5, 6] rfl ?_
      exact w_X12_copy_34 o hL hr hz hk0 hE hd h
    · have h := (if_neg z).symm.trans h
      refine g_aload_n o dX12_copy_24 1 rfl ?_
      refine g_iload_n o dX12_copy_25 4 rfl ?_
      refine g_bipush (v := (48 : Int32)) o dX12_copy_26 (by decide) ?_
      obtain ⟨x5, e6, h⟩ := ob h
      refine g_invV0 o (rc_self hk0) (by decide) ml_X12_43 kb_X12_of kv_X12_of rfl (c_X12_of (cq X) (cD X) (cY X) (cB X) (d := d) (by omega) (rc_at (rc_self hk0)).2 e6) rfl rfl (by simp [cat_i, cat_l, cat_rf]) dX12_copy_28 ?_
      refine g_if_ne (tgt := 38) o dX12_copy_31 (by decide) (fun z => ?_) (fun z => ?_)
      · have h := (if_neg z).symm.trans h
        refine gsub [1, 2, 3, 4, 5, 6, 0] rfl ?_
        exact w_X12_copy_38 o hL hr hz hk0 hE hd h
      · have h := (if_pos z).symm.trans h
        refine gsub [1, 2, 3, 4, 5, 6] rfl ?_
        exact w_X12_copy_34 o hL hr hz hk0 hE hd h
theorem c_X12_copy (l : Launch) (D : va_G) (Y : Nat → ClassId) (B : Nat) {d : Nat} {n : Nat} {K L : Nat → Nat} {fu : Nat} {M : Mm} {a0 : Nat} {v1 : Int32} {v2 : Int32} {v3 : Int32} {v4 : Int32} {v5 : Int32} {r : (Int32 × Mm)} (hd : 4 ≤ d) (hk0 : K a0 = 12) (h : f_X12_copy K L fu a0 v1 v2 v3 v4 v5 M = some r) : mC l D Y B d yX12_copy cX12_copy 8 (some .int) [va_rf (some a0), .int v1, .int v2, .int v3, .int v4, .int v5] n K L M n K L r.2 (some (.int r.1)) 0 0 := by
  obtain ⟨d, rfl⟩ : ∃ e, d = e + 1 := ⟨d - 1, by omega⟩
  refine mk_met (by decide) (by simp [lgs_r, lgs_i, lgs_l, lgs_n]) (fun X e1 e2 e3 e4 o hL hr hnm hz hc hs hE => ?_)
  subst e1 e2 e3 e4
  rw [show lv_args 0 [va_rf (some a0), .int v1, .int v2, .int v3, .int v4, .int v5] = [(0, va_rf (some a0)), (1, .int v1), (2, .int v2), (3, .int v3), (4, .int v4), (5, .int v5)] by simp [lva_r, lva_i, lva_l, lva_n]]
  exact w_X12_copy_0 o hL hr hz hk0 hE hd h
def f_X12_minuteAt  (v0 : Int32) (v1 : Int32) : Option Int32 :=
  some ((100 : Int32) + ((4 : Int32) * (((240 : Int32) * v0) + v1)))
set_option maxHeartbeats 4000000 in
theorem w_X12_minuteAt_0 {X : Cx} {d n : Nat} {K L : Nat → Nat} {M : Mm} {r : Int32} {v0 : Int32} {v1 : Int32} (o : cOk X cX12_minuteAt RX12 d) (hL : cL X = 2) (hr : (ch X).sig.returnType = some .int) (hE : cE X n K L M (some (.int r)) 0 0) (h : f_X12_minuteAt  v0 v1 = some r) : gW X 0 0 n K L M 0 [(0, .int v0), (1, .int v1)] [] := by
  unfold f_X12_minuteAt at h
  refine g_bipush (v := (100 : Int32)) o dX12_minuteAt_0 (by decide) ?_
  refine g_iconst (v := (4 : Int32)) o dX12_minuteAt_2 (by decide) ?_
  refine g_sipush (v := (240 : Int32)) o dX12_minuteAt_3 (by decide) ?_
  refine g_iload_n o dX12_minuteAt_6 0 rfl ?_
  refine g_imul o dX12_minuteAt_7 ?_
  refine g_iload_n o dX12_minuteAt_8 1 rfl ?_
  refine g_iadd o dX12_minuteAt_9 ?_
  refine g_imul o dX12_minuteAt_10 ?_
  refine g_iadd o dX12_minuteAt_11 ?_
  cases h
  exact g_iret o hr hE dX12_minuteAt_12
theorem c_X12_minuteAt (l : Launch) (D : va_G) (Y : Nat → ClassId) (B : Nat) {d : Nat} {n : Nat} {K L : Nat → Nat} {M : Mm} {v0 : Int32} {v1 : Int32} {r : Int32} (hd : 0 ≤ d) (h : f_X12_minuteAt  v0 v1 = some r) : mC l D Y B d yX12_minuteAt cX12_minuteAt 2 (some .int) [.int v0, .int v1] n K L M n K L M (some (.int r)) 0 0 := by
  refine mk_met (by decide) (by simp [lgs_r, lgs_i, lgs_l, lgs_n]) (fun X e1 e2 e3 e4 o hL hr hnm hz hc hs hE => ?_)
  subst e1 e2 e3 e4
  rw [show lv_args 0 [.int v0, .int v1] = [(0, .int v0), (1, .int v1)] by simp [lva_r, lva_i, lva_l, lva_n]]
  exact w_X12_minuteAt_0 o hL hr hE h
def f_X12_window_80 (K L : Nat → Nat) (fu : Nat) (k32 : Int32 → Int32 → Int32 → Mm → Option Mm) (a0 : Nat) (v1 : Int32) (v2 : Int32) (v3 : Int32) (v4 : Int32) (s0 : Int32) (s1 : (Option Nat)) (M : Mm) : Option Mm :=
  Option.bind (rc K s1 12) (fun a1 =>
  Option.bind (zb s0) (fun u4 =>
  bn (ms_I M (32 * 12 + 16) a1 s0) (fun M5 =>
  Option.bind (f_X12_of K L M5 a0 v1 (v4 + (1 : Int32))) (fun x7 =>
  bn (ms_J M5 (32 * 12 + 17) a0 ((mm_J M5 (32 * 12 + 17) a0) + (x7.toInt64))) (fun M9 =>
  Option.bind (f_X12_of K L M9 a0 v1 (v4 + (2 : Int32))) (fun x11 =>
  bn (ms_J M9 (32 * 12 + 18) a0 ((mm_J M9 (32 * 12 + 18) a0) + (x11.toInt64))) (fun M13 =>
  k32 v1 v2 (v3 + (-1)) M13)))))))
set_option maxHeartbeats 4000000 in
theorem w_X12_window_80 {X : Cx} {d n : Nat} {K L : Nat → Nat} {fu : Nat} {a0 : Nat} {r : Mm} {k32 : Int32 → Int32 → Int32 → Mm → Option Mm} {v1 : Int32} {v2 : Int32} {v3 : Int32} {v4 : Int32} {s0 : Int32} {s1 : (Option Nat)} {M : Mm} (o : cOk X cX12_window RX12 (d + 1)) (hL : cL X = 5) (hr : (ch X).sig.returnType = none) (hz : (cs X).heap.size + 0 = cB X + n) (hk0 : K a0 = 12) (hE : cE X n K L r none 0 0) (hk32 : ∀ (v1 : Int32) (v2 : Int32) (v3 : Int32) (M : Mm), k32 v1 v2 v3 M = some r → gW X 0 0 n K L M 32 [(0, va_rf (some a0)), (1, .int v1), (2, .int v2), (3, .int v3)] []) (hd : 1 ≤ d + 1) (h : f_X12_window_80 K L fu k32 a0 v1 v2 v3 v4 s0 s1 M = some r) : gW X 0 0 n K L M 80 [(0, va_rf (some a0)), (1, .int v1), (2, .int v2), (3, .int v3), (4, .int v4)] [.int s0, va_rf s1] := by
  unfold f_X12_window_80 at h
  obtain ⟨a1, e2, h⟩ := ob h
  obtain ⟨u4, e3, h⟩ := ob h
  refine g_putZ o hz fl_X12_167 e2 (by decide) rfl rfl rfl (zb_at e3) dX12_window_80 ?_
  obtain ⟨M5, e6, h⟩ := bn_at h
  refine g_mem e6 ?_
  refine g_aload_n o dX12_window_83 0 rfl ?_
  refine g_dup o dX12_window_84 (cat_rf _) ?_
  refine g_getJ o fl_X12_171 (rc_self hk0) (by decide) rfl dX12_window_85 ?_
  refine g_aload_n o dX12_window_88 0 rfl ?_
  refine g_iload_n o dX12_window_89 1 rfl ?_
  refine g_iload o dX12_window_90 4 rfl ?_
  refine g_iconst (v := (1 : Int32)) o dX12_window_92 (by decide) ?_
  refine g_iadd o dX12_window_93 ?_
  obtain ⟨x7, e8, h⟩ := ob h
  refine g_invV0 o (rc_self hk0) (by decide) ml_X12_43 kb_X12_of kv_X12_of rfl (c_X12_of (cq X) (cD X) (cY X) (cB X) (d := d) (by omega) (rc_at (rc_self hk0)).2 e8) rfl rfl (by simp [cat_i, cat_l, cat_rf]) dX12_window_94 ?_
  refine g_i2l o dX12_window_97 ?_
  refine g_ladd o dX12_window_98 ?_
  refine g_putJ o hz fl_X12_171 (rc_self hk0) (by decide) rfl rfl rfl  dX12_window_99 ?_
  obtain ⟨M9, e10, h⟩ := bn_at h
  refine g_mem e10 ?_
  refine g_aload_n o dX12_window_102 0 rfl ?_
  refine g_dup o dX12_window_103 (cat_rf _) ?_
  refine g_getJ o fl_X12_175 (rc_self hk0) (by decide) rfl dX12_window_104 ?_
  refine g_aload_n o dX12_window_107 0 rfl ?_
  refine g_iload_n o dX12_window_108 1 rfl ?_
  refine g_iload o dX12_window_109 4 rfl ?_
  refine g_iconst (v := (2 : Int32)) o dX12_window_111 (by decide) ?_
  refine g_iadd o dX12_window_112 ?_
  obtain ⟨x11, e12, h⟩ := ob h
  refine g_invV0 o (rc_self hk0) (by decide) ml_X12_43 kb_X12_of kv_X12_of rfl (c_X12_of (cq X) (cD X) (cY X) (cB X) (d := d) (by omega) (rc_at (rc_self hk0)).2 e12) rfl rfl (by simp [cat_i, cat_l, cat_rf]) dX12_window_113 ?_
  refine g_i2l o dX12_window_116 ?_
  refine g_ladd o dX12_window_117 ?_
  refine g_putJ o hz fl_X12_175 (rc_self hk0) (by decide) rfl rfl rfl  dX12_window_118 ?_
  obtain ⟨M13, e14, h⟩ := bn_at h
  refine g_mem e14 ?_
  refine g_iinc (i := 3) (v := v3 + (-1)) (ls' := [(3, .int (v3 + (-1))), (0, va_rf (some a0)), (1, .int v1), (2, .int v2), (4, .int v4)]) o dX12_window_121 3 rfl (by first | rfl | (congr 1)) (ltL hL (by decide)) rfl ?_
  refine g_goto (tgt := 32) o dX12_window_124 (by decide) ?_
  refine gsub [1, 2, 3, 0] rfl ?_
  exact hk32 _ _ _ _ h
def f_X12_window_79 (K L : Nat → Nat) (fu : Nat) (k32 : Int32 → Int32 → Int32 → Mm → Option Mm) (a0 : Nat) (v1 : Int32) (v2 : Int32) (v3 : Int32) (v4 : Int32) (s0 : (Option Nat)) (M : Mm) : Option Mm :=
  f_X12_window_80 K L fu k32 a0 v1 v2 v3 v4 (0 : Int32) s0 M
set_option maxHeartbeats 4000000 in
theorem w_X12_window_79 {X : Cx} {d n : Nat} {K L : Nat → Nat} {fu : Nat} {a0 : Nat} {r : Mm} {k32 : Int32 → Int32 → Int32 → Mm → Option Mm} {v1 : Int32} {v2 : Int32} {v3 : Int32} {v4 : Int32} {s0 : (Option Nat)} {M : Mm} (o : cOk X cX12_window RX12 (d + 1)) (hL : cL X = 5) (hr : (ch X).sig.returnType = none) (hz : (cs X).heap.size + 0 = cB X + n) (hk0 : K a0 = 12) (hE : cE X n K L r none 0 0) (hk32 : ∀ (v1 : Int32) (v2 : Int32) (v3 : Int32) (M : Mm), k32 v1 v2 v3 M = some r → gW X 0 0 n K L M 32 [(0, va_rf (some a0)), (1, .int v1), (2, .int v2), (3, .int v3)] []) (hd : 1 ≤ d + 1) (h : f_X12_window_79 K L fu k32 a0 v1 v2 v3 v4 s0 M = some r) : gW X 0 0 n K L M 79 [(0, va_rf (some a0)), (1, .int v1), (2, .int v2), (3, .int v3), (4, .int v4)] [va_rf s0] := by
  unfold f_X12_window_79 at h
  refine g_iconst (v := (0 : Int32)) o dX12_window_79 (by decide) ?_
  exact w_X12_window_80 o hL hr hz hk0 hE hk32 hd h
def f_X12_window_32b (K L : Nat → Nat) (fu : Nat) (k32 : Int32 → Int32 → Int32 → Mm → Option Mm) (a0 : Nat) (v1 : Int32) (v2 : Int32) (v3 : Int32) (M : Mm) : Option Mm :=
  if v3 < 0 then
    some M
  else
    Option.bind (f_X12_of K L M a0 v1 (70 : Int32)) (fun x1 =>
    if v3 ≤ (v2 - x1) then
      some M
    else
      Option.bind (f_X12_minuteAt (1 : Int32) v3) (fun x3 =>
      if (mm_I M (32 * 12 + 16) a0) = 0 then
        f_X12_window_79 K L fu k32 a0 v1 v2 v3 x3 (some a0) M
      else
        Option.bind (f_X12_of K L M a0 v1 x3) (fun x5 =>
        if x5 = (1 : Int32) then
          f_X12_window_80 K L fu k32 a0 v1 v2 v3 x3 (1 : Int32) (some a0) M
        else
          f_X12_window_79 K L fu k32 a0 v1 v2 v3 x3 (some a0) M)))
def f_X12_window_32 (K L : Nat → Nat) (fu : Nat) (a0 : Nat) : Nat → Int32 → Int32 → Int32 → Mm → Option Mm
  | 0, _, _, _, _ => none
  | g + 1, v1, v2, v3, M => f_X12_window_32b K L fu (f_X12_window_32 K L fu a0 g) a0 v1 v2 v3 M
set_option maxHeartbeats 4000000 in
theorem w_X12_window_32b {X : Cx} {d n : Nat} {K L : Nat → Nat} {fu : Nat} {a0 : Nat} {r : Mm} {k32 : Int32 → Int32 → Int32 → Mm → Option Mm} {v1 : Int32} {v2 : Int32} {v3 : Int32} {M : Mm} (o : cOk X cX12_window RX12 (d + 1)) (hL : cL X = 5) (hr : (ch X).sig.returnType = none) (hz : (cs X).heap.size + 0 = cB X + n) (hk0 : K a0 = 12) (hE : cE X n K L r none 0 0) (hk32 : ∀ (v1 : Int32) (v2 : Int32) (v3 : Int32) (M : Mm), k32 v1 v2 v3 M = some r → gW X 0 0 n K L M 32 [(0, va_rf (some a0)), (1, .int v1), (2, .int v2), (3, .int v3)] []) (hd : 1 ≤ d + 1) (h : f_X12_window_32b K L fu k32 a0 v1 v2 v3 M = some r) : gW X 0 0 n K L M 32 [(0, va_rf (some a0)), (1, .int v1), (2, .int v2), (3, .int v3)] [] := by
  unfold f_X12_window_32b at h
  refine g_iload_n o dX12_window_32 3 rfl ?_
  refine g_if_lt (tgt := 127) o dX12_window_33 (by decide) (fun z => ?_) (fun z => ?_)
  · have h := (if_pos z).symm.trans h
    cases h
    exact g_vret o hr hE dX12_window_127
  · have h := (if_neg z).symm.trans h
    refine g_iload_n o dX12_window_36 3 rfl ?_
    refine g_iload_n o dX12_window_37 2 rfl ?_
    refine g_aload_n o dX12_window_38 0 rfl ?_
    refine g_iload_n o dX12_window_39 1 rfl ?_
    refine g_bipush (v := (70 : Int32)) o dX12_window_40 (by decide) ?_
    obtain ⟨x1, e2, h⟩ := ob h
    refine g_invV0 o (rc_self hk0) (by decide) ml_X12_43 kb_X12_of kv_X12_of rfl (c_X12_of (cq X) (cD X) (cY X) (cB X) (d := d) (by omega) (rc_at (rc_self hk0)).2 e2) rfl rfl (by simp [cat_i, cat_l, cat_rf]) dX12_window_42 ?_
    refine g_isub o dX12_window_45 ?_
    refine g_icmp_le (tgt := 127) o dX12_window_46 (by decide) (fun z => ?_) (fun z => ?_)
    · have h := (if_pos z).symm.trans h
      cases h
      exact g_vret o hr hE dX12_window_127
    · have h := (if_neg z).symm.trans h
      refine g_iconst (v := (1 : Int32)) o dX12_window_49 (by decide) ?_
      refine g_iload_n o dX12_window_50 3 rfl ?_
      obtain ⟨x3, e4, h⟩ := ob h
      refine g_invS0 o ml_X12_178 kb_X12_minuteAt ks_X12_minuteAt (c_X12_minuteAt (cq X) (cD X) (cY X) (cB X) (d := d) (by omega) e4) rfl rfl (by simp [cat_i, cat_l, cat_rf]) dX12_window_51 ?_
      refine g_istore (i := 4) (ls' := [(4, .int x3), (0, va_rf (some a0)), (1, .int v1), (2, .int v2), (3, .int v3)]) o dX12_window_54 (ltL hL (by decide)) rfl ?_
      refine g_aload_n o dX12_window_56 1 rfl ?_
      refine g_aload_n o dX12_window_57 1 rfl ?_
      refine g_getI o fl_X12_167 (rc_self hk0) (by decide) rfl dX12_window_58 ?_
      refine g_if_eq (tgt := 79) o dX12_window_61 (by decide) (fun z => ?_) (fun z => ?_)
      · have h := (if_pos z).symm.trans h
        refine gsub [1, 2, 3, 4, 0] rfl ?_
        exact w_X12_window_79 o hL hr hz hk0 hE hk32 hd h
      · have h := (if_neg z).symm.trans h
        refine g_aload_n o dX12_window_64 1 rfl ?_
        refine g_iload_n o dX12_window_65 2 rfl ?_
        refine g_iload o dX12_window_66 0 rfl ?_
        obtain ⟨x5, e6, h⟩ := ob h
        refine g_invV0 o (rc_self hk0) (by decide) ml_X12_43 kb_X12_of kv_X12_of rfl (c_X12_of (cq X) (cD X) (cY X) (cB X) (d := d) (by omega) (rc_at (rc_self hk0)).2 e6) rfl rfl (by simp [cat_i, cat_l, cat_rf]) dX12_window_68 ?_
        refine g_iconst (v := (1 : Int32)) o dX12_window_71 (by decide) ?_
        refine g_icmp_ne (tgt := 79) o dX12_window_72 (by decide) (fun z => ?_) (fun z => ?_)
        · have h := (if_neg z).symm.trans h
          refine gsub [1, 2, 3, 4, 0] rfl ?_
          exact w_X12_window_79 o hL hr hz hk0 hE hk32 hd h
        · have h := (if_pos z).symm.trans h
          refine g_iconst (v := (1 : Int32)) o dX12_window_75 (by decide) ?_
          refine g_goto (tgt := 80) o dX12_window_76 (by decide) ?_
          refine gsub [1, 2, 3, 4, 0] rfl ?_
          exact w_X12_window_80 o hL hr hz hk0 hE hk32 hd h
theorem w_X12_window_32_n {X : Cx} {d n : Nat} {K L : Nat → Nat} {fu : Nat} {a0 : Nat} {r : Mm} (o : cOk X cX12_window RX12 (d + 1)) (hL : cL X = 5) (hr : (ch X).sig.returnType = none) (hz : (cs X).heap.size + 0 = cB X + n) (hk0 : K a0 = 12) (hE : cE X n K L r none 0 0) (hd : 1 ≤ d + 1) : ∀ (g : Nat) (v1 : Int32) (v2 : Int32) (v3 : Int32) (M : Mm), f_X12_window_32 K L fu a0 g v1 v2 v3 M = some r → gW X 0 0 n K L M 32 [(0, va_rf (some a0)), (1, .int v1), (2, .int v2), (3, .int v3)] []
  | 0, _, _, _, _, h => by cases h
  | g + 1, v1, v2, v3, M, h => w_X12_window_32b o hL hr hz hk0 hE (w_X12_window_32_n o hL hr hz hk0 hE hd g) hd h
theorem w_X12_window_32 {X : Cx} {d n : Nat} {K L : Nat → Nat} {fu : Nat} {a0 : Nat} {r : Mm} {v1 : Int32} {v2 : Int32} {v3 : Int32} {M : Mm} (o : cOk X cX12_window RX12 (d + 1)) (hL : cL X = 5) (hr : (ch X).sig.returnType = none) (hz : (cs X).heap.size + 0 = cB X + n) (hk0 : K a0 = 12) (hE : cE X n K L r none 0 0) (hd : 1 ≤ d + 1) (h : f_X12_window_32 K L fu a0 fu v1 v2 v3 M = some r) : gW X 0 0 n K L M 32 [(0, va_rf (some a0)), (1, .int v1), (2, .int v2), (3, .int v3)] [] := w_X12_window_32_n o hL hr hz hk0 hE hd fu v1 v2 v3 M h
def f_X12_window_17 (K L : Nat → Nat) (fu : Nat) (a0 : Nat) (v1 : Int32) (v2 : Int32) (s0 : Int32) (s1 : (Option Nat)) (M : Mm) : Option Mm :=
  Option.bind (rc K s1 12) (fun a1 =>
  Option.bind (zb s0) (fun u4 =>
  bn (ms_I M (32 * 12 + 16) a1 s0) (fun M5 =>
  bn (ms_J M5 (32 * 12 + 17) a0 (0 : Int64)) (fun M7 =>
  bn (ms_J M7 (32 * 12 + 18) a0 (0 : Int64)) (fun M9 =>
  f_X12_window_32 K L fu a0 fu v1 v2 v2 M9)))))
set_option maxHeartbeats 4000000 in
theorem w_X12_window_17 {X : Cx} {d n : Nat} {K L : Nat → Nat} {fu : Nat} {a0 : Nat} {r : Mm} {v1 : Int32} {v2 : Int32} {s0 : Int32} {s1 : (Option Nat)} {M : Mm} (o : cOk X cX12_window RX12 (d + 1)) (hL : cL X = 5) (hr : (ch X).sig.returnType = none) (hz : (cs X).heap.size + 0 = cB X + n) (hk0 : K a0 = 12) (hE : cE X n K L r none 0 0) (hd : 1 ≤ d + 1) (h : f_X12_window_17 K L fu a0 v1 v2 s0 s1 M = some r) : gW X 0 0 n K L M 17 [(0, va_rf (some a0)), (1, .int v1), (2, .int v2)] [.int s0, va_rf s1] := by
  unfold f_X12_window_17 at h
  obtain ⟨a1, e2, h⟩ := ob h
  obtain ⟨u4, e3, h⟩ := ob h
  refine g_putZ o hz fl_X12_167 e2 (by decide) rfl rfl rfl (zb_at e3) dX12_window_17 ?_
  obtain ⟨M5, e6, h⟩ := bn_at h
  refine g_mem e6 ?_
  refine g_aload_n o dX12_window_20 0 rfl ?_
  refine g_lconst (v := (0 : Int64)) o dX12_window_21 (by decide) ?_
  refine g_putJ o hz fl_X12_171 (rc_self hk0) (by decide) rfl rfl rfl  dX12_window_22 ?_
  obtain ⟨M7, e8, h⟩ := bn_at h
  refine g_mem e8 ?_
  refine g_aload_n o dX12_window_25 0 rfl ?_
  refine g_lconst (v := (0 : Int64)) o dX12_window_26 (by decide) ?_
  refine g_putJ o hz fl_X12_175 (rc_self hk0) (by decide) rfl rfl rfl  dX12_window_27 ?_
  obtain ⟨M9, e10, h⟩ := bn_at h
  refine g_mem e10 ?_
  refine g_iload_n o dX12_window_30 2 rfl ?_
  refine g_istore_n (i := 3) (ls' := [(3, .int v2), (0, va_rf (some a0)), (1, .int v1), (2, .int v2)]) o dX12_window_31 rfl (ltL hL (by decide)) rfl ?_
  refine gsub [1, 2, 3, 0] rfl ?_
  exact w_X12_window_32 o hL hr hz hk0 hE hd h
def f_X12_window (K L : Nat → Nat) (fu : Nat) (a0 : Nat) (v1 : Int32) (v2 : Int32) (M : Mm) : Option Mm :=
  Option.bind (f_X12_of K L M a0 v1 (91 : Int32)) (fun x1 =>
  if x1 = (1 : Int32) then
    f_X12_window_17 K L fu a0 v1 v2 (1 : Int32) (some a0) M
  else
    f_X12_window_17 K L fu a0 v1 v2 (0 : Int32) (some a0) M)
set_option maxHeartbeats 4000000 in
theorem w_X12_window_0 {X : Cx} {d n : Nat} {K L : Nat → Nat} {fu : Nat} {a0 : Nat} {r : Mm} {v1 : Int32} {v2 : Int32} {M : Mm} (o : cOk X cX12_window RX12 (d + 1)) (hL : cL X = 5) (hr : (ch X).sig.returnType = none) (hz : (cs X).heap.size + 0 = cB X + n) (hk0 : K a0 = 12) (hE : cE X n K L r none 0 0) (hd : 1 ≤ d + 1) (h : f_X12_window K L fu a0 v1 v2 M = some r) : gW X 0 0 n K L M 0 [(0, va_rf (some a0)), (1, .int v1), (2, .int v2)] [] := by
  unfold f_X12_window at h
  refine g_aload_n o dX12_window_0 0 rfl ?_
  refine g_aload_n o dX12_window_1 0 rfl ?_
  refine g_iload_n o dX12_window_2 1 rfl ?_
  refine g_bipush (v := (91 : Int32)) o dX12_window_3 (by decide) ?_
  obtain ⟨x1, e2, h⟩ := ob h
  refine g_invV0 o (rc_self hk0) (by decide) ml_X12_43 kb_X12_of kv_X12_of rfl (c_X12_of (cq X) (cD X) (cY X) (cB X) (d := d) (by omega) (rc_at (rc_self hk0)).2 e2) rfl rfl (by simp [cat_i, cat_l, cat_rf]) dX12_window_5 ?_
  refine g_iconst (v := (1 : Int32)) o dX12_window_8 (by decide) ?_
  refine g_icmp_ne (tgt := 16) o dX12_window_9 (by decide) (fun z => ?_) (fun z => ?_)
  · have h := (if_neg z).symm.trans h
    refine g_iconst (v := (0 : Int32)) o dX12_window_16 (by decide) ?_
    exact w_X12_window_17 o hL hr hz hk0 hE hd h
  · have h := (if_pos z).symm.trans h
    refine g_iconst (v := (1 : Int32)) o dX12_window_12 (by decide) ?_
    refine g_goto (tgt := 17) o dX12_window_13 (by decide) ?_
    exact w_X12_window_17 o hL hr hz hk0 hE hd h
theorem c_X12_window (l : Launch) (D : va_G) (Y : Nat → ClassId) (B : Nat) {d : Nat} {n : Nat} {K L : Nat → Nat} {fu : Nat} {M : Mm} {a0 : Nat} {v1 : Int32} {v2 : Int32} {r : Mm} (hd : 1 ≤ d) (hk0 : K a0 = 12) (h : f_X12_window K L fu a0 v1 v2 M = some r) : mC l D Y B d yX12_window cX12_window 5 (none) [va_rf (some a0), .int v1, .int v2] n K L M n K L r none 0 0 := by
  obtain ⟨d, rfl⟩ : ∃ e, d = e + 1 := ⟨d - 1, by omega⟩
  refine mk_met (by decide) (by simp [lgs_r, lgs_i, lgs_l, lgs_n]) (fun X e1 e2 e3 e4 o hL hr hnm hz hc hs hE => ?_)
  subst e1 e2 e3 e4
  rw [show lv_args 0 [va_rf (some a0), .int v1, .int v2] = [(0, va_rf (some a0)), (1, .int v1), (2, .int v2)] by simp [lva_r, lva_i, lva_l, lva_n]]
  exact w_X12_window_0 o hL hr hz hk0 hE hd h
def f_X12_isSpent (K L : Nat → Nat) (fu : Nat) (a0 : Nat) (v1 : Int32) (v2 : Int32) (M : Mm) : Option (Int32 × Mm) :=
  Option.bind (f_X12_window K L fu a0 v1 v2 M) (fun x1 =>
  if (mm_I x1 (32 * 12 + 16) a0) = 0 then
    some ((0 : Int32), x1)
  else
    Option.bind (f_X12_of K L x1 a0 v1 (71 : Int32)) (fun x3 =>
    if (lg_cmp (mm_J x1 (32 * 12 + 17) a0) (x3.toInt64)) < 0 then
      some ((0 : Int32), x1)
    else
      if (lg_cmp (mm_J x1 (32 * 12 + 17) a0) (0 : Int64)) ≤ 0 then
        some ((0 : Int32), x1)
      else
        Option.bind (f_X12_of K L x1 a0 v1 (72 : Int32)) (fun x5 =>
        if (lg_cmp ((mm_J x1 (32 * 12 + 18) a0) * (10000 : Int64)) ((x5.toInt64) * (mm_J x1 (32 * 12 + 17) a0))) ≤ 0 then
          some ((0 : Int32), x1)
        else
          some ((1 : Int32), x1))))
set_option maxHeartbeats 4000000 in
theorem w_X12_isSpent_0 {X : Cx} {d n : Nat} {K L : Nat → Nat} {fu : Nat} {a0 : Nat} {r : (Int32 × Mm)} {v1 : Int32} {v2 : Int32} {M : Mm} (o : cOk X cX12_isSpent RX12 (d + 1)) (hL : cL X = 3) (hr : (ch X).sig.returnType = some .boolean) (hz : (cs X).heap.size + 0 = cB X + n) (hk0 : K a0 = 12) (hE : cE X n K L r.2 (some (.int r.1)) 0 0) (hd : 2 ≤ d + 1) (h : f_X12_isSpent K L fu a0 v1 v2 M = some r) : gW X 0 0 n K L M 0 [(0, va_rf (some a0)), (1, .int v1), (2, .int v2)] [] := by
  unfold f_X12_isSpent at h
  refine g_aload_n o dX12_isSpent_0 0 rfl ?_
  refine g_iload_n o dX12_isSpent_1 1 rfl ?_
  refine g_iload_n o dX12_isSpent_2 2 rfl ?_
  obtain ⟨x1, e2, h⟩ := ob h
  refine g_invV0 o (rc_self hk0) (by decide) ml_X12_181 kb_X12_window kv_X12_window rfl (c_X12_window (cq X) (cD X) (cY X) (cB X) (d := d) (by omega) (rc_at (rc_self hk0)).2 e2) rfl rfl (by simp [cat_i, cat_l, cat_rf]) dX12_isSpent_3 ?_
  refine g_aload_n o dX12_isSpent_6 0 rfl ?_
  refine g_getI o fl_X12_167 (rc_self hk0) (by decide) rfl dX12_isSpent_7 ?_
  refine g_if_eq (tgt := 67) o dX12_isSpent_10 (by decide) (fun z => ?_) (fun z => ?_)
  · have h := (if_pos z).symm.trans h
    refine g_iconst (v := (0 : Int32)) o dX12_isSpent_67 (by decide) ?_
    cases h
    exact g_zret o hr (by decide) hE dX12_isSpent_68
  · have h := (if_neg z).symm.trans h
    refine g_aload_n o dX12_isSpent_13 0 rfl ?_
    refine g_getJ o fl_X12_171 (rc_self hk0) (by decide) rfl dX12_isSpent_14 ?_
    refine g_aload_n o dX12_isSpent_17 0 rfl ?_
    refine g_iload_n o dX12_isSpent_18 1 rfl ?_
    refine g_bipush (v := (71 : Int32)) o dX12_isSpent_19 (by decide) ?_
    obtain ⟨x3, e4, h⟩ := ob h
    refine g_invV0 o (rc_self hk0) (by decide) ml_X12_43 kb_X12_of kv_X12_of rfl (c_X12_of (cq X) (cD X) (cY X) (cB X) (d := d) (by omega) (rc_at (rc_self hk0)).2 e4) rfl rfl (by simp [cat_i, cat_l, cat_rf]) dX12_isSpent_21 ?_
    refine g_i2l o dX12_isSpent_24 ?_
    refine g_lcmp o dX12_isSpent_25 ?_
    refine g_if_lt (tgt := 67) o dX12_isSpent_26 (by decide) (fun z => ?_) (fun z => ?_)
    · have h := (if_pos z).symm.trans h
      refine g_iconst (v := (0 : Int32)) o dX12_isSpent_67 (by decide) ?_
      cases h
      exact g_zret o hr (by decide) hE dX12_isSpent_68
    · have h := (if_neg z).symm.trans h
      refine g_aload_n o dX12_isSpent_29 0 rfl ?_
      refine g_getJ o fl_X12_171 (rc_self hk0) (by decide) rfl dX12_isSpent_30 ?_
      refine g_lconst (v := (0 : Int64)) o dX12_isSpent_33 (by decide) ?_
      refine g_lcmp o dX12_isSpent_34 ?_
      refine g_if_le (tgt := 67) o dX12_isSpent_35 (by decide) (fun z => ?_) (fun z => ?_)
      · have h := (if_pos z).symm.trans h
        refine g_iconst (v := (0 : Int32)) o dX12_isSpent_67 (by decide) ?_
        cases h
        exact g_zret o hr (by decide) hE dX12_isSpent_68
      · have h := (if_neg z).symm.trans h
        refine g_aload_n o dX12_isSpent_38 0 rfl ?_
        refine g_getJ o fl_X12_175 (rc_self hk0) (by decide) rfl dX12_isSpent_39 ?_
        refine g_ldc2 (v := (10000 : Int64)) o kc_X12_89 dX12_isSpent_42 ?_
        refine g_lmul o dX12_isSpent_45 ?_
        refine g_aload_n o dX12_isSpent_46 0 rfl ?_
        refine g_iload_n o dX12_isSpent_47 1 rfl ?_
        refine g_bipush (v := (72 : Int32)) o dX12_isSpent_48 (by decide) ?_
        obtain ⟨x5, e6, h⟩ := ob h
        refine g_invV0 o (rc_self hk0) (by decide) ml_X12_43 kb_X12_of kv_X12_of rfl (c_X12_of (cq X) (cD X) (cY X) (cB X) (d := d) (by omega) (rc_at (rc_self hk0)).2 e6) rfl rfl (by simp [cat_i, cat_l, cat_rf]) dX12_isSpent_50 ?_
        refine g_i2l o dX12_isSpent_53 ?_
        refine g_aload_n o dX12_isSpent_54 0 rfl ?_
        refine g_getJ o fl_X12_171 (rc_self hk0) (by decide) rfl dX12_isSpent_55 ?_
        refine g_lmul o dX12_isSpent_58 ?_
        refine g_lcmp o dX12_isSpent_59 ?_
        refine g_if_le (tgt := 67) o dX12_isSpent_60 (by decide) (fun z => ?_) (fun z => ?_)
        · have h := (if_pos z).symm.trans h
          refine g_iconst (v := (0 : Int32)) o dX12_isSpent_67 (by decide) ?_
          cases h
          exact g_zret o hr (by decide) hE dX12_isSpent_68
        · have h := (if_neg z).symm.trans h
          refine g_iconst (v := (1 : Int32)) o dX12_isSpent_63 (by decide) ?_
          refine g_goto (tgt := 68) o dX12_isSpent_64 (by decide) ?_
          cases h
          exact g_zret o hr (by decide) hE dX12_isSpent_68
theorem c_X12_isSpent (l : Launch) (D : va_G) (Y : Nat → ClassId) (B : Nat) {d : Nat} {n : Nat} {K L : Nat → Nat} {fu : Nat} {M : Mm} {a0 : Nat} {v1 : Int32} {v2 : Int32} {r : (Int32 × Mm)} (hd : 2 ≤ d) (hk0 : K a0 = 12) (h : f_X12_isSpent K L fu a0 v1 v2 M = some r) : mC l D Y B d yX12_isSpent cX12_isSpent 3 (some .boolean) [va_rf (some a0), .int v1, .int v2] n K L M n K L r.2 (some (.int r.1)) 0 0 := by
  obtain ⟨d, rfl⟩ : ∃ e, d = e + 1 := ⟨d - 1, by omega⟩
  refine mk_met (by decide) (by simp [lgs_r, lgs_i, lgs_l, lgs_n]) (fun X e1 e2 e3 e4 o hL hr hnm hz hc hs hE => ?_)
  subst e1 e2 e3 e4
  rw [show lv_args 0 [va_rf (some a0), .int v1, .int v2] = [(0, va_rf (some a0)), (1, .int v1), (2, .int v2)] by simp [lva_r, lva_i, lva_l, lva_n]]
  exact w_X12_isSpent_0 o hL hr hz hk0 hE hd h
def f_X12_whyNoGrowth_67 (K L : Nat → Nat) (fu : Nat) (a0 : Nat) (v1 : Int32) (v2 : Int32) (v3 : Int32) (M : Mm) : Option (Int32 × Mm) :=
  Option.bind (f_X12_of K L M a0 v1 (75 : Int32)) (fun x1 =>
  if x1 ≤ v2 then
    Option.bind (f_X12_of K L M a0 v1 (((49 : Int32) + v3) + (1 : Int32))) (fun x3 =>
    Option.bind (f_X12_of K L M a0 v1 (29 : Int32)) (fun x5 =>
    Option.bind (f_X12_of K L M a0 v1 (37 : Int32)) (fun x7 =>
    if x3 < x7 then
      some ((-12 : Int32), M)
    else
      if (10000 : Int32) < (x5 + x3) then
        some ((-12 : Int32), M)
      else
        Option.bind (f_X12_goesOver K L fu M a0 v1 (1 : Int32) x5 x3) (fun x9 =>
        if x9 = 0 then
          some ((0 : Int32), M)
        else
          some ((-12 : Int32), M)))))
  else
    some ((-11 : Int32), M))
set_option maxHeartbeats 4000000 in
theorem w_X12_whyNoGrowth_67 {X : Cx} {d n : Nat} {K L : Nat → Nat} {fu : Nat} {a0 : Nat} {r : (Int32 × Mm)} {v1 : Int32} {v2 : Int32} {v3 : Int32} {M : Mm} (o : cOk X cX12_whyNoGrowth RX12 (d + 1)) (hL : cL X = 6) (hr : (ch X).sig.returnType = some .int) (hz : (cs X).heap.size + 0 = cB X + n) (hk0 : K a0 = 12) (hE : cE X n K L r.2 (some (.int r.1)) 0 0) (hd : 3 ≤ d + 1) (h : f_X12_whyNoGrowth_67 K L fu a0 v1 v2 v3 M = some r) : gW X 0 0 n K L M 67 [(0, va_rf (some a0)), (1, .int v1), (2, .int v2), (3, .int v3)] [] := by
  unfold f_X12_whyNoGrowth_67 at h
  refine g_iload_n o dX12_whyNoGrowth_67 2 rfl ?_
  refine g_aload_n o dX12_whyNoGrowth_68 0 rfl ?_
  refine g_iload_n o dX12_whyNoGrowth_69 1 rfl ?_
  refine g_bipush (v := (75 : Int32)) o dX12_whyNoGrowth_70 (by decide) ?_
  obtain ⟨x1, e2, h⟩ := ob h
  refine g_invV0 o (rc_self hk0) (by decide) ml_X12_43 kb_X12_of kv_X12_of rfl (c_X12_of (cq X) (cD X) (cY X) (cB X) (d := d) (by omega) (rc_at (rc_self hk0)).2 e2) rfl rfl (by simp [cat_i, cat_l, cat_rf]) dX12_whyNoGrowth_72 ?_
  refine g_icmp_ge (tgt := 81) o dX12_whyNoGrowth_75 (by decide) (fun z => ?_) (fun z => ?_)
  · have h := (if_pos z).symm.trans h
    refine g_aload_n o dX12_whyNoGrowth_81 0 rfl ?_
    refine g_iload_n o dX12_whyNoGrowth_82 1 rfl ?_
    refine g_bipush (v := (49 : Int32)) o dX12_whyNoGrowth_83 (by decide) ?_
    refine g_iload_n o dX12_whyNoGrowth_85 3 rfl ?_
    refine g_iadd o dX12_whyNoGrowth_86 ?_
    refine g_iconst (v := (1 : Int32)) o dX12_whyNoGrowth_87 (by decide) ?_
    refine g_iadd o dX12_whyNoGrowth_88 ?_
    obtain ⟨x3, e4, h⟩ := ob h
    refine g_invV0 o (rc_self hk0) (by decide) ml_X12_43 kb_X12_of kv_X12_of rfl (c_X12_of (cq X) (cD X) (cY X) (cB X) (d := d) (by omega) (rc_at (rc_self hk0)).2 e4) rfl rfl (by simp [cat_i, cat_l, cat_rf]) dX12_whyNoGrowth_89 ?_
    refine g_istore (i := 4) (ls' := [(4, .int x3), (0, va_rf (some a0)), (1, .int v1), (2, .int v2), (3, .int v3)]) o dX12_whyNoGrowth_92 (ltL hL (by decide)) rfl ?_
    refine g_aload_n o dX12_whyNoGrowth_94 1 rfl ?_
    refine g_iload_n o dX12_whyNoGrowth_95 2 rfl ?_
    refine g_bipush (v := (29 : Int32)) o dX12_whyNoGrowth_96 (by decide) ?_
    obtain ⟨x5, e6, h⟩ := ob h
    refine g_invV0 o (rc_self hk0) (by decide) ml_X12_43 kb_X12_of kv_X12_of rfl (c_X12_of (cq X) (cD X) (cY X) (cB X) (d := d) (by omega) (rc_at (rc_self hk0)).2 e6) rfl rfl (by simp [cat_i, cat_l, cat_rf]) dX12_whyNoGrowth_98 ?_
    refine g_istore (i := 5) (ls' := [(5, .int x5), (4, .int x3), (0, va_rf (some a0)), (1, .int v1), (2, .int v2), (3, .int v3)]) o dX12_whyNoGrowth_101 (ltL hL (by decide)) rfl ?_
    refine g_iload o dX12_whyNoGrowth_103 1 rfl ?_
    refine g_aload_n o dX12_whyNoGrowth_105 2 rfl ?_
    refine g_iload_n o dX12_whyNoGrowth_106 3 rfl ?_
    refine g_bipush (v := (37 : Int32)) o dX12_whyNoGrowth_107 (by decide) ?_
    obtain ⟨x7, e8, h⟩ := ob h
    refine g_invV0 o (rc_self hk0) (by decide) ml_X12_43 kb_X12_of kv_X12_of rfl (c_X12_of (cq X) (cD X) (cY X) (cB X) (d := d) (by omega) (rc_at (rc_self hk0)).2 e8) rfl rfl (by simp [cat_i, cat_l, cat_rf]) dX12_whyNoGrowth_109 ?_
    refine g_icmp_lt (tgt := 139) o dX12_whyNoGrowth_112 (by decide) (fun z => ?_) (fun z => ?_)
    · have h := (if_pos z).symm.trans h
      refine g_bipush (v := (-12 : Int32)) o dX12_whyNoGrowth_139 (by decide) ?_
      refine g_goto (tgt := 145) o dX12_whyNoGrowth_141 (by decide) ?_
      cases h
      exact g_iret o hr hE dX12_whyNoGrowth_145
    · have h := (if_neg z).symm.trans h
      refine g_iload o dX12_whyNoGrowth_115 0 rfl ?_
      refine g_iload o dX12_whyNoGrowth_117 1 rfl ?_
      refine g_iadd o dX12_whyNoGrowth_119 ?_
      refine g_sipush (v := (10000 : Int32)) o dX12_whyNoGrowth_120 (by decide) ?_
      refine g_icmp_gt (tgt := 139) o dX12_whyNoGrowth_123 (by decide) (fun z => ?_) (fun z => ?_)
      · have h := (if_pos z).symm.trans h
        refine g_bipush (v := (-12 : Int32)) o dX12_whyNoGrowth_139 (by decide) ?_
        refine g_goto (tgt := 145) o dX12_whyNoGrowth_141 (by decide) ?_
        cases h
        exact g_iret o hr hE dX12_whyNoGrowth_145
      · have h := (if_neg z).symm.trans h
        refine g_aload_n o dX12_whyNoGrowth_126 2 rfl ?_
        refine g_iload_n o dX12_whyNoGrowth_127 3 rfl ?_
        refine g_iconst (v := (1 : Int32)) o dX12_whyNoGrowth_128 (by decide) ?_
        refine g_iload o dX12_whyNoGrowth_129 0 rfl ?_
        refine g_iload o dX12_whyNoGrowth_131 1 rfl ?_
        obtain ⟨x9, e10, h⟩ := ob h
        refine g_invV0 o (rc_self hk0) (by decide) ml_X12_139 kb_X12_goesOver kv_X12_goesOver rfl (c_X12_goesOver (cq X) (cD X) (cY X) (cB X) (d := d) (by omega) (rc_at (rc_self hk0)).2 e10) rfl rfl (by simp [cat_i, cat_l, cat_rf]) dX12_whyNoGrowth_133 ?_
        refine g_if_eq (tgt := 144) o dX12_whyNoGrowth_136 (by decide) (fun z => ?_) (fun z => ?_)
        · have h := (if_pos z).symm.trans h
          refine g_iconst (v := (0 : Int32)) o dX12_whyNoGrowth_144 (by decide) ?_
          cases h
          exact g_iret o hr hE dX12_whyNoGrowth_145
        · have h := (if_neg z).symm.trans h
          refine g_bipush (v := (-12 : Int32)) o dX12_whyNoGrowth_139 (by decide) ?_
          refine g_goto (tgt := 145) o dX12_whyNoGrowth_141 (by decide) ?_
          cases h
          exact g_iret o hr hE dX12_whyNoGrowth_145
  · have h := (if_neg z).symm.trans h
    refine g_bipush (v := (-11 : Int32)) o dX12_whyNoGrowth_78 (by decide) ?_
    cases h
    exact g_iret o hr hE dX12_whyNoGrowth_80
def f_X12_whyNoGrowth_51 (K L : Nat → Nat) (fu : Nat) (a0 : Nat) (v1 : Int32) (v2 : Int32) (v3 : Int32) (M : Mm) : Option (Int32 × Mm) :=
  if v3 < 0 then
    f_X12_whyNoGrowth_67 K L fu a0 v1 v2 v3 M
  else
    Option.bind (f_X12_isSpent K L fu a0 v1 v2 M) (fun x1 =>
    if (x1.1) = 0 then
      f_X12_whyNoGrowth_67 K L fu a0 v1 v2 v3 (x1.2)
    else
      some ((-10 : Int32), x1.2))
set_option maxHeartbeats 4000000 in
theorem w_X12_whyNoGrowth_51 {X : Cx} {d n : Nat} {K L : Nat → Nat} {fu : Nat} {a0 : Nat} {r : (Int32 × Mm)} {v1 : Int32} {v2 : Int32} {v3 : Int32} {M : Mm} (o : cOk X cX12_whyNoGrowth RX12 (d + 1)) (hL : cL X = 6) (hr : (ch X).sig.returnType = some .int) (hz : (cs X).heap.size + 0 = cB X + n) (hk0 : K a0 = 12) (hE : cE X n K L r.2 (some (.int r.1)) 0 0) (hd : 3 ≤ d + 1) (h : f_X12_whyNoGrowth_51 K L fu a0 v1 v2 v3 M = some r) : gW X 0 0 n K L M 51 [(0, va_rf (some a0)), (1, .int v1), (2, .int v2), (3, .int v3)] [] := by
  unfold f_X12_whyNoGrowth_51 at h
  refine g_iload_n o dX12_whyNoGrowth_51 3 rfl ?_
  refine g_if_lt (tgt := 67) o dX12_whyNoGrowth_52 (by decide) (fun z => ?_) (fun z => ?_)
  · have h := (if_pos z).symm.trans h
    exact w_X12_whyNoGrowth_67 o hL hr hz hk0 hE hd h
  · have h := (if_neg z).symm.trans h
    refine g_aload_n o dX12_whyNoGrowth_55 0 rfl ?_
    refine g_iload_n o dX12_whyNoGrowth_56 1 rfl ?_
    refine g_iload_n o dX12_whyNoGrowth_57 2 rfl ?_
    obtain ⟨x1, e2, h⟩ := ob h
    refine g_invV0 o (rc_self hk0) (by decide) ml_X12_185 kb_X12_isSpent kv_X12_isSpent rfl (c_X12_isSpent (cq X) (cD X) (cY X) (cB X) (d := d) (by omega) (rc_at (rc_self hk0)).2 e2) rfl rfl (by simp [cat_i, cat_l, cat_rf]) dX12_whyNoGrowth_58 ?_
    refine g_if_eq (tgt := 67) o dX12_whyNoGrowth_61 (by decide) (fun z => ?_) (fun z => ?_)
    · have h := (if_pos z).symm.trans h
      exact w_X12_whyNoGrowth_67 o hL hr hz hk0 hE hd h
    · have h := (if_neg z).symm.trans h
      refine g_bipush (v := (-10 : Int32)) o dX12_whyNoGrowth_64 (by decide) ?_
      cases h
      exact g_iret o hr hE dX12_whyNoGrowth_66
def f_X12_whyNoGrowth_28 (K L : Nat → Nat) (fu : Nat) (a0 : Nat) (v1 : Int32) (v2 : Int32) (v3 : Int32) (M : Mm) : Option (Int32 × Mm) :=
  if v3 < 0 then
    f_X12_whyNoGrowth_51 K L fu a0 v1 v2 v3 M
  else
    Option.bind (f_X12_of K L M a0 v1 (71 : Int32)) (fun x1 =>
    if 0 ≤ (lg_cmp (mm_J M (32 * 12 + 17) a0) (x1.toInt64)) then
      f_X12_whyNoGrowth_51 K L fu a0 v1 v2 v3 M
    else
      some ((-9 : Int32), M))
set_option maxHeartbeats 4000000 in
theorem w_X12_whyNoGrowth_28 {X : Cx} {d n : Nat} {K L : Nat → Nat} {fu : Nat} {a0 : Nat} {r : (Int32 × Mm)} {v1 : Int32} {v2 : Int32} {v3 : Int32} {M : Mm} (o : cOk X cX12_whyNoGrowth RX12 (d + 1)) (hL : cL X = 6) (hr : (ch X).sig.returnType = some .int) (hz : (cs X).heap.size + 0 = cB X + n) (hk0 : K a0 = 12) (hE : cE X n K L r.2 (some (.int r.1)) 0 0) (hd : 3 ≤ d + 1) (h : f_X12_whyNoGrowth_28 K L fu a0 v1 v2 v3 M = some r) : gW X 0 0 n K L M 28 [(0, va_rf (some a0)), (1, .int v1), (2, .int v2), (3, .int v3)] [] := by
  unfold f_X12_whyNoGrowth_28 at h
  refine g_iload_n o dX12_whyNoGrowth_28 3 rfl ?_
  refine g_if_lt (tgt := 51) o dX12_whyNoGrowth_29 (by decide) (fun z => ?_) (fun z => ?_)
  · have h := (if_pos z).symm.trans h
    exact w_X12_whyNoGrowth_51 o hL hr hz hk0 hE hd h
  · have h := (if_neg z).symm.trans h
    refine g_aload_n o dX12_whyNoGrowth_32 0 rfl ?_
    refine g_getJ o fl_X12_171 (rc_self hk0) (by decide) rfl dX12_whyNoGrowth_33 ?_
    refine g_aload_n o dX12_whyNoGrowth_36 0 rfl ?_
    refine g_iload_n o dX12_whyNoGrowth_37 1 rfl ?_
    refine g_bipush (v := (71 : Int32)) o dX12_whyNoGrowth_38 (by decide) ?_
    obtain ⟨x1, e2, h⟩ := ob h
    refine g_invV0 o (rc_self hk0) (by decide) ml_X12_43 kb_X12_of kv_X12_of rfl (c_X12_of (cq X) (cD X) (cY X) (cB X) (d := d) (by omega) (rc_at (rc_self hk0)).2 e2) rfl rfl (by simp [cat_i, cat_l, cat_rf]) dX12_whyNoGrowth_40 ?_
    refine g_i2l o dX12_whyNoGrowth_43 ?_
    refine g_lcmp o dX12_whyNoGrowth_44 ?_
    refine g_if_ge (tgt := 51) o dX12_whyNoGrowth_45 (by decide) (fun z => ?_) (fun z => ?_)
    · have h := (if_pos z).symm.trans h
      exact w_X12_whyNoGrowth_51 o hL hr hz hk0 hE hd h
    · have h := (if_neg z).symm.trans h
      refine g_bipush (v := (-9 : Int32)) o dX12_whyNoGrowth_48 (by decide) ?_
      cases h
      exact g_iret o hr hE dX12_whyNoGrowth_50
def f_X12_whyNoGrowth (K L : Nat → Nat) (fu : Nat) (a0 : Nat) (v1 : Int32) (v2 : Int32) (M : Mm) : Option (Int32 × Mm) :=
  Option.bind (f_X12_of K L M a0 v1 (69 : Int32)) (fun x1 =>
  Option.bind (f_X12_window K L fu a0 v1 v2 M) (fun x3 =>
  if x1 < 0 then
    f_X12_whyNoGrowth_28 K L fu a0 v1 v2 x1 x3
  else
    if (mm_I x3 (32 * 12 + 16) a0) = 0 then
      some ((-8 : Int32), x3)
    else
      f_X12_whyNoGrowth_28 K L fu a0 v1 v2 x1 x3))
set_option maxHeartbeats 4000000 in
theorem w_X12_whyNoGrowth_0 {X : Cx} {d n : Nat} {K L : Nat → Nat} {fu : Nat} {a0 : Nat} {r : (Int32 × Mm)} {v1 : Int32} {v2 : Int32} {M : Mm} (o : cOk X cX12_whyNoGrowth RX12 (d + 1)) (hL : cL X = 6) (hr : (ch X).sig.returnType = some .int) (hz : (cs X).heap.size + 0 = cB X + n) (hk0 : K a0 = 12) (hE : cE X n K L r.2 (some (.int r.1)) 0 0) (hd : 3 ≤ d + 1) (h : f_X12_whyNoGrowth K L fu a0 v1 v2 M = some r) : gW X 0 0 n K L M 0 [(0, va_rf (some a0)), (1, .int v1), (2, .int v2)] [] := by
  unfold f_X12_whyNoGrowth at h
  refine g_aload_n o dX12_whyNoGrowth_0 0 rfl ?_
  refine g_iload_n o dX12_whyNoGrowth_1 1 rfl ?_
  refine g_bipush (v := (69 : Int32)) o dX12_whyNoGrowth_2 (by decide) ?_
  obtain ⟨x1, e2, h⟩ := ob h
  refine g_invV0 o (rc_self hk0) (by decide) ml_X12_43 kb_X12_of kv_X12_of rfl (c_X12_of (cq X) (cD X) (cY X) (cB X) (d := d) (by omega) (rc_at (rc_self hk0)).2 e2) rfl rfl (by simp [cat_i, cat_l, cat_rf]) dX12_whyNoGrowth_4 ?_
  refine g_istore_n (i := 3) (ls' := [(3, .int x1), (0, va_rf (some a0)), (1, .int v1), (2, .int v2)]) o dX12_whyNoGrowth_7 rfl (ltL hL (by decide)) rfl ?_
  refine g_aload_n o dX12_whyNoGrowth_8 1 rfl ?_
  refine g_iload_n o dX12_whyNoGrowth_9 2 rfl ?_
  refine g_iload_n o dX12_whyNoGrowth_10 3 rfl ?_
  obtain ⟨x3, e4, h⟩ := ob h
  refine g_invV0 o (rc_self hk0) (by decide) ml_X12_181 kb_X12_window kv_X12_window rfl (c_X12_window (cq X) (cD X) (cY X) (cB X) (d := d) (by omega) (rc_at (rc_self hk0)).2 e4) rfl rfl (by simp [cat_i, cat_l, cat_rf]) dX12_whyNoGrowth_11 ?_
  refine g_iload_n o dX12_whyNoGrowth_14 0 rfl ?_
  refine g_if_lt (tgt := 28) o dX12_whyNoGrowth_15 (by decide) (fun z => ?_) (fun z => ?_)
  · have h := (if_pos z).symm.trans h
    refine gsub [1, 2, 3, 0] rfl ?_
    exact w_X12_whyNoGrowth_28 o hL hr hz hk0 hE hd h
  · have h := (if_neg z).symm.trans h
    refine g_aload_n o dX12_whyNoGrowth_18 1 rfl ?_
    refine g_getI o fl_X12_167 (rc_self hk0) (by decide) rfl dX12_whyNoGrowth_19 ?_
    refine g_if_ne (tgt := 28) o dX12_whyNoGrowth_22 (by decide) (fun z => ?_) (fun z => ?_)
    · have h := (if_neg z).symm.trans h
      refine gsub [1, 2, 3, 0] rfl ?_
      exact w_X12_whyNoGrowth_28 o hL hr hz hk0 hE hd h
    · have h := (if_pos z).symm.trans h
      refine g_bipush (v := (-8 : Int32)) o dX12_whyNoGrowth_25 (by decide) ?_
      cases h
      exact g_iret o hr hE dX12_whyNoGrowth_27
theorem c_X12_whyNoGrowth (l : Launch) (D : va_G) (Y : Nat → ClassId) (B : Nat) {d : Nat} {n : Nat} {K L : Nat → Nat} {fu : Nat} {M : Mm} {a0 : Nat} {v1 : Int32} {v2 : Int32} {r : (Int32 × Mm)} (hd : 3 ≤ d) (hk0 : K a0 = 12) (h : f_X12_whyNoGrowth K L fu a0 v1 v2 M = some r) : mC l D Y B d yX12_whyNoGrowth cX12_whyNoGrowth 6 (some .int) [va_rf (some a0), .int v1, .int v2] n K L M n K L r.2 (some (.int r.1)) 0 0 := by
  obtain ⟨d, rfl⟩ : ∃ e, d = e + 1 := ⟨d - 1, by omega⟩
  refine mk_met (by decide) (by simp [lgs_r, lgs_i, lgs_l, lgs_n]) (fun X e1 e2 e3 e4 o hL hr hnm hz hc hs hE => ?_)
  subst e1 e2 e3 e4
  rw [show lv_args 0 [va_rf (some a0), .int v1, .int v2] = [(0, va_rf (some a0)), (1, .int v1), (2, .int v2)] by simp [lva_r, lva_i, lva_l, lva_n]]
  exact w_X12_whyNoGrowth_0 o hL hr hz hk0 hE hd h
