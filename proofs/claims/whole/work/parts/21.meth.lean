/-! methods: X2_tellGoods X2_goodsAt X2_callsBeside X2_goodsBeside X3_begin X3_takeFrom X3_hasRow X3_isStoodOn X3_layRow X3_dropRow X3_hasStep X3_hasSteps X3_stepAt X3_setStep X3_copySteps X4_init X4_content X4_clear X10_init X6_begin X7_begin X9_hangOn X10_setLook X10_begin X9_begin X4_putNote X6_takeFrom X7_takeFrom X10_takeFrom X9_takeFrom X5_memberAt X5_gatherStopped X5_gatherAsks X5_measureTo X5_nearest X5_keepFrom -/
def f_X2_tellGoods (K L : Nat → Nat) (a0 : Nat) (v1 : Int32) (v2 : Int32) (M : Mm) : Option Mm :=
  Option.bind (f_X2_isTold K L M a0 v1) (fun x1 =>
  if x1 = 0 then
    some M
  else
    Option.bind (rx K L (mm_R M (32 * 2 + 4) a0) 13 v1) (fun a3 =>
    bn (ms_A M a3 (upd (mm_A M a3) v1.toNatClampNeg v2)) (fun M5 =>
    some M5)))
set_option maxHeartbeats 4000000 in
theorem w_X2_tellGoods_0 {X : Cx} {d n : Nat} {K L : Nat → Nat} {a0 : Nat} {r : Mm} {v1 : Int32} {v2 : Int32} {M : Mm} (o : cOk X cX2_tellGoods RX2 (d + 1)) (hL : cL X = 3) (hr : (ch X).sig.returnType = none) (hz : (cs X).heap.size + 0 = cB X + n) (hk0 : K a0 = 2) (hE : cE X n K L r none 0 0) (hd : 1 ≤ d + 1) (h : f_X2_tellGoods K L a0 v1 v2 M = some r) : gW X 0 0 n K L M 0 [(0, va_rf (some a0)), (1, .int v1), (2, .int v2)] [] := by
  unfold f_X2_tellGoods at h
  refine g_aload_n o dX2_tellGoods_0 0 rfl ?_
  refine g_iload_n o dX2_tellGoods_1 1 rfl ?_
  obtain ⟨x1, e2, h⟩ := ob h
  refine g_invV0 o (rc_self hk0) (by decide) ml_X2_35 kb_X2_isTold kv_X2_isTold rfl (c_X2_isTold (cq X) (cD X) (cY X) (cB X) (d := d) (by omega) (rc_at (rc_self hk0)).2 e2) rfl rfl (by simp [cat_i, cat_l, cat_rf]) dX2_tellGoods_2 ?_
  refine g_if_eq (tgt := 15) o dX2_tellGoods_5 (by decide) (fun z => ?_) (fun z => ?_)
  · have h := (if_pos z).symm.trans h
    cases h
    exact g_vret o hr hE dX2_tellGoods_15
  · have h := (if_neg z).symm.trans h
    refine g_aload_n o dX2_tellGoods_8 0 rfl ?_
    refine g_getR o fl_X2_18 (rc_self hk0) (by decide) rfl dX2_tellGoods_9 ?_
    refine g_iload_n o dX2_tellGoods_12 1 rfl ?_
    refine g_iload_n o dX2_tellGoods_13 2 rfl ?_
    obtain ⟨a3, e4, h⟩ := ob h
    refine g_iast o hz e4  dX2_tellGoods_14 ?_
    obtain ⟨M5, e6, h⟩ := bn_at h
    refine g_mem e6 ?_
    cases h
    exact g_vret o hr hE dX2_tellGoods_15
theorem c_X2_tellGoods (l : Launch) (D : va_G) (Y : Nat → ClassId) (B : Nat) {d : Nat} {n : Nat} {K L : Nat → Nat} {M : Mm} {a0 : Nat} {v1 : Int32} {v2 : Int32} {r : Mm} (hd : 1 ≤ d) (hk0 : K a0 = 2) (h : f_X2_tellGoods K L a0 v1 v2 M = some r) : mC l D Y B d yX2_tellGoods cX2_tellGoods 3 (none) [va_rf (some a0), .int v1, .int v2] n K L M n K L r none 0 0 := by
  obtain ⟨d, rfl⟩ : ∃ e, d = e + 1 := ⟨d - 1, by omega⟩
  refine mk_met (by decide) (by simp [lgs_r, lgs_i, lgs_l, lgs_n]) (fun X e1 e2 e3 e4 o hL hr hnm hz hc hs hE => ?_)
  subst e1 e2 e3 e4
  rw [show lv_args 0 [va_rf (some a0), .int v1, .int v2] = [(0, va_rf (some a0)), (1, .int v1), (2, .int v2)] by simp [lva_r, lva_i, lva_l, lva_n]]
  exact w_X2_tellGoods_0 o hL hr hz hk0 hE hd h
def f_X2_goodsAt (K L : Nat → Nat) (M : Mm) (a0 : Nat) (v1 : Int32) : Option Int32 :=
  Option.bind (f_X2_isTold K L M a0 v1) (fun x1 =>
  if x1 = 0 then
    some (0 : Int32)
  else
    Option.bind (rx K L (mm_R M (32 * 2 + 4) a0) 13 v1) (fun a3 =>
    some (mm_A M a3 v1.toNatClampNeg)))
set_option maxHeartbeats 4000000 in
theorem w_X2_goodsAt_0 {X : Cx} {d n : Nat} {K L : Nat → Nat} {M : Mm} {a0 : Nat} {r : Int32} {v1 : Int32} (o : cOk X cX2_goodsAt RX2 (d + 1)) (hL : cL X = 2) (hr : (ch X).sig.returnType = some .int) (hk0 : K a0 = 2) (hE : cE X n K L M (some (.int r)) 0 0) (hd : 1 ≤ d + 1) (h : f_X2_goodsAt K L M a0 v1 = some r) : gW X 0 0 n K L M 0 [(0, va_rf (some a0)), (1, .int v1)] [] := by
  unfold f_X2_goodsAt at h
  refine g_aload_n o dX2_goodsAt_0 0 rfl ?_
  refine g_iload_n o dX2_goodsAt_1 1 rfl ?_
  obtain ⟨x1, e2, h⟩ := ob h
  refine g_invV0 o (rc_self hk0) (by decide) ml_X2_35 kb_X2_isTold kv_X2_isTold rfl (c_X2_isTold (cq X) (cD X) (cY X) (cB X) (d := d) (by omega) (rc_at (rc_self hk0)).2 e2) rfl rfl (by simp [cat_i, cat_l, cat_rf]) dX2_goodsAt_2 ?_
  refine g_if_eq (tgt := 17) o dX2_goodsAt_5 (by decide) (fun z => ?_) (fun z => ?_)
  · have h := (if_pos z).symm.trans h
    refine g_iconst (v := (0 : Int32)) o dX2_goodsAt_17 (by decide) ?_
    cases h
    exact g_iret o hr hE dX2_goodsAt_18
  · have h := (if_neg z).symm.trans h
    refine g_aload_n o dX2_goodsAt_8 0 rfl ?_
    refine g_getR o fl_X2_18 (rc_self hk0) (by decide) rfl dX2_goodsAt_9 ?_
    refine g_iload_n o dX2_goodsAt_12 1 rfl ?_
    obtain ⟨a3, e4, h⟩ := ob h
    refine g_iald o e4 dX2_goodsAt_13 ?_
    refine g_goto (tgt := 18) o dX2_goodsAt_14 (by decide) ?_
    cases h
    exact g_iret o hr hE dX2_goodsAt_18
theorem c_X2_goodsAt (l : Launch) (D : va_G) (Y : Nat → ClassId) (B : Nat) {d : Nat} {n : Nat} {K L : Nat → Nat} {M : Mm} {a0 : Nat} {v1 : Int32} {r : Int32} (hd : 1 ≤ d) (hk0 : K a0 = 2) (h : f_X2_goodsAt K L M a0 v1 = some r) : mC l D Y B d yX2_goodsAt cX2_goodsAt 2 (some .int) [va_rf (some a0), .int v1] n K L M n K L M (some (.int r)) 0 0 := by
  obtain ⟨d, rfl⟩ : ∃ e, d = e + 1 := ⟨d - 1, by omega⟩
  refine mk_met (by decide) (by simp [lgs_r, lgs_i, lgs_l, lgs_n]) (fun X e1 e2 e3 e4 o hL hr hnm hz hc hs hE => ?_)
  subst e1 e2 e3 e4
  rw [show lv_args 0 [va_rf (some a0), .int v1] = [(0, va_rf (some a0)), (1, .int v1)] by simp [lva_r, lva_i, lva_l, lva_n]]
  exact w_X2_goodsAt_0 o hL hr hk0 hE hd h
def f_X2_callsBeside_5b (K L : Nat → Nat) (fu : Nat) (k5 : (Option Nat) → Int32 → Int32 → Int32 → Option Int32) (M : Mm) (a0 : Nat) (v1 : (Option Nat)) (v2 : Int32) (v3 : Int32) (v4 : Int32) : Option Int32 :=
  if v2 < v4 then
    some v3
  else
    Option.bind (rc K v1 2) (fun a1 =>
    Option.bind (f_X2_isTold K L M a1 v4) (fun x3 =>
    if x3 = 0 then
      k5 v1 v2 v3 (v4 + 1)
    else
      Option.bind (f_X2_callsAt K L M a0 v4) (fun x5 =>
      bn (v3 + x5) (fun x7 =>
      k5 v1 v2 x7 (v4 + 1)))))
def f_X2_callsBeside_5 (K L : Nat → Nat) (fu : Nat) (M : Mm) (a0 : Nat) : Nat → (Option Nat) → Int32 → Int32 → Int32 → Option Int32
  | 0, _, _, _, _ => none
  | g + 1, v1, v2, v3, v4 => f_X2_callsBeside_5b K L fu (f_X2_callsBeside_5 K L fu M a0 g) M a0 v1 v2 v3 v4
set_option maxHeartbeats 4000000 in
theorem w_X2_callsBeside_5b {X : Cx} {d n : Nat} {K L : Nat → Nat} {fu : Nat} {M : Mm} {a0 : Nat} {r : Int32} {k5 : (Option Nat) → Int32 → Int32 → Int32 → Option Int32} {v1 : (Option Nat)} {v2 : Int32} {v3 : Int32} {v4 : Int32} (o : cOk X cX2_callsBeside RX2 (d + 1)) (hL : cL X = 5) (hr : (ch X).sig.returnType = some .int) (hk0 : K a0 = 2) (hE : cE X n K L M (some (.int r)) 0 0) (hk5 : ∀ (v1 : (Option Nat)) (v2 : Int32) (v3 : Int32) (v4 : Int32), k5 v1 v2 v3 v4 = some r → gW X 0 0 n K L M 5 [(0, va_rf (some a0)), (1, va_rf v1), (2, .int v2), (3, .int v3), (4, .int v4)] []) (hd : 2 ≤ d + 1) (h : f_X2_callsBeside_5b K L fu k5 M a0 v1 v2 v3 v4 = some r) : gW X 0 0 n K L M 5 [(0, va_rf (some a0)), (1, va_rf v1), (2, .int v2), (3, .int v3), (4, .int v4)] [] := by
  unfold f_X2_callsBeside_5b at h
  refine g_iload o dX2_callsBeside_5 4 rfl ?_
  refine g_iload_n o dX2_callsBeside_7 2 rfl ?_
  refine g_icmp_gt (tgt := 35) o dX2_callsBeside_8 (by decide) (fun z => ?_) (fun z => ?_)
  · have h := (if_pos z).symm.trans h
    refine g_iload_n o dX2_callsBeside_35 3 rfl ?_
    cases h
    exact g_iret o hr hE dX2_callsBeside_36
  · have h := (if_neg z).symm.trans h
    refine g_aload_n o dX2_callsBeside_11 1 rfl ?_
    refine g_iload o dX2_callsBeside_12 4 rfl ?_
    obtain ⟨a1, e2, h⟩ := ob h
    obtain ⟨x3, e4, h⟩ := ob h
    refine g_invV0 o e2 (by decide) ml_X2_35 kb_X2_isTold kv_X2_isTold rfl (c_X2_isTold (cq X) (cD X) (cY X) (cB X) (d := d) (by omega) (rc_at e2).2 e4) rfl rfl (by simp [cat_i, cat_l, cat_rf]) dX2_callsBeside_14 ?_
    refine g_if_eq (tgt := 29) o dX2_callsBeside_17 (by decide) (fun z => ?_) (fun z => ?_)
    · have h := (if_pos z).symm.trans h
      refine g_iinc (i := 4) (v := v4 + 1) (ls' := [(4, .int (v4 + 1)), (0, va_rf (some a0)), (1, va_rf v1), (2, .int v2), (3, .int v3)]) o dX2_callsBeside_29 4 rfl (by first | rfl | (congr 1)) (ltL hL (by decide)) rfl ?_
      refine g_goto (tgt := 5) o dX2_callsBeside_32 (by decide) ?_
      refine gsub [1, 2, 3, 4, 0] rfl ?_
      exact hk5 _ _ _ _ h
    · have h := (if_neg z).symm.trans h
      refine g_iload_n o dX2_callsBeside_20 3 rfl ?_
      refine g_aload_n o dX2_callsBeside_21 0 rfl ?_
      refine g_iload o dX2_callsBeside_22 4 rfl ?_
      obtain ⟨x5, e6, h⟩ := ob h
      refine g_invV0 o (rc_self hk0) (by decide) ml_X2_49 kb_X2_callsAt kv_X2_callsAt rfl (c_X2_callsAt (cq X) (cD X) (cY X) (cB X) (d := d) (by omega) (rc_at (rc_self hk0)).2 e6) rfl rfl (by simp [cat_i, cat_l, cat_rf]) dX2_callsBeside_24 ?_
      refine g_iadd o dX2_callsBeside_27 ?_
      obtain ⟨x7, e8, h⟩ := bn_at h
      refine g_topI e8 ?_
      refine g_istore_n (i := 3) (ls' := [(3, .int x7), (0, va_rf (some a0)), (1, va_rf v1), (2, .int v2), (4, .int v4)]) o dX2_callsBeside_28 rfl (ltL hL (by decide)) rfl ?_
      refine g_iinc (i := 4) (v := v4 + 1) (ls' := [(4, .int (v4 + 1)), (3, .int x7), (0, va_rf (some a0)), (1, va_rf v1), (2, .int v2)]) o dX2_callsBeside_29 4 rfl (by first | rfl | (congr 1)) (ltL hL (by decide)) rfl ?_
      refine g_goto (tgt := 5) o dX2_callsBeside_32 (by decide) ?_
      refine gsub [2, 3, 4, 1, 0] rfl ?_
      exact hk5 _ _ _ _ h
theorem w_X2_callsBeside_5_n {X : Cx} {d n : Nat} {K L : Nat → Nat} {fu : Nat} {M : Mm} {a0 : Nat} {r : Int32} (o : cOk X cX2_callsBeside RX2 (d + 1)) (hL : cL X = 5) (hr : (ch X).sig.returnType = some .int) (hk0 : K a0 = 2) (hE : cE X n K L M (some (.int r)) 0 0) (hd : 2 ≤ d + 1) : ∀ (g : Nat) (v1 : (Option Nat)) (v2 : Int32) (v3 : Int32) (v4 : Int32), f_X2_callsBeside_5 K L fu M a0 g v1 v2 v3 v4 = some r → gW X 0 0 n K L M 5 [(0, va_rf (some a0)), (1, va_rf v1), (2, .int v2), (3, .int v3), (4, .int v4)] []
  | 0, _, _, _, _, h => by cases h
  | g + 1, v1, v2, v3, v4, h => w_X2_callsBeside_5b o hL hr hk0 hE (w_X2_callsBeside_5_n o hL hr hk0 hE hd g) hd h
theorem w_X2_callsBeside_5 {X : Cx} {d n : Nat} {K L : Nat → Nat} {fu : Nat} {M : Mm} {a0 : Nat} {r : Int32} {v1 : (Option Nat)} {v2 : Int32} {v3 : Int32} {v4 : Int32} (o : cOk X cX2_callsBeside RX2 (d + 1)) (hL : cL X = 5) (hr : (ch X).sig.returnType = some .int) (hk0 : K a0 = 2) (hE : cE X n K L M (some (.int r)) 0 0) (hd : 2 ≤ d + 1) (h : f_X2_callsBeside_5 K L fu M a0 fu v1 v2 v3 v4 = some r) : gW X 0 0 n K L M 5 [(0, va_rf (some a0)), (1, va_rf v1), (2, .int v2), (3, .int v3), (4, .int v4)] [] := w_X2_callsBeside_5_n o hL hr hk0 hE hd fu v1 v2 v3 v4 h
def f_X2_callsBeside (K L : Nat → Nat) (fu : Nat) (M : Mm) (a0 : Nat) (v1 : (Option Nat)) (v2 : Int32) : Option Int32 :=
  f_X2_callsBeside_5 K L fu M a0 fu v1 v2 (0 : Int32) (0 : Int32)
set_option maxHeartbeats 4000000 in
theorem w_X2_callsBeside_0 {X : Cx} {d n : Nat} {K L : Nat → Nat} {fu : Nat} {M : Mm} {a0 : Nat} {r : Int32} {v1 : (Option Nat)} {v2 : Int32} (o : cOk X cX2_callsBeside RX2 (d + 1)) (hL : cL X = 5) (hr : (ch X).sig.returnType = some .int) (hk0 : K a0 = 2) (hE : cE X n K L M (some (.int r)) 0 0) (hd : 2 ≤ d + 1) (h : f_X2_callsBeside K L fu M a0 v1 v2 = some r) : gW X 0 0 n K L M 0 [(0, va_rf (some a0)), (1, va_rf v1), (2, .int v2)] [] := by
  unfold f_X2_callsBeside at h
  refine g_iconst (v := (0 : Int32)) o dX2_callsBeside_0 (by decide) ?_
  refine g_istore_n (i := 3) (ls' := [(3, .int (0 : Int32)), (0, va_rf (some a0)), (1, va_rf v1), (2, .int v2)]) o dX2_callsBeside_1 rfl (ltL hL (by decide)) rfl ?_
  refine g_iconst (v := (0 : Int32)) o dX2_callsBeside_2 (by decide) ?_
  refine g_istore (i := 4) (ls' := [(4, .int (0 : Int32)), (3, .int (0 : Int32)), (0, va_rf (some a0)), (1, va_rf v1), (2, .int v2)]) o dX2_callsBeside_3 (ltL hL (by decide)) rfl ?_
  refine gsub [2, 3, 4, 1, 0] rfl ?_
  exact w_X2_callsBeside_5 o hL hr hk0 hE hd h
theorem c_X2_callsBeside (l : Launch) (D : va_G) (Y : Nat → ClassId) (B : Nat) {d : Nat} {n : Nat} {K L : Nat → Nat} {fu : Nat} {M : Mm} {a0 : Nat} {v1 : (Option Nat)} {v2 : Int32} {r : Int32} (hd : 2 ≤ d) (hk0 : K a0 = 2) (h : f_X2_callsBeside K L fu M a0 v1 v2 = some r) : mC l D Y B d yX2_callsBeside cX2_callsBeside 5 (some .int) [va_rf (some a0), va_rf v1, .int v2] n K L M n K L M (some (.int r)) 0 0 := by
  obtain ⟨d, rfl⟩ : ∃ e, d = e + 1 := ⟨d - 1, by omega⟩
  refine mk_met (by decide) (by simp [lgs_r, lgs_i, lgs_l, lgs_n]) (fun X e1 e2 e3 e4 o hL hr hnm hz hc hs hE => ?_)
  subst e1 e2 e3 e4
  rw [show lv_args 0 [va_rf (some a0), va_rf v1, .int v2] = [(0, va_rf (some a0)), (1, va_rf v1), (2, .int v2)] by simp [lva_r, lva_i, lva_l, lva_n]]
  exact w_X2_callsBeside_0 o hL hr hk0 hE hd h
def f_X2_goodsBeside_5b (K L : Nat → Nat) (fu : Nat) (k5 : (Option Nat) → Int32 → Int32 → Int32 → Option Int32) (M : Mm) (a0 : Nat) (v1 : (Option Nat)) (v2 : Int32) (v3 : Int32) (v4 : Int32) : Option Int32 :=
  if v2 < v4 then
    some v3
  else
    Option.bind (rc K v1 2) (fun a1 =>
    Option.bind (f_X2_isTold K L M a1 v4) (fun x3 =>
    if x3 = 0 then
      k5 v1 v2 v3 (v4 + 1)
    else
      Option.bind (f_X2_goodsAt K L M a0 v4) (fun x5 =>
      bn (v3 + x5) (fun x7 =>
      k5 v1 v2 x7 (v4 + 1)))))
def f_X2_goodsBeside_5 (K L : Nat → Nat) (fu : Nat) (M : Mm) (a0 : Nat) : Nat → (Option Nat) → Int32 → Int32 → Int32 → Option Int32
  | 0, _, _, _, _ => none
  | g + 1, v1, v2, v3, v4 => f_X2_goodsBeside_5b K L fu (f_X2_goodsBeside_5 K L fu M a0 g) M a0 v1 v2 v3 v4
set_option maxHeartbeats 4000000 in
theorem w_X2_goodsBeside_5b {X : Cx} {d n : Nat} {K L : Nat → Nat} {fu : Nat} {M : Mm} {a0 : Nat} {r : Int32} {k5 : (Option Nat) → Int32 → Int32 → Int32 → Option Int32} {v1 : (Option Nat)} {v2 : Int32} {v3 : Int32} {v4 : Int32} (o : cOk X cX2_goodsBeside RX2 (d + 1)) (hL : cL X = 5) (hr : (ch X).sig.returnType = some .int) (hk0 : K a0 = 2) (hE : cE X n K L M (some (.int r)) 0 0) (hk5 : ∀ (v1 : (Option Nat)) (v2 : Int32) (v3 : Int32) (v4 : Int32), k5 v1 v2 v3 v4 = some r → gW X 0 0 n K L M 5 [(0, va_rf (some a0)), (1, va_rf v1), (2, .int v2), (3, .int v3), (4, .int v4)] []) (hd : 2 ≤ d + 1) (h : f_X2_goodsBeside_5b K L fu k5 M a0 v1 v2 v3 v4 = some r) : gW X 0 0 n K L M 5 [(0, va_rf (some a0)), (1, va_rf v1), (2, .int v2), (3, .int v3), (4, .int v4)] [] := by
  unfold f_X2_goodsBeside_5b at h
  refine g_iload o dX2_goodsBeside_5 4 rfl ?_
  refine g_iload_n o dX2_goodsBeside_7 2 rfl ?_
  refine g_icmp_gt (tgt := 35) o dX2_goodsBeside_8 (by decide) (fun z => ?_) (fun z => ?_)
  · have h := (if_pos z).symm.trans h
    refine g_iload_n o dX2_goodsBeside_35 3 rfl ?_
    cases h
    exact g_iret o hr hE dX2_goodsBeside_36
  · have h := (if_neg z).symm.trans h
    refine g_aload_n o dX2_goodsBeside_11 1 rfl ?_
    refine g_iload o dX2_goodsBeside_12 4 rfl ?_
    obtain ⟨a1, e2, h⟩ := ob h
    obtain ⟨x3, e4, h⟩ := ob h
    refine g_invV0 o e2 (by decide) ml_X2_35 kb_X2_isTold kv_X2_isTold rfl (c_X2_isTold (cq X) (cD X) (cY X) (cB X) (d := d) (by omega) (rc_at e2).2 e4) rfl rfl (by simp [cat_i, cat_l, cat_rf]) dX2_goodsBeside_14 ?_
    refine g_if_eq (tgt := 29) o dX2_goodsBeside_17 (by decide) (fun z => ?_) (fun z => ?_)
    · have h := (if_pos z).symm.trans h
      refine g_iinc (i := 4) (v := v4 + 1) (ls' := [(4, .int (v4 + 1)), (0, va_rf (some a0)), (1, va_rf v1), (2, .int v2), (3, .int v3)]) o dX2_goodsBeside_29 4 rfl (by first | rfl | (congr 1)) (ltL hL (by decide)) rfl ?_
      refine g_goto (tgt := 5) o dX2_goodsBeside_32 (by decide) ?_
      refine gsub [1, 2, 3, 4, 0] rfl ?_
      exact hk5 _ _ _ _ h
    · have h := (if_neg z).symm.trans h
      refine g_iload_n o dX2_goodsBeside_20 3 rfl ?_
      refine g_aload_n o dX2_goodsBeside_21 0 rfl ?_
      refine g_iload o dX2_goodsBeside_22 4 rfl ?_
      obtain ⟨x5, e6, h⟩ := ob h
      refine g_invV0 o (rc_self hk0) (by decide) ml_X2_56 kb_X2_goodsAt kv_X2_goodsAt rfl (c_X2_goodsAt (cq X) (cD X) (cY X) (cB X) (d := d) (by omega) (rc_at (rc_self hk0)).2 e6) rfl rfl (by simp [cat_i, cat_l, cat_rf]) dX2_goodsBeside_24 ?_
      refine g_iadd o dX2_goodsBeside_27 ?_
      obtain ⟨x7, e8, h⟩ := bn_at h
      refine g_topI e8 ?_
      refine g_istore_n (i := 3) (ls' := [(3, .int x7), (0, va_rf (some a0)), (1, va_rf v1), (2, .int v2), (4, .int v4)]) o dX2_goodsBeside_28 rfl (ltL hL (by decide)) rfl ?_
      refine g_iinc (i := 4) (v := v4 + 1) (ls' := [(4, .int (v4 + 1)), (3, .int x7), (0, va_rf (some a0)), (1, va_rf v1), (2, .int v2)]) o dX2_goodsBeside_29 4 rfl (by first | rfl | (congr 1)) (ltL hL (by decide)) rfl ?_
      refine g_goto (tgt := 5) o dX2_goodsBeside_32 (by decide) ?_
      refine gsub [2, 3, 4, 1, 0] rfl ?_
      exact hk5 _ _ _ _ h
theorem w_X2_goodsBeside_5_n {X : Cx} {d n : Nat} {K L : Nat → Nat} {fu : Nat} {M : Mm} {a0 : Nat} {r : Int32} (o : cOk X cX2_goodsBeside RX2 (d + 1)) (hL : cL X = 5) (hr : (ch X).sig.returnType = some .int) (hk0 : K a0 = 2) (hE : cE X n K L M (some (.int r)) 0 0) (hd : 2 ≤ d + 1) : ∀ (g : Nat) (v1 : (Option Nat)) (v2 : Int32) (v3 : Int32) (v4 : Int32), f_X2_goodsBeside_5 K L fu M a0 g v1 v2 v3 v4 = some r → gW X 0 0 n K L M 5 [(0, va_rf (some a0)), (1, va_rf v1), (2, .int v2), (3, .int v3), (4, .int v4)] []
  | 0, _, _, _, _, h => by cases h
  | g + 1, v1, v2, v3, v4, h => w_X2_goodsBeside_5b o hL hr hk0 hE (w_X2_goodsBeside_5_n o hL hr hk0 hE hd g) hd h
theorem w_X2_goodsBeside_5 {X : Cx} {d n : Nat} {K L : Nat → Nat} {fu : Nat} {M : Mm} {a0 : Nat} {r : Int32} {v1 : (Option Nat)} {v2 : Int32} {v3 : Int32} {v4 : Int32} (o : cOk X cX2_goodsBeside RX2 (d + 1)) (hL : cL X = 5) (hr : (ch X).sig.returnType = some .int) (hk0 : K a0 = 2) (hE : cE X n K L M (some (.int r)) 0 0) (hd : 2 ≤ d + 1) (h : f_X2_goodsBeside_5 K L fu M a0 fu v1 v2 v3 v4 = some r) : gW X 0 0 n K L M 5 [(0, va_rf (some a0)), (1, va_rf v1), (2, .int v2), (3, .int v3), (4, .int v4)] [] := w_X2_goodsBeside_5_n o hL hr hk0 hE hd fu v1 v2 v3 v4 h
def f_X2_goodsBeside (K L : Nat → Nat) (fu : Nat) (M : Mm) (a0 : Nat) (v1 : (Option Nat)) (v2 : Int32) : Option Int32 :=
  f_X2_goodsBeside_5 K L fu M a0 fu v1 v2 (0 : Int32) (0 : Int32)
set_option maxHeartbeats 4000000 in
theorem w_X2_goodsBeside_0 {X : Cx} {d n : Nat} {K L : Nat → Nat} {fu : Nat} {M : Mm} {a0 : Nat} {r : Int32} {v1 : (Option Nat)} {v2 : Int32} (o : cOk X cX2_goodsBeside RX2 (d + 1)) (hL : cL X = 5) (hr : (ch X).sig.returnType = some .int) (hk0 : K a0 = 2) (hE : cE X n K L M (some (.int r)) 0 0) (hd : 2 ≤ d + 1) (h : f_X2_goodsBeside K L fu M a0 v1 v2 = some r) : gW X 0 0 n K L M 0 [(0, va_rf (some a0)), (1, va_rf v1), (2, .int v2)] [] := by
  unfold f_X2_goodsBeside at h
  refine g_iconst (v := (0 : Int32)) o dX2_goodsBeside_0 (by decide) ?_
  refine g_istore_n (i := 3) (ls' := [(3, .int (0 : Int32)), (0, va_rf (some a0)), (1, va_rf v1), (2, .int v2)]) o dX2_goodsBeside_1 rfl (ltL hL (by decide)) rfl ?_
  refine g_iconst (v := (0 : Int32)) o dX2_goodsBeside_2 (by decide) ?_
  refine g_istore (i := 4) (ls' := [(4, .int (0 : Int32)), (3, .int (0 : Int32)), (0, va_rf (some a0)), (1, va_rf v1), (2, .int v2)]) o dX2_goodsBeside_3 (ltL hL (by decide)) rfl ?_
  refine gsub [2, 3, 4, 1, 0] rfl ?_
  exact w_X2_goodsBeside_5 o hL hr hk0 hE hd h
theorem c_X2_goodsBeside (l : Launch) (D : va_G) (Y : Nat → ClassId) (B : Nat) {d : Nat} {n : Nat} {K L : Nat → Nat} {fu : Nat} {M : Mm} {a0 : Nat} {v1 : (Option Nat)} {v2 : Int32} {r : Int32} (hd : 2 ≤ d) (hk0 : K a0 = 2) (h : f_X2_goodsBeside K L fu M a0 v1 v2 = some r) : mC l D Y B d yX2_goodsBeside cX2_goodsBeside 5 (some .int) [va_rf (some a0), va_rf v1, .int v2] n K L M n K L M (some (.int r)) 0 0 := by
  obtain ⟨d, rfl⟩ : ∃ e, d = e + 1 := ⟨d - 1, by omega⟩
  refine mk_met (by decide) (by simp [lgs_r, lgs_i, lgs_l, lgs_n]) (fun X e1 e2 e3 e4 o hL hr hnm hz hc hs hE => ?_)
  subst e1 e2 e3 e4
  rw [show lv_args 0 [va_rf (some a0), va_rf v1, .int v2] = [(0, va_rf (some a0)), (1, va_rf v1), (2, .int v2)] by simp [lva_r, lva_i, lva_l, lva_n]]
  exact w_X2_goodsBeside_0 o hL hr hk0 hE hd h
def f_X3_begin (K L : Nat → Nat) (a0 : Nat) (M : Mm) : Option Mm :=
  bn (ms_I M (32 * 3 + 1) a0 (-1 : Int32)) (fun M1 =>
  bn (ms_I M1 (32 * 3 + 2) a0 (-1 : Int32)) (fun M3 =>
  some M3))
set_option maxHeartbeats 4000000 in
theorem w_X3_begin_0 {X : Cx} {d n : Nat} {K L : Nat → Nat} {a0 : Nat} {r : Mm} {M : Mm} (o : cOk X cX3_begin RX3 d) (hL : cL X = 1) (hr : (ch X).sig.returnType = none) (hz : (cs X).heap.size + 0 = cB X + n) (hk0 : K a0 = 3) (hE : cE X n K L r none 0 0) (h : f_X3_begin K L a0  M = some r) : gW X 0 0 n K L M 0 [(0, va_rf (some a0))] [] := by
  unfold f_X3_begin at h
  refine g_aload_n o dX3_begin_0 0 rfl ?_
  refine g_iconst (v := (-1 : Int32)) o dX3_begin_1 (by decide) ?_
  refine g_putI o hz fl_X3_15 (rc_self hk0) (by decide) rfl rfl rfl  dX3_begin_2 ?_
  obtain ⟨M1, e2, h⟩ := bn_at h
  refine g_mem e2 ?_
  refine g_aload_n o dX3_begin_5 0 rfl ?_
  refine g_iconst (v := (-1 : Int32)) o dX3_begin_6 (by decide) ?_
  refine g_putI o hz fl_X3_19 (rc_self hk0) (by decide) rfl rfl rfl  dX3_begin_7 ?_
  obtain ⟨M3, e4, h⟩ := bn_at h
  refine g_mem e4 ?_
  cases h
  exact g_vret o hr hE dX3_begin_10
theorem c_X3_begin (l : Launch) (D : va_G) (Y : Nat → ClassId) (B : Nat) {d : Nat} {n : Nat} {K L : Nat → Nat} {M : Mm} {a0 : Nat} {r : Mm} (hd : 0 ≤ d) (hk0 : K a0 = 3) (h : f_X3_begin K L a0  M = some r) : mC l D Y B d yX3_begin cX3_begin 1 (none) [va_rf (some a0)] n K L M n K L r none 0 0 := by
  refine mk_met (by decide) (by simp [lgs_r, lgs_i, lgs_l, lgs_n]) (fun X e1 e2 e3 e4 o hL hr hnm hz hc hs hE => ?_)
  subst e1 e2 e3 e4
  rw [show lv_args 0 [va_rf (some a0)] = [(0, va_rf (some a0))] by simp [lva_r, lva_i, lva_l, lva_n]]
  exact w_X3_begin_0 o hL hr hz hk0 hE h
def f_X3_takeFrom (K L : Nat → Nat) (a0 : Nat) (v1 : (Option Nat)) (M : Mm) : Option Mm :=
  Option.bind (rc K v1 3) (fun a1 =>
  bn (ms_I M (32 * 3 + 1) a0 (mm_I M (32 * 3 + 1) a1)) (fun M3 =>
  bn (ms_I M3 (32 * 3 + 2) a0 (mm_I M3 (32 * 3 + 2) a1)) (fun M5 =>
  Option.bind (rp K L (mm_R M5 (32 * 3 + 0) a1) (0 : Int32) (20 : Int32)) (fun a7 => Option.bind (rp K L (mm_R M5 (32 * 3 + 0) a0) (0 : Int32) (20 : Int32)) (fun a9 =>
  bn (ms_A M5 a9 (va_cpy (mm_A M5 a7) (mm_A M5 a9) (0 : Int32).toNatClampNeg (0 : Int32).toNatClampNeg (20 : Int32).toNatClampNeg)) (fun M11 =>
  some M11))))))
set_option maxHeartbeats 4000000 in
theorem w_X3_takeFrom_0 {X : Cx} {d n : Nat} {K L : Nat → Nat} {a0 : Nat} {r : Mm} {v1 : (Option Nat)} {M : Mm} (o : cOk X cX3_takeFrom RX3 d) (hL : cL X = 2) (hr : (ch X).sig.returnType = none) (hz : (cs X).heap.size + 0 = cB X + n) (hk0 : K a0 = 3) (hE : cE X n K L r none 0 0) (hd : 1 ≤ d) (h : f_X3_takeFrom K L a0 v1 M = some r) : gW X 0 0 n K L M 0 [(0, va_rf (some a0)), (1, va_rf v1)] [] := by
  unfold f_X3_takeFrom at h
  refine g_aload_n o dX3_takeFrom_0 0 rfl ?_
  refine g_aload_n o dX3_takeFrom_1 1 rfl ?_
  obtain ⟨a1, e2, h⟩ := ob h
  refine g_getI o fl_X3_15 e2 (by decide) rfl dX3_takeFrom_2 ?_
  refine g_putI o hz fl_X3_15 (rc_self hk0) (by decide) rfl rfl rfl  dX3_takeFrom_5 ?_
  obtain ⟨M3, e4, h⟩ := bn_at h
  refine g_mem e4 ?_
  refine g_aload_n o dX3_takeFrom_8 0 rfl ?_
  refine g_aload_n o dX3_takeFrom_9 1 rfl ?_
  refine g_getI o fl_X3_19 e2 (by decide) rfl dX3_takeFrom_10 ?_
  refine g_putI o hz fl_X3_19 (rc_self hk0) (by decide) rfl rfl rfl  dX3_takeFrom_13 ?_
  obtain ⟨M5, e6, h⟩ := bn_at h
  refine g_mem e6 ?_
  refine g_aload_n o dX3_takeFrom_16 1 rfl ?_
  refine g_getR o fl_X3_9 e2 (by decide) rfl dX3_takeFrom_17 ?_
  refine g_iconst (v := (0 : Int32)) o dX3_takeFrom_20 (by decide) ?_
  refine g_aload_n o dX3_takeFrom_21 0 rfl ?_
  refine g_getR o fl_X3_9 (rc_self hk0) (by decide) rfl dX3_takeFrom_22 ?_
  refine g_iconst (v := (0 : Int32)) o dX3_takeFrom_25 (by decide) ?_
  refine g_bipush (v := (20 : Int32)) o dX3_takeFrom_26 (by decide) ?_
  obtain ⟨a7, e8, h⟩ := ob h
  obtain ⟨a9, e10, h⟩ := ob h
  refine g_copy o hz ml_X3_22 (by omega) e8 e10 (by simp [cat_i, cat_l, cat_rf]) dX3_takeFrom_28 ?_
  obtain ⟨M11, e12, h⟩ := bn_at h
  refine g_mem e12 ?_
  cases h
  exact g_vret o hr hE dX3_takeFrom_31
theorem c_X3_takeFrom (l : Launch) (D : va_G) (Y : Nat → ClassId) (B : Nat) {d : Nat} {n : Nat} {K L : Nat → Nat} {M : Mm} {a0 : Nat} {v1 : (Option Nat)} {r : Mm} (hd : 1 ≤ d) (hk0 : K a0 = 3) (h : f_X3_takeFrom K L a0 v1 M = some r) : mC l D Y B d yX3_takeFrom cX3_takeFrom 2 (none) [va_rf (some a0), va_rf v1] n K L M n K L r none 0 0 := by
  refine mk_met (by decide) (by simp [lgs_r, lgs_i, lgs_l, lgs_n]) (fun X e1 e2 e3 e4 o hL hr hnm hz hc hs hE => ?_)
  subst e1 e2 e3 e4
  rw [show lv_args 0 [va_rf (some a0), va_rf v1] = [(0, va_rf (some a0)), (1, va_rf v1)] by simp [lva_r, lva_i, lva_l, lva_n]]
  exact w_X3_takeFrom_0 o hL hr hz hk0 hE hd h
def f_X3_hasRow (K L : Nat → Nat) (M : Mm) (a0 : Nat) : Option Int32 :=
  if (mm_I M (32 * 3 + 1) a0) = (-1 : Int32) then
    some (0 : Int32)
  else
    some (1 : Int32)
set_option maxHeartbeats 4000000 in
theorem w_X3_hasRow_0 {X : Cx} {d n : Nat} {K L : Nat → Nat} {M : Mm} {a0 : Nat} {r : Int32} (o : cOk X cX3_hasRow RX3 d) (hL : cL X = 1) (hr : (ch X).sig.returnType = some .boolean) (hk0 : K a0 = 3) (hE : cE X n K L M (some (.int r)) 0 0) (h : f_X3_hasRow K L M a0  = some r) : gW X 0 0 n K L M 0 [(0, va_rf (some a0))] [] := by
  unfold f_X3_hasRow at h
  refine g_aload_n o dX3_hasRow_0 0 rfl ?_
  refine g_getI o fl_X3_15 (rc_self hk0) (by decide) rfl dX3_hasRow_1 ?_
  refine g_iconst (v := (-1 : Int32)) o dX3_hasRow_4 (by decide) ?_
  refine g_icmp_eq (tgt := 12) o dX3_hasRow_5 (by decide) (fun z => ?_) (fun z => ?_)
  · have h := (if_pos z).symm.trans h
    refine g_iconst (v := (0 : Int32)) o dX3_hasRow_12 (by decide) ?_
    cases h
    exact g_zret o hr (by decide) hE dX3_hasRow_13
  · have h := (if_neg z).symm.trans h
    refine g_iconst (v := (1 : Int32)) o dX3_hasRow_8 (by decide) ?_
    refine g_goto (tgt := 13) o dX3_hasRow_9 (by decide) ?_
    cases h
    exact g_zret o hr (by decide) hE dX3_hasRow_13
theorem c_X3_hasRow (l : Launch) (D : va_G) (Y : Nat → ClassId) (B : Nat) {d : Nat} {n : Nat} {K L : Nat → Nat} {M : Mm} {a0 : Nat} {r : Int32} (hd : 0 ≤ d) (hk0 : K a0 = 3) (h : f_X3_hasRow K L M a0  = some r) : mC l D Y B d yX3_hasRow cX3_hasRow 1 (some .boolean) [va_rf (some a0)] n K L M n K L M (some (.int r)) 0 0 := by
  refine mk_met (by decide) (by simp [lgs_r, lgs_i, lgs_l, lgs_n]) (fun X e1 e2 e3 e4 o hL hr hnm hz hc hs hE => ?_)
  subst e1 e2 e3 e4
  rw [show lv_args 0 [va_rf (some a0)] = [(0, va_rf (some a0))] by simp [lva_r, lva_i, lva_l, lva_n]]
  exact w_X3_hasRow_0 o hL hr hk0 hE h
def f_X3_isStoodOn (K L : Nat → Nat) (M : Mm) (a0 : Nat) : Option Int32 :=
  if (mm_I M (32 * 3 + 2) a0) = (-1 : Int32) then
    some (0 : Int32)
  else
    some (1 : Int32)
set_option maxHeartbeats 4000000 in
theorem w_X3_isStoodOn_0 {X : Cx} {d n : Nat} {K L : Nat → Nat} {M : Mm} {a0 : Nat} {r : Int32} (o : cOk X cX3_isStoodOn RX3 d) (hL : cL X = 1) (hr : (ch X).sig.returnType = some .boolean) (hk0 : K a0 = 3) (hE : cE X n K L M (some (.int r)) 0 0) (h : f_X3_isStoodOn K L M a0  = some r) : gW X 0 0 n K L M 0 [(0, va_rf (some a0))] [] := by
  unfold f_X3_isStoodOn at h
  refine g_aload_n o dX3_isStoodOn_0 0 rfl ?_
  refine g_getI o fl_X3_19 (rc_self hk0) (by decide) rfl dX3_isStoodOn_1 ?_
  refine g_iconst (v := (-1 : Int32)) o dX3_isStoodOn_4 (by decide) ?_
  refine g_icmp_eq (tgt := 12) o dX3_isStoodOn_5 (by decide) (fun z => ?_) (fun z => ?_)
  · have h := (if_pos z).symm.trans h
    refine g_iconst (v := (0 : Int32)) o dX3_isStoodOn_12 (by decide) ?_
    cases h
    exact g_zret o hr (by decide) hE dX3_isStoodOn_13
  · have h := (if_neg z).symm.trans h
    refine g_iconst (v := (1 : Int32)) o dX3_isStoodOn_8 (by decide) ?_
    refine g_goto (tgt := 13) o dX3_isStoodOn_9 (by decide) ?_
    cases h
    exact g_zret o hr (by decide) hE dX3_isStoodOn_13
theorem c_X3_isStoodOn (l : Launch) (D : va_G) (Y : Nat → ClassId) (B : Nat) {d : Nat} {n : Nat} {K L : Nat → Nat} {M : Mm} {a0 : Nat} {r : Int32} (hd : 0 ≤ d) (hk0 : K a0 = 3) (h : f_X3_isStoodOn K L M a0  = some r) : mC l D Y B d yX3_isStoodOn cX3_isStoodOn 1 (some .boolean) [va_rf (some a0)] n K L M n K L M (some (.int r)) 0 0 := by
  refine mk_met (by decide) (by simp [lgs_r, lgs_i, lgs_l, lgs_n]) (fun X e1 e2 e3 e4 o hL hr hnm hz hc hs hE => ?_)
  subst e1 e2 e3 e4
  rw [show lv_args 0 [va_rf (some a0)] = [(0, va_rf (some a0))] by simp [lva_r, lva_i, lva_l, lva_n]]
  exact w_X3_isStoodOn_0 o hL hr hk0 hE h
def f_X3_layRow (K L : Nat → Nat) (fu : Nat) (a0 : Nat) (v1 : Int32) (M : Mm) : Option Mm :=
  Option.bind (f_J7_fill_53178 K L fu (mm_R M (32 * 3 + 0) a0) (0 : Int32) M) (fun x1 =>
  bn (ms_I x1 (32 * 3 + 1) a0 (if (20 : Int32) < v1 then (20 : Int32) else v1)) (fun M3 =>
  some M3))
set_option maxHeartbeats 4000000 in
theorem w_X3_layRow_0 {X : Cx} {d n : Nat} {K L : Nat → Nat} {fu : Nat} {a0 : Nat} {r : Mm} {v1 : Int32} {M : Mm} (o : cOk X cX3_layRow RX3 (d + 1)) (hL : cL X = 2) (hr : (ch X).sig.returnType = none) (hz : (cs X).heap.size + 0 = cB X + n) (hk0 : K a0 = 3) (hE : cE X n K L r none 0 0) (hd : 1 ≤ d + 1) (h : f_X3_layRow K L fu a0 v1 M = some r) : gW X 0 0 n K L M 0 [(0, va_rf (some a0)), (1, .int v1)] [] := by
  unfold f_X3_layRow at h
  refine g_aload_n o dX3_layRow_0 0 rfl ?_
  refine g_getR o fl_X3_9 (rc_self hk0) (by decide) rfl dX3_layRow_1 ?_
  refine g_iconst (v := (0 : Int32)) o dX3_layRow_4 (by decide) ?_
  obtain ⟨x1, e2, h⟩ := ob h
  refine g_invS0 o ml_X3_28 kb_J7_fill_53178 ks_J7_fill_53178 (c_J7_fill_53178 (cq X) (cD X) (cY X) (cB X) (d := d) (by omega) e2) rfl rfl (by simp [cat_i, cat_l, cat_rf]) dX3_layRow_5 ?_
  refine g_aload_n o dX3_layRow_8 0 rfl ?_
  refine g_iload_n o dX3_layRow_9 1 rfl ?_
  refine g_bipush (v := (20 : Int32)) o dX3_layRow_10 (by decide) ?_
  refine g_mmin o ml_X3_34 (by omega) (by simp [cat_i, cat_l, cat_rf]) dX3_layRow_12 ?_
  refine g_putI o hz fl_X3_15 (rc_self hk0) (by decide) rfl rfl rfl  dX3_layRow_15 ?_
  obtain ⟨M3, e4, h⟩ := bn_at h
  refine g_mem e4 ?_
  cases h
  exact g_vret o hr hE dX3_layRow_18
theorem c_X3_layRow (l : Launch) (D : va_G) (Y : Nat → ClassId) (B : Nat) {d : Nat} {n : Nat} {K L : Nat → Nat} {fu : Nat} {M : Mm} {a0 : Nat} {v1 : Int32} {r : Mm} (hd : 1 ≤ d) (hk0 : K a0 = 3) (h : f_X3_layRow K L fu a0 v1 M = some r) : mC l D Y B d yX3_layRow cX3_layRow 2 (none) [va_rf (some a0), .int v1] n K L M n K L r none 0 0 := by
  obtain ⟨d, rfl⟩ : ∃ e, d = e + 1 := ⟨d - 1, by omega⟩
  refine mk_met (by decide) (by simp [lgs_r, lgs_i, lgs_l, lgs_n]) (fun X e1 e2 e3 e4 o hL hr hnm hz hc hs hE => ?_)
  subst e1 e2 e3 e4
  rw [show lv_args 0 [va_rf (some a0), .int v1] = [(0, va_rf (some a0)), (1, .int v1)] by simp [lva_r, lva_i, lva_l, lva_n]]
  exact w_X3_layRow_0 o hL hr hz hk0 hE hd h
def f_X3_dropRow (K L : Nat → Nat) (a0 : Nat) (M : Mm) : Option (Int32 × Mm) :=
  Option.bind (f_X3_hasRow K L M a0) (fun x1 =>
  bn (ms_I M (32 * 3 + 1) a0 (-1 : Int32)) (fun M3 =>
  Option.bind (zb x1) (fun u6 =>
  some (x1, M3))))
set_option maxHeartbeats 4000000 in
theorem w_X3_dropRow_0 {X : Cx} {d n : Nat} {K L : Nat → Nat} {a0 : Nat} {r : (Int32 × Mm)} {M : Mm} (o : cOk X cX3_dropRow RX3 (d + 1)) (hL : cL X = 2) (hr : (ch X).sig.returnType = some .boolean) (hz : (cs X).heap.size + 0 = cB X + n) (hk0 : K a0 = 3) (hE : cE X n K L r.2 (some (.int r.1)) 0 0) (hd : 1 ≤ d + 1) (h : f_X3_dropRow K L a0  M = some r) : gW X 0 0 n K L M 0 [(0, va_rf (some a0))] [] := by
  unfold f_X3_dropRow at h
  refine g_aload_n o dX3_dropRow_0 0 rfl ?_
  obtain ⟨x1, e2, h⟩ := ob h
  refine g_invV0 o (rc_self hk0) (by decide) ml_X3_40 kb_X3_hasRow kv_X3_hasRow rfl (c_X3_hasRow (cq X) (cD X) (cY X) (cB X) (d := d) (by omega) (rc_at (rc_self hk0)).2 e2) rfl rfl (by simp [cat_i, cat_l, cat_rf]) dX3_dropRow_1 ?_
  refine g_istore_n (i := 1) (ls' := [(1, .int x1), (0, va_rf (some a0))]) o dX3_dropRow_4 rfl (ltL hL (by decide)) rfl ?_
  refine g_aload_n o dX3_dropRow_5 1 rfl ?_
  refine g_iconst (v := (-1 : Int32)) o dX3_dropRow_6 (by decide) ?_
  refine g_putI o hz fl_X3_15 (rc_self hk0) (by decide) rfl rfl rfl  dX3_dropRow_7 ?_
  obtain ⟨M3, e4, h⟩ := bn_at h
  refine g_mem e4 ?_
  refine g_iload_n o dX3_dropRow_10 0 rfl ?_
  obtain ⟨u6, e5, h⟩ := ob h
  cases h
  exact g_zret o hr (zb_at e5) hE dX3_dropRow_11
theorem c_X3_dropRow (l : Launch) (D : va_G) (Y : Nat → ClassId) (B : Nat) {d : Nat} {n : Nat} {K L : Nat → Nat} {M : Mm} {a0 : Nat} {r : (Int32 × Mm)} (hd : 1 ≤ d) (hk0 : K a0 = 3) (h : f_X3_dropRow K L a0  M = some r) : mC l D Y B d yX3_dropRow cX3_dropRow 2 (some .boolean) [va_rf (some a0)] n K L M n K L r.2 (some (.int r.1)) 0 0 := by
  obtain ⟨d, rfl⟩ : ∃ e, d = e + 1 := ⟨d - 1, by omega⟩
  refine mk_met (by decide) (by simp [lgs_r, lgs_i, lgs_l, lgs_n]) (fun X e1 e2 e3 e4 o hL hr hnm hz hc hs hE => ?_)
  subst e1 e2 e3 e4
  rw [show lv_args 0 [va_rf (some a0)] = [(0, va_rf (some a0))] by simp [lva_r, lva_i, lva_l, lva_n]]
  exact w_X3_dropRow_0 o hL hr hz hk0 hE hd h
def f_X3_hasStep (K L : Nat → Nat) (M : Mm) (a0 : Nat) (v1 : Int32) : Option Int32 :=
  if v1 < 0 then
    some (0 : Int32)
  else
    if (mm_I M (32 * 3 + 1) a0) ≤ v1 then
      some (0 : Int32)
    else
      some (1 : Int32)
set_option maxHeartbeats 4000000 in
theorem w_X3_hasStep_0 {X : Cx} {d n : Nat} {K L : Nat → Nat} {M : Mm} {a0 : Nat} {r : Int32} {v1 : Int32} (o : cOk X cX3_hasStep RX3 d) (hL : cL X = 2) (hr : (ch X).sig.returnType = some .boolean) (hk0 : K a0 = 3) (hE : cE X n K L M (some (.int r)) 0 0) (h : f_X3_hasStep K L M a0 v1 = some r) : gW X 0 0 n K L M 0 [(0, va_rf (some a0)), (1, .int v1)] [] := by
  unfold f_X3_hasStep at h
  refine g_iload_n o dX3_hasStep_0 1 rfl ?_
  refine g_if_lt (tgt := 16) o dX3_hasStep_1 (by decide) (fun z => ?_) (fun z => ?_)
  · have h := (if_pos z).symm.trans h
    refine g_iconst (v := (0 : Int32)) o dX3_hasStep_16 (by decide) ?_
    cases h
    exact g_zret o hr (by decide) hE dX3_hasStep_17
  · have h := (if_neg z).symm.trans h
    refine g_iload_n o dX3_hasStep_4 1 rfl ?_
    refine g_aload_n o dX3_hasStep_5 0 rfl ?_
    refine g_getI o fl_X3_15 (rc_self hk0) (by decide) rfl dX3_hasStep_6 ?_
    refine g_icmp_ge (tgt := 16) o dX3_hasStep_9 (by decide) (fun z => ?_) (fun z => ?_)
    · have h := (if_pos z).symm.trans h
      refine g_iconst (v := (0 : Int32)) o dX3_hasStep_16 (by decide) ?_
      cases h
      exact g_zret o hr (by decide) hE dX3_hasStep_17
    · have h := (if_neg z).symm.trans h
      refine g_iconst (v := (1 : Int32)) o dX3_hasStep_12 (by decide) ?_
      refine g_goto (tgt := 17) o dX3_hasStep_13 (by decide) ?_
      cases h
      exact g_zret o hr (by decide) hE dX3_hasStep_17
theorem c_X3_hasStep (l : Launch) (D : va_G) (Y : Nat → ClassId) (B : Nat) {d : Nat} {n : Nat} {K L : Nat → Nat} {M : Mm} {a0 : Nat} {v1 : Int32} {r : Int32} (hd : 0 ≤ d) (hk0 : K a0 = 3) (h : f_X3_hasStep K L M a0 v1 = some r) : mC l D Y B d yX3_hasStep cX3_hasStep 2 (some .boolean) [va_rf (some a0), .int v1] n K L M n K L M (some (.int r)) 0 0 := by
  refine mk_met (by decide) (by simp [lgs_r, lgs_i, lgs_l, lgs_n]) (fun X e1 e2 e3 e4 o hL hr hnm hz hc hs hE => ?_)
  subst e1 e2 e3 e4
  rw [show lv_args 0 [va_rf (some a0), .int v1] = [(0, va_rf (some a0)), (1, .int v1)] by simp [lva_r, lva_i, lva_l, lva_n]]
  exact w_X3_hasStep_0 o hL hr hk0 hE h
def f_X3_hasSteps (K L : Nat → Nat) (M : Mm) (a0 : Nat) (v1 : Int32) (v2 : Int32) : Option Int32 :=
  Option.bind (f_X11_within v1 (mm_I M (32 * 3 + 1) a0)) (fun x1 =>
  if x1 = 0 then
    some (0 : Int32)
  else
    Option.bind (f_X11_within v2 ((mm_I M (32 * 3 + 1) a0) - v1)) (fun x3 =>
    if x3 = 0 then
      some (0 : Int32)
    else
      some (1 : Int32)))
set_option maxHeartbeats 4000000 in
theorem w_X3_hasSteps_0 {X : Cx} {d n : Nat} {K L : Nat → Nat} {M : Mm} {a0 : Nat} {r : Int32} {v1 : Int32} {v2 : Int32} (o : cOk X cX3_hasSteps RX3 (d + 1)) (hL : cL X = 3) (hr : (ch X).sig.returnType = some .boolean) (hk0 : K a0 = 3) (hE : cE X n K L M (some (.int r)) 0 0) (hd : 1 ≤ d + 1) (h : f_X3_hasSteps K L M a0 v1 v2 = some r) : gW X 0 0 n K L M 0 [(0, va_rf (some a0)), (1, .int v1), (2, .int v2)] [] := by
  unfold f_X3_hasSteps at h
  refine g_iload_n o dX3_hasSteps_0 1 rfl ?_
  refine g_aload_n o dX3_hasSteps_1 0 rfl ?_
  refine g_getI o fl_X3_15 (rc_self hk0) (by decide) rfl dX3_hasSteps_2 ?_
  obtain ⟨x1, e2, h⟩ := ob h
  refine g_invSN0 o mn_X3_44 kb_X11_within ks_X11_within (c_X11_within (cq X) (cD X) (cY X) (cB X) (d := d) (by omega) e2) rfl rfl (by simp [cat_i, cat_l, cat_rf]) dX3_hasSteps_5 ?_
  refine g_if_eq (tgt := 28) o dX3_hasSteps_8 (by decide) (fun z => ?_) (fun z => ?_)
  · have h := (if_pos z).symm.trans h
    refine g_iconst (v := (0 : Int32)) o dX3_hasSteps_28 (by decide) ?_
    cases h
    exact g_zret o hr (by decide) hE dX3_hasSteps_29
  · have h := (if_neg z).symm.trans h
    refine g_iload_n o dX3_hasSteps_11 2 rfl ?_
    refine g_aload_n o dX3_hasSteps_12 0 rfl ?_
    refine g_getI o fl_X3_15 (rc_self hk0) (by decide) rfl dX3_hasSteps_13 ?_
    refine g_iload_n o dX3_hasSteps_16 1 rfl ?_
    refine g_isub o dX3_hasSteps_17 ?_
    obtain ⟨x3, e4, h⟩ := ob h
    refine g_invSN0 o mn_X3_44 kb_X11_within ks_X11_within (c_X11_within (cq X) (cD X) (cY X) (cB X) (d := d) (by omega) e4) rfl rfl (by simp [cat_i, cat_l, cat_rf]) dX3_hasSteps_18 ?_
    refine g_if_eq (tgt := 28) o dX3_hasSteps_21 (by decide) (fun z => ?_) (fun z => ?_)
    · have h := (if_pos z).symm.trans h
      refine g_iconst (v := (0 : Int32)) o dX3_hasSteps_28 (by decide) ?_
      cases h
      exact g_zret o hr (by decide) hE dX3_hasSteps_29
    · have h := (if_neg z).symm.trans h
      refine g_iconst (v := (1 : Int32)) o dX3_hasSteps_24 (by decide) ?_
      refine g_goto (tgt := 29) o dX3_hasSteps_25 (by decide) ?_
      cases h
      exact g_zret o hr (by decide) hE dX3_hasSteps_29
theorem c_X3_hasSteps (l : Launch) (D : va_G) (Y : Nat → ClassId) (B : Nat) {d : Nat} {n : Nat} {K L : Nat → Nat} {M : Mm} {a0 : Nat} {v1 : Int32} {v2 : Int32} {r : Int32} (hd : 1 ≤ d) (hk0 : K a0 = 3) (h : f_X3_hasSteps K L M a0 v1 v2 = some r) : mC l D Y B d yX3_hasSteps cX3_hasSteps 3 (some .boolean) [va_rf (some a0), .int v1, .int v2] n K L M n K L M (some (.int r)) 0 0 := by
  obtain ⟨d, rfl⟩ : ∃ e, d = e + 1 := ⟨d - 1, by omega⟩
  refine mk_met (by decide) (by simp [lgs_r, lgs_i, lgs_l, lgs_n]) (fun X e1 e2 e3 e4 o hL hr hnm hz hc hs hE => ?_)
  subst e1 e2 e3 e4
  rw [show lv_args 0 [va_rf (some a0), .int v1, .int v2] = [(0, va_rf (some a0)), (1, .int v1), (2, .int v2)] by simp [lva_r, lva_i, lva_l, lva_n]]
  exact w_X3_hasSteps_0 o hL hr hk0 hE hd h
def f_X3_stepAt (K L : Nat → Nat) (M : Mm) (a0 : Nat) (v1 : Int32) : Option Int32 :=
  Option.bind (f_X3_hasStep K L M a0 v1) (fun x1 =>
  if x1 = 0 then
    some (0 : Int32)
  else
    Option.bind (rx K L (mm_R M (32 * 3 + 0) a0) 13 v1) (fun a3 =>
    some (mm_A M a3 v1.toNatClampNeg)))
set_option maxHeartbeats 4000000 in
theorem w_X3_stepAt_0 {X : Cx} {d n : Nat} {K L : Nat → Nat} {M : Mm} {a0 : Nat} {r : Int32} {v1 : Int32} (o : cOk X cX3_stepAt RX3 (d + 1)) (hL : cL X = 2) (hr : (ch X).sig.returnType = some .int) (hk0 : K a0 = 3) (hE : cE X n K L M (some (.int r)) 0 0) (hd : 1 ≤ d + 1) (h : f_X3_stepAt K L M a0 v1 = some r) : gW X 0 0 n K L M 0 [(0, va_rf (some a0)), (1, .int v1)] [] := by
  unfold f_X3_stepAt at h
  refine g_aload_n o dX3_stepAt_0 0 rfl ?_
  refine g_iload_n o dX3_stepAt_1 1 rfl ?_
  obtain ⟨x1, e2, h⟩ := ob h
  refine g_invV0 o (rc_self hk0) (by decide) ml_X3_48 kb_X3_hasStep kv_X3_hasStep rfl (c_X3_hasStep (cq X) (cD X) (cY X) (cB X) (d := d) (by omega) (rc_at (rc_self hk0)).2 e2) rfl rfl (by simp [cat_i, cat_l, cat_rf]) dX3_stepAt_2 ?_
  refine g_if_eq (tgt := 17) o dX3_stepAt_5 (by decide) (fun z => ?_) (fun z => ?_)
  · have h := (if_pos z).symm.trans h
    refine g_iconst (v := (0 : Int32)) o dX3_stepAt_17 (by decide) ?_
    cases h
    exact g_iret o hr hE dX3_stepAt_18
  · have h := (if_neg z).symm.trans h
    refine g_aload_n o dX3_stepAt_8 0 rfl ?_
    refine g_getR o fl_X3_9 (rc_self hk0) (by decide) rfl dX3_stepAt_9 ?_
    refine g_iload_n o dX3_stepAt_12 1 rfl ?_
    obtain ⟨a3, e4, h⟩ := ob h
    refine g_iald o e4 dX3_stepAt_13 ?_
    refine g_goto (tgt := 18) o dX3_stepAt_14 (by decide) ?_
    cases h
    exact g_iret o hr hE dX3_stepAt_18
theorem c_X3_stepAt (l : Launch) (D : va_G) (Y : Nat → ClassId) (B : Nat) {d : Nat} {n : Nat} {K L : Nat → Nat} {M : Mm} {a0 : Nat} {v1 : Int32} {r : Int32} (hd : 1 ≤ d) (hk0 : K a0 = 3) (h : f_X3_stepAt K L M a0 v1 = some r) : mC l D Y B d yX3_stepAt cX3_stepAt 2 (some .int) [va_rf (some a0), .int v1] n K L M n K L M (some (.int r)) 0 0 := by
  obtain ⟨d, rfl⟩ : ∃ e, d = e + 1 := ⟨d - 1, by omega⟩
  refine mk_met (by decide) (by simp [lgs_r, lgs_i, lgs_l, lgs_n]) (fun X e1 e2 e3 e4 o hL hr hnm hz hc hs hE => ?_)
  subst e1 e2 e3 e4
  rw [show lv_args 0 [va_rf (some a0), .int v1] = [(0, va_rf (some a0)), (1, .int v1)] by simp [lva_r, lva_i, lva_l, lva_n]]
  exact w_X3_stepAt_0 o hL hr hk0 hE hd h
def f_X3_setStep (K L : Nat → Nat) (a0 : Nat) (v1 : Int32) (v2 : Int32) (M : Mm) : Option Mm :=
  Option.bind (f_X3_hasStep K L M a0 v1) (fun x1 =>
  if x1 = 0 then
    some M
  else
    Option.bind (rx K L (mm_R M (32 * 3 + 0) a0) 13 v1) (fun a3 =>
    bn (ms_A M a3 (upd (mm_A M a3) v1.toNatClampNeg v2)) (fun M5 =>
    some M5)))
set_option maxHeartbeats 4000000 in
theorem w_X3_setStep_0 {X : Cx} {d n : Nat} {K L : Nat → Nat} {a0 : Nat} {r : Mm} {v1 : Int32} {v2 : Int32} {M : Mm} (o : cOk X cX3_setStep RX3 (d + 1)) (hL : cL X = 3) (hr : (ch X).sig.returnType = none) (hz : (cs X).heap.size + 0 = cB X + n) (hk0 : K a0 = 3) (hE : cE X n K L r none 0 0) (hd : 1 ≤ d + 1) (h : f_X3_setStep K L a0 v1 v2 M = some r) : gW X 0 0 n K L M 0 [(0, va_rf (some a0)), (1, .int v1), (2, .int v2)] [] := by
  unfold f_X3_setStep at h
  refine g_aload_n o dX3_setStep_0 0 rfl ?_
  refine g_iload_n o dX3_setStep_1 1 rfl ?_
  obtain ⟨x1, e2, h⟩ := ob h
  refine g_invV0 o (rc_self hk0) (by decide) ml_X3_48 kb_X3_hasStep kv_X3_hasStep rfl (c_X3_hasStep (cq X) (cD X) (cY X) (cB X) (d := d) (by omega) (rc_at (rc_self hk0)).2 e2) rfl rfl (by simp [cat_i, cat_l, cat_rf]) dX3_setStep_2 ?_
  refine g_if_eq (tgt := 15) o dX3_setStep_5 (by decide) (fun z => ?_) (fun z => ?_)
  · have h := (if_pos z).symm.trans h
    cases h
    exact g_vret o hr hE dX3_setStep_15
  · have h := (if_neg z).symm.trans h
    refine g_aload_n o dX3_setStep_8 0 rfl ?_
    refine g_getR o fl_X3_9 (rc_self hk0) (by decide) rfl dX3_setStep_9 ?_
    refine g_iload_n o dX3_setStep_12 1 rfl ?_
    refine g_iload_n o dX3_setStep_13 2 rfl ?_
    obtain ⟨a3, e4, h⟩ := ob h
    refine g_iast o hz e4  dX3_setStep_14 ?_
    obtain ⟨M5, e6, h⟩ := bn_at h
    refine g_mem e6 ?_
    cases h
    exact g_vret o hr hE dX3_setStep_15
theorem c_X3_setStep (l : Launch) (D : va_G) (Y : Nat → ClassId) (B : Nat) {d : Nat} {n : Nat} {K L : Nat → Nat} {M : Mm} {a0 : Nat} {v1 : Int32} {v2 : Int32} {r : Mm} (hd : 1 ≤ d) (hk0 : K a0 = 3) (h : f_X3_setStep K L a0 v1 v2 M = some r) : mC l D Y B d yX3_setStep cX3_setStep 3 (none) [va_rf (some a0), .int v1, .int v2] n K L M n K L r none 0 0 := by
  obtain ⟨d, rfl⟩ : ∃ e, d = e + 1 := ⟨d - 1, by omega⟩
  refine mk_met (by decide) (by simp [lgs_r, lgs_i, lgs_l, lgs_n]) (fun X e1 e2 e3 e4 o hL hr hnm hz hc hs hE => ?_)
  subst e1 e2 e3 e4
  rw [show lv_args 0 [va_rf (some a0), .int v1, .int v2] = [(0, va_rf (some a0)), (1, .int v1), (2, .int v2)] by simp [lva_r, lva_i, lva_l, lva_n]]
  exact w_X3_setStep_0 o hL hr hz hk0 hE hd h
def f_X3_copySteps (K L : Nat → Nat) (a0 : Nat) (v1 : (Option Nat)) (v2 : Int32) (v3 : Int32) (v4 : Int32) (M : Mm) : Option Mm :=
  Option.bind (rc K v1 3) (fun a1 =>
  Option.bind (f_X3_hasSteps K L M a1 v2 v4) (fun x3 =>
  if x3 = 0 then
    some M
  else
    Option.bind (f_X3_hasSteps K L M a0 v3 v4) (fun x5 =>
    if x5 = 0 then
      some M
    else
      Option.bind (rp K L (mm_R M (32 * 3 + 0) a1) v2 v4) (fun a7 => Option.bind (rp K L (mm_R M (32 * 3 + 0) a0) v3 v4) (fun a9 =>
      bn (ms_A M a9 (va_cpy (mm_A M a7) (mm_A M a9) v2.toNatClampNeg v3.toNatClampNeg v4.toNatClampNeg)) (fun M11 =>
      some M11))))))
set_option maxHeartbeats 4000000 in
theorem w_X3_copySteps_0 {X : Cx} {d n : Nat} {K L : Nat → Nat} {a0 : Nat} {r : Mm} {v1 : (Option Nat)} {v2 : Int32} {v3 : Int32} {v4 : Int32} {M : Mm} (o : cOk X cX3_copySteps RX3 (d + 1)) (hL : cL X = 5) (hr : (ch X).sig.returnType = none) (hz : (cs X).heap.size + 0 = cB X + n) (hk0 : K a0 = 3) (hE : cE X n K L r none 0 0) (hd : 2 ≤ d + 1) (h : f_X3_copySteps K L a0 v1 v2 v3 v4 M = some r) : gW X 0 0 n K L M 0 [(0, va_rf (some a0)), (1, va_rf v1), (2, .int v2), (3, .int v3), (4, .int v4)] [] := by
  unfold f_X3_copySteps at h
  refine g_aload_n o dX3_copySteps_0 1 rfl ?_
  refine g_iload_n o dX3_copySteps_1 2 rfl ?_
  refine g_iload o dX3_copySteps_2 4 rfl ?_
  obtain ⟨a1, e2, h⟩ := ob h
  obtain ⟨x3, e4, h⟩ := ob h
  refine g_invV0 o e2 (by decide) ml_X3_52 kb_X3_hasSteps kv_X3_hasSteps rfl (c_X3_hasSteps (cq X) (cD X) (cY X) (cB X) (d := d) (by omega) (rc_at e2).2 e4) rfl rfl (by simp [cat_i, cat_l, cat_rf]) dX3_copySteps_4 ?_
  refine g_if_eq (tgt := 35) o dX3_copySteps_7 (by decide) (fun z => ?_) (fun z => ?_)
  · have h := (if_pos z).symm.trans h
    cases h
    exact g_vret o hr hE dX3_copySteps_35
  · have h := (if_neg z).symm.trans h
    refine g_aload_n o dX3_copySteps_10 0 rfl ?_
    refine g_iload_n o dX3_copySteps_11 3 rfl ?_
    refine g_iload o dX3_copySteps_12 4 rfl ?_
    obtain ⟨x5, e6, h⟩ := ob h
    refine g_invV0 o (rc_self hk0) (by decide) ml_X3_52 kb_X3_hasSteps kv_X3_hasSteps rfl (c_X3_hasSteps (cq X) (cD X) (cY X) (cB X) (d := d) (by omega) (rc_at (rc_self hk0)).2 e6) rfl rfl (by simp [cat_i, cat_l, cat_rf]) dX3_copySteps_14 ?_
    refine g_if_eq (tgt := 35) o dX3_copySteps_17 (by decide) (fun z => ?_) (fun z => ?_)
    · have h := (if_pos z).symm.trans h
      cases h
      exact g_vret o hr hE dX3_copySteps_35
    · have h := (if_neg z).symm.trans h
      refine g_aload_n o dX3_copySteps_20 1 rfl ?_
      refine g_getR o fl_X3_9 e2 (by decide) rfl dX3_copySteps_21 ?_
      refine g_iload_n o dX3_copySteps_24 2 rfl ?_
      refine g_aload_n o dX3_copySteps_25 0 rfl ?_
      refine g_getR o fl_X3_9 (rc_self hk0) (by decide) rfl dX3_copySteps_26 ?_
      refine g_iload_n o dX3_copySteps_29 3 rfl ?_
      refine g_iload o dX3_copySteps_30 4 rfl ?_
      obtain ⟨a7, e8, h⟩ := ob h
      obtain ⟨a9, e10, h⟩ := ob h
      refine g_copy o hz ml_X3_22 (by omega) e8 e10 (by simp [cat_i, cat_l, cat_rf]) dX3_copySteps_32 ?_
      obtain ⟨M11, e12, h⟩ := bn_at h
      refine g_mem e12 ?_
      cases h
      exact g_vret o hr hE dX3_copySteps_35
theorem c_X3_copySteps (l : Launch) (D : va_G) (Y : Nat → ClassId) (B : Nat) {d : Nat} {n : Nat} {K L : Nat → Nat} {M : Mm} {a0 : Nat} {v1 : (Option Nat)} {v2 : Int32} {v3 : Int32} {v4 : Int32} {r : Mm} (hd : 2 ≤ d) (hk0 : K a0 = 3) (h : f_X3_copySteps K L a0 v1 v2 v3 v4 M = some r) : mC l D Y B d yX3_copySteps cX3_copySteps 5 (none) [va_rf (some a0), va_rf v1, .int v2, .int v3, .int v4] n K L M n K L r none 0 0 := by
  obtain ⟨d, rfl⟩ : ∃ e, d = e + 1 := ⟨d - 1, by omega⟩
  refine mk_met (by decide) (by simp [lgs_r, lgs_i, lgs_l, lgs_n]) (fun X e1 e2 e3 e4 o hL hr hnm hz hc hs hE => ?_)
  subst e1 e2 e3 e4
  rw [show lv_args 0 [va_rf (some a0), va_rf v1, .int v2, .int v3, .int v4] = [(0, va_rf (some a0)), (1, va_rf v1), (2, .int v2), (3, .int v3), (4, .int v4)] by simp [lva_r, lva_i, lva_l, lva_n]]
  exact w_X3_copySteps_0 o hL hr hz hk0 hE hd h
def f_X4_init (a0 : Nat) : Option Unit :=
  some ()
set_option maxHeartbeats 4000000 in
theorem w_X4_init_0 {X : Cx} {d n : Nat} {K L : Nat → Nat} {M : Mm} {a0 : Nat} {r : Unit} (o : cOk X cX4_init RX4 d) (hL : cL X = 1) (hr : (ch X).sig.returnType = none) (hk0 : K a0 = 4) (hE : cE X n K L M none 0 0) (hd : 1 ≤ d) (h : f_X4_init a0  = some r) : gW X 0 0 n K L M 0 [(0, va_rf (some a0))] [] := by
  unfold f_X4_init at h
  refine g_aload_n o dX4_init_0 0 rfl ?_
  refine g_objInit o (by omega) ml_X4_3 (by simp [cat_i, cat_l, cat_rf]) dX4_init_1 ?_
  cases h
  exact g_vret o hr hE dX4_init_4
theorem c_X4_init (l : Launch) (D : va_G) (Y : Nat → ClassId) (B : Nat) {d : Nat} {n : Nat} {K L : Nat → Nat} {M : Mm} {a0 : Nat} {r : Unit} (hd : 1 ≤ d) (hk0 : K a0 = 4) (h : f_X4_init a0  = some r) : mC l D Y B d yX4_init cX4_init 1 (none) [va_rf (some a0)] n K L M n K L M none 0 0 := by
  refine mk_met (by decide) (by simp [lgs_r, lgs_i, lgs_l, lgs_n]) (fun X e1 e2 e3 e4 o hL hr hnm hz hc hs hE => ?_)
  subst e1 e2 e3 e4
  rw [show lv_args 0 [va_rf (some a0)] = [(0, va_rf (some a0))] by simp [lva_r, lva_i, lva_l, lva_n]]
  exact w_X4_init_0 o hL hr hk0 hE hd h
def f_X4_content (K L : Nat → Nat) (M : Mm) (a0 : Nat) : Option Int32 :=
  if (mm_R M (32 * 4 + 0) a0) = none then
    if (mm_I M (32 * 4 + 1) a0) = 0 then
      some (-1 : Int32)
    else
      some (5 : Int32)
  else
    Option.bind (rc K (mm_R M (32 * 4 + 0) a0) 9) (fun a1 =>
    some (mm_I M (32 * 9 + 0) a1))
set_option maxHeartbeats 4000000 in
theorem w_X4_content_0 {X : Cx} {d n : Nat} {K L : Nat → Nat} {M : Mm} {a0 : Nat} {r : Int32} (o : cOk X cX4_content RX4 d) (hL : cL X = 1) (hr : (ch X).sig.returnType = some .int) (hk0 : K a0 = 4) (hE : cE X n K L M (some (.int r)) 0 0) (h : f_X4_content K L M a0  = some r) : gW X 0 0 n K L M 0 [(0, va_rf (some a0))] [] := by
  unfold f_X4_content at h
  refine g_aload_n o dX4_content_0 0 rfl ?_
  refine g_getR o fl_X4_9 (rc_self hk0) (by decide) rfl dX4_content_1 ?_
  refine g_ifnull (tgt := 15) o dX4_content_4 (by decide) (fun z => ?_) (fun z => ?_)
  · have h := (if_pos z).symm.trans h
    refine g_aload_n o dX4_content_15 0 rfl ?_
    refine g_getI o fl_X4_21 (rc_self hk0) (by decide) rfl dX4_content_16 ?_
    refine g_if_eq (tgt := 26) o dX4_content_19 (by decide) (fun z => ?_) (fun z => ?_)
    · have h := (if_pos z).symm.trans h
      refine g_iconst (v := (-1 : Int32)) o dX4_content_26 (by decide) ?_
      cases h
      exact g_iret o hr hE dX4_content_27
    · have h := (if_neg z).symm.trans h
      refine g_iconst (v := (5 : Int32)) o dX4_content_22 (by decide) ?_
      refine g_goto (tgt := 27) o dX4_content_23 (by decide) ?_
      cases h
      exact g_iret o hr hE dX4_content_27
  · have h := (if_neg z).symm.trans h
    refine g_aload_n o dX4_content_7 0 rfl ?_
    refine g_getR o fl_X4_9 (rc_self hk0) (by decide) rfl dX4_content_8 ?_
    obtain ⟨a1, e2, h⟩ := ob h
    refine g_getI o fl_X4_15 e2 (by decide) rfl dX4_content_11 ?_
    cases h
    exact g_iret o hr hE dX4_content_14
theorem c_X4_content (l : Launch) (D : va_G) (Y : Nat → ClassId) (B : Nat) {d : Nat} {n : Nat} {K L : Nat → Nat} {M : Mm} {a0 : Nat} {r : Int32} (hd : 0 ≤ d) (hk0 : K a0 = 4) (h : f_X4_content K L M a0  = some r) : mC l D Y B d yX4_content cX4_content 1 (some .int) [va_rf (some a0)] n K L M n K L M (some (.int r)) 0 0 := by
  refine mk_met (by decide) (by simp [lgs_r, lgs_i, lgs_l, lgs_n]) (fun X e1 e2 e3 e4 o hL hr hnm hz hc hs hE => ?_)
  subst e1 e2 e3 e4
  rw [show lv_args 0 [va_rf (some a0)] = [(0, va_rf (some a0))] by simp [lva_r, lva_i, lva_l, lva_n]]
  exact w_X4_content_0 o hL hr hk0 hE h
def f_X4_clear_19 (K L : Nat → Nat) (a0 : Nat) (s0 : Int32) (M : Mm) : Option (Int32 × Mm) :=
  bn (ms_R M (32 * 4 + 0) a0 none) (fun M1 =>
  bn (ms_I M1 (32 * 4 + 1) a0 (0 : Int32)) (fun M3 =>
  bn (ms_J M3 (32 * 4 + 2) a0 (0 : Int64)) (fun M5 =>
  Option.bind (zb s0) (fun u8 =>
  some (s0, M5)))))
set_option maxHeartbeats 4000000 in
theorem w_X4_clear_19 {X : Cx} {d n : Nat} {K L : Nat → Nat} {a0 : Nat} {r : (Int32 × Mm)} {s0 : Int32} {M : Mm} (o : cOk X cX4_clear RX4 d) (hL : cL X = 2) (hr : (ch X).sig.returnType = some .boolean) (hz : (cs X).heap.size + 0 = cB X + n) (hk0 : K a0 = 4) (hE : cE X n K L r.2 (some (.int r.1)) 0 0) (h : f_X4_clear_19 K L a0 s0 M = some r) : gW X 0 0 n K L M 19 [(0, va_rf (some a0))] [.int s0] := by
  unfold f_X4_clear_19 at h
  refine g_istore_n (i := 1) (ls' := [(1, .int s0), (0, va_rf (some a0))]) o dX4_clear_19 rfl (ltL hL (by decide)) rfl ?_
  refine g_aload_n o dX4_clear_20 1 rfl ?_
  refine g_null o dX4_clear_21 ?_
  refine g_putR o hz fl_X4_9 (rc_self hk0) (by decide) rfl rfl rfl  dX4_clear_22 ?_
  obtain ⟨M1, e2, h⟩ := bn_at h
  refine g_mem e2 ?_
  refine g_aload_n o dX4_clear_25 1 rfl ?_
  refine g_iconst (v := (0 : Int32)) o dX4_clear_26 (by decide) ?_
  refine g_putZ o hz fl_X4_21 (rc_self hk0) (by decide) rfl rfl rfl (by decide) dX4_clear_27 ?_
  obtain ⟨M3, e4, h⟩ := bn_at h
  refine g_mem e4 ?_
  refine g_aload_n o dX4_clear_30 1 rfl ?_
  refine g_lconst (v := (0 : Int64)) o dX4_clear_31 (by decide) ?_
  refine g_putJ o hz fl_X4_37 (rc_self hk0) (by decide) rfl rfl rfl  dX4_clear_32 ?_
  obtain ⟨M5, e6, h⟩ := bn_at h
  refine g_mem e6 ?_
  refine g_iload_n o dX4_clear_35 0 rfl ?_
  obtain ⟨u8, e7, h⟩ := ob h
  cases h
  exact g_zret o hr (zb_at e7) hE dX4_clear_36
def f_X4_clear_14 (K L : Nat → Nat) (a0 : Nat) (M : Mm) : Option (Int32 × Mm) :=
  f_X4_clear_19 K L a0 (1 : Int32) M
set_option maxHeartbeats 4000000 in
theorem w_X4_clear_14 {X : Cx} {d n : Nat} {K L : Nat → Nat} {a0 : Nat} {r : (Int32 × Mm)} {M : Mm} (o : cOk X cX4_clear RX4 d) (hL : cL X = 2) (hr : (ch X).sig.returnType = some .boolean) (hz : (cs X).heap.size + 0 = cB X + n) (hk0 : K a0 = 4) (hE : cE X n K L r.2 (some (.int r.1)) 0 0) (h : f_X4_clear_14 K L a0  M = some r) : gW X 0 0 n K L M 14 [(0, va_rf (some a0))] [] := by
  unfold f_X4_clear_14 at h
  refine g_iconst (v := (1 : Int32)) o dX4_clear_14 (by decide) ?_
  refine g_goto (tgt := 19) o dX4_clear_15 (by decide) ?_
  exact w_X4_clear_19 o hL hr hz hk0 hE h
def f_X4_clear (K L : Nat → Nat) (a0 : Nat) (M : Mm) : Option (Int32 × Mm) :=
  if (mm_R M (32 * 4 + 0) a0) = none then
    if (mm_I M (32 * 4 + 1) a0) = 0 then
      f_X4_clear_19 K L a0 (0 : Int32) M
    else
      f_X4_clear_14 K L a0 M
  else
    f_X4_clear_14 K L a0 M
set_option maxHeartbeats 4000000 in
theorem w_X4_clear_0 {X : Cx} {d n : Nat} {K L : Nat → Nat} {a0 : Nat} {r : (Int32 × Mm)} {M : Mm} (o : cOk X cX4_clear RX4 d) (hL : cL X = 2) (hr : (ch X).sig.returnType = some .boolean) (hz : (cs X).heap.size + 0 = cB X + n) (hk0 : K a0 = 4) (hE : cE X n K L r.2 (some (.int r.1)) 0 0) (h : f_X4_clear K L a0  M = some r) : gW X 0 0 n K L M 0 [(0, va_rf (some a0))] [] := by
  unfold f_X4_clear at h
  refine g_aload_n o dX4_clear_0 0 rfl ?_
  refine g_getR o fl_X4_9 (rc_self hk0) (by decide) rfl dX4_clear_1 ?_
  refine g_ifnonnull (tgt := 14) o dX4_clear_4 (by decide) (fun z => ?_) (fun z => ?_)
  · have h := (if_neg z).symm.trans h
    exact w_X4_clear_14 o hL hr hz hk0 hE h
  · have h := (if_pos z).symm.trans h
    refine g_aload_n o dX4_clear_7 0 rfl ?_
    refine g_getI o fl_X4_21 (rc_self hk0) (by decide) rfl dX4_clear_8 ?_
    refine g_if_eq (tgt := 18) o dX4_clear_11 (by decide) (fun z => ?_) (fun z => ?_)
    · have h := (if_pos z).symm.trans h
      refine g_iconst (v := (0 : Int32)) o dX4_clear_18 (by decide) ?_
      exact w_X4_clear_19 o hL hr hz hk0 hE h
    · have h := (if_neg z).symm.trans h
      exact w_X4_clear_14 o hL hr hz hk0 hE h
theorem c_X4_clear (l : Launch) (D : va_G) (Y : Nat → ClassId) (B : Nat) {d : Nat} {n : Nat} {K L : Nat → Nat} {M : Mm} {a0 : Nat} {r : (Int32 × Mm)} (hd : 0 ≤ d) (hk0 : K a0 = 4) (h : f_X4_clear K L a0  M = some r) : mC l D Y B d yX4_clear cX4_clear 2 (some .boolean) [va_rf (some a0)] n K L M n K L r.2 (some (.int r.1)) 0 0 := by
  refine mk_met (by decide) (by simp [lgs_r, lgs_i, lgs_l, lgs_n]) (fun X e1 e2 e3 e4 o hL hr hnm hz hc hs hE => ?_)
  subst e1 e2 e3 e4
  rw [show lv_args 0 [va_rf (some a0)] = [(0, va_rf (some a0))] by simp [lva_r, lva_i, lva_l, lva_n]]
  exact w_X4_clear_0 o hL hr hz hk0 hE h
def f_X10_init (a0 : Nat) : Option Unit :=
  some ()
set_option maxHeartbeats 4000000 in
theorem w_X10_init_0 {X : Cx} {d n : Nat} {K L : Nat → Nat} {M : Mm} {a0 : Nat} {r : Unit} (o : cOk X cX10_init RX10 d) (hL : cL X = 1) (hr : (ch X).sig.returnType = none) (hk0 : K a0 = 10) (hE : cE X n K L M none 0 0) (hd : 1 ≤ d) (h : f_X10_init a0  = some r) : gW X 0 0 n K L M 0 [(0, va_rf (some a0))] [] := by
  unfold f_X10_init at h
  refine g_aload_n o dX10_init_0 0 rfl ?_
  refine g_objInit o (by omega) ml_X10_3 (by simp [cat_i, cat_l, cat_rf]) dX10_init_1 ?_
  cases h
  exact g_vret o hr hE dX10_init_4
theorem c_X10_init (l : Launch) (D : va_G) (Y : Nat → ClassId) (B : Nat) {d : Nat} {n : Nat} {K L : Nat → Nat} {M : Mm} {a0 : Nat} {r : Unit} (hd : 1 ≤ d) (hk0 : K a0 = 10) (h : f_X10_init a0  = some r) : mC l D Y B d yX10_init cX10_init 1 (none) [va_rf (some a0)] n K L M n K L M none 0 0 := by
  refine mk_met (by decide) (by simp [lgs_r, lgs_i, lgs_l, lgs_n]) (fun X e1 e2 e3 e4 o hL hr hnm hz hc hs hE => ?_)
  subst e1 e2 e3 e4
  rw [show lv_args 0 [va_rf (some a0)] = [(0, va_rf (some a0))] by simp [lva_r, lva_i, lva_l, lva_n]]
  exact w_X10_init_0 o hL hr hk0 hE hd h
def f_X6_begin (K L : Nat → Nat) (a0 : Nat) (M : Mm) : Option Mm :=
  bn (ms_I M (32 * 6 + 0) a0 (0 : Int32)) (fun M1 =>
  some M1)
set_option maxHeartbeats 4000000 in
theorem w_X6_begin_0 {X : Cx} {d n : Nat} {K L : Nat → Nat} {a0 : Nat} {r : Mm} {M : Mm} (o : cOk X cX6_begin RX6 d) (hL : cL X = 1) (hr : (ch X).sig.returnType = none) (hz : (cs X).heap.size + 0 = cB X + n) (hk0 : K a0 = 6) (hE : cE X n K L r none 0 0) (h : f_X6_begin K L a0  M = some r) : gW X 0 0 n K L M 0 [(0, va_rf (some a0))] [] := by
  unfold f_X6_begin at h
  refine g_aload_n o dX6_begin_0 0 rfl ?_
  refine g_iconst (v := (0 : Int32)) o dX6_begin_1 (by decide) ?_
  refine g_putI o hz fl_X6_24 (rc_self hk0) (by decide) rfl rfl rfl  dX6_begin_2 ?_
  obtain ⟨M1, e2, h⟩ := bn_at h
  refine g_mem e2 ?_
  cases h
  exact g_vret o hr hE dX6_begin_5
theorem c_X6_begin (l : Launch) (D : va_G) (Y : Nat → ClassId) (B : Nat) {d : Nat} {n : Nat} {K L : Nat → Nat} {M : Mm} {a0 : Nat} {r : Mm} (hd : 0 ≤ d) (hk0 : K a0 = 6) (h : f_X6_begin K L a0  M = some r) : mC l D Y B d yX6_begin cX6_begin 1 (none) [va_rf (some a0)] n K L M n K L r none 0 0 := by
  refine mk_met (by decide) (by simp [lgs_r, lgs_i, lgs_l, lgs_n]) (fun X e1 e2 e3 e4 o hL hr hnm hz hc hs hE => ?_)
  subst e1 e2 e3 e4
  rw [show lv_args 0 [va_rf (some a0)] = [(0, va_rf (some a0))] by simp [lva_r, lva_i, lva_l, lva_n]]
  exact w_X6_begin_0 o hL hr hz hk0 hE h
def f_X7_begin (K L : Nat → Nat) (fu : Nat) (a0 : Nat) (M : Mm) : Option Mm :=
  Option.bind (f_J7_fill_53178 K L fu (mm_R M (32 * 7 + 0) a0) (0 : Int32) M) (fun x1 =>
  Option.bind (f_J7_fill_53178 K L fu (mm_R x1 (32 * 7 + 1) a0) (0 : Int32) x1) (fun x3 =>
  some x3))
set_option maxHeartbeats 4000000 in
theorem w_X7_begin_0 {X : Cx} {d n : Nat} {K L : Nat → Nat} {fu : Nat} {a0 : Nat} {r : Mm} {M : Mm} (o : cOk X cX7_begin RX7 (d + 1)) (hL : cL X = 1) (hr : (ch X).sig.returnType = none) (hz : (cs X).heap.size + 0 = cB X + n) (hk0 : K a0 = 7) (hE : cE X n K L r none 0 0) (hd : 1 ≤ d + 1) (h : f_X7_begin K L fu a0  M = some r) : gW X 0 0 n K L M 0 [(0, va_rf (some a0))] [] := by
  unfold f_X7_begin at h
  refine g_aload_n o dX7_begin_0 0 rfl ?_
  refine g_getR o fl_X7_9 (rc_self hk0) (by decide) rfl dX7_begin_1 ?_
  refine g_iconst (v := (0 : Int32)) o dX7_begin_4 (by decide) ?_
  obtain ⟨x1, e2, h⟩ := ob h
  refine g_invS0 o ml_X7_18 kb_J7_fill_53178 ks_J7_fill_53178 (c_J7_fill_53178 (cq X) (cD X) (cY X) (cB X) (d := d) (by omega) e2) rfl rfl (by simp [cat_i, cat_l, cat_rf]) dX7_begin_5 ?_
  refine g_aload_n o dX7_begin_8 0 rfl ?_
  refine g_getR o fl_X7_15 (rc_self hk0) (by decide) rfl dX7_begin_9 ?_
  refine g_iconst (v := (0 : Int32)) o dX7_begin_12 (by decide) ?_
  obtain ⟨x3, e4, h⟩ := ob h
  refine g_invS0 o ml_X7_18 kb_J7_fill_53178 ks_J7_fill_53178 (c_J7_fill_53178 (cq X) (cD X) (cY X) (cB X) (d := d) (by omega) e4) rfl rfl (by simp [cat_i, cat_l, cat_rf]) dX7_begin_13 ?_
  cases h
  exact g_vret o hr hE dX7_begin_16
theorem c_X7_begin (l : Launch) (D : va_G) (Y : Nat → ClassId) (B : Nat) {d : Nat} {n : Nat} {K L : Nat → Nat} {fu : Nat} {M : Mm} {a0 : Nat} {r : Mm} (hd : 1 ≤ d) (hk0 : K a0 = 7) (h : f_X7_begin K L fu a0  M = some r) : mC l D Y B d yX7_begin cX7_begin 1 (none) [va_rf (some a0)] n K L M n K L r none 0 0 := by
  obtain ⟨d, rfl⟩ : ∃ e, d = e + 1 := ⟨d - 1, by omega⟩
  refine mk_met (by decide) (by simp [lgs_r, lgs_i, lgs_l, lgs_n]) (fun X e1 e2 e3 e4 o hL hr hnm hz hc hs hE => ?_)
  subst e1 e2 e3 e4
  rw [show lv_args 0 [va_rf (some a0)] = [(0, va_rf (some a0))] by simp [lva_r, lva_i, lva_l, lva_n]]
  exact w_X7_begin_0 o hL hr hz hk0 hE hd h
def f_X9_hangOn (K L : Nat → Nat) (a0 : Nat) (v1 : Int32) (v2 : Int32) (M : Mm) : Option Mm :=
  bn (ms_I M (32 * 9 + 5) a0 v1) (fun M1 =>
  bn (ms_I M1 (32 * 9 + 6) a0 v2) (fun M3 =>
  some M3))
set_option maxHeartbeats 4000000 in
theorem w_X9_hangOn_0 {X : Cx} {d n : Nat} {K L : Nat → Nat} {a0 : Nat} {r : Mm} {v1 : Int32} {v2 : Int32} {M : Mm} (o : cOk X cX9_hangOn RX9 d) (hL : cL X = 3) (hr : (ch X).sig.returnType = none) (hz : (cs X).heap.size + 0 = cB X + n) (hk0 : K a0 = 9) (hE : cE X n K L r none 0 0) (h : f_X9_hangOn K L a0 v1 v2 M = some r) : gW X 0 0 n K L M 0 [(0, va_rf (some a0)), (1, .int v1), (2, .int v2)] [] := by
  unfold f_X9_hangOn at h
  refine g_aload_n o dX9_hangOn_0 0 rfl ?_
  refine g_iload_n o dX9_hangOn_1 1 rfl ?_
  refine g_putI o hz fl_X9_93 (rc_self hk0) (by decide) rfl rfl rfl  dX9_hangOn_2 ?_
  obtain ⟨M1, e2, h⟩ := bn_at h
  refine g_mem e2 ?_
  refine g_aload_n o dX9_hangOn_5 0 rfl ?_
  refine g_iload_n o dX9_hangOn_6 2 rfl ?_
  refine g_putI o hz fl_X9_96 (rc_self hk0) (by decide) rfl rfl rfl  dX9_hangOn_7 ?_
  obtain ⟨M3, e4, h⟩ := bn_at h
  refine g_mem e4 ?_
  cases h
  exact g_vret o hr hE dX9_hangOn_10
theorem c_X9_hangOn (l : Launch) (D : va_G) (Y : Nat → ClassId) (B : Nat) {d : Nat} {n : Nat} {K L : Nat → Nat} {M : Mm} {a0 : Nat} {v1 : Int32} {v2 : Int32} {r : Mm} (hd : 0 ≤ d) (hk0 : K a0 = 9) (h : f_X9_hangOn K L a0 v1 v2 M = some r) : mC l D Y B d yX9_hangOn cX9_hangOn 3 (none) [va_rf (some a0), .int v1, .int v2] n K L M n K L r none 0 0 := by
  refine mk_met (by decide) (by simp [lgs_r, lgs_i, lgs_l, lgs_n]) (fun X e1 e2 e3 e4 o hL hr hnm hz hc hs hE => ?_)
  subst e1 e2 e3 e4
  rw [show lv_args 0 [va_rf (some a0), .int v1, .int v2] = [(0, va_rf (some a0)), (1, .int v1), (2, .int v2)] by simp [lva_r, lva_i, lva_l, lva_n]]
  exact w_X9_hangOn_0 o hL hr hz hk0 hE h
def f_X10_setLook (K L : Nat → Nat) (a0 : Nat) (v1 : Int32) (v2 : Int32) (v3 : Int32) (v4 : Int32) (M : Mm) : Option Mm :=
  bn (ms_I M (32 * 10 + 7) a0 v1) (fun M1 =>
  bn (ms_I M1 (32 * 10 + 8) a0 v2) (fun M3 =>
  bn (ms_I M3 (32 * 10 + 9) a0 v3) (fun M5 =>
  bn (ms_I M5 (32 * 10 + 10) a0 v4) (fun M7 =>
  some M7))))
set_option maxHeartbeats 4000000 in
theorem w_X10_setLook_0 {X : Cx} {d n : Nat} {K L : Nat → Nat} {a0 : Nat} {r : Mm} {v1 : Int32} {v2 : Int32} {v3 : Int32} {v4 : Int32} {M : Mm} (o : cOk X cX10_setLook RX10 d) (hL : cL X = 5) (hr : (ch X).sig.returnType = none) (hz : (cs X).heap.size + 0 = cB X + n) (hk0 : K a0 = 10) (hE : cE X n K L r none 0 0) (h : f_X10_setLook K L a0 v1 v2 v3 v4 M = some r) : gW X 0 0 n K L M 0 [(0, va_rf (some a0)), (1, .int v1), (2, .int v2), (3, .int v3), (4, .int v4)] [] := by
  unfold f_X10_setLook at h
  refine g_aload_n o dX10_setLook_0 0 rfl ?_
  refine g_iload_n o dX10_setLook_1 1 rfl ?_
  refine g_putI o hz fl_X10_40 (rc_self hk0) (by decide) rfl rfl rfl  dX10_setLook_2 ?_
  obtain ⟨M1, e2, h⟩ := bn_at h
  refine g_mem e2 ?_
  refine g_aload_n o dX10_setLook_5 0 rfl ?_
  refine g_iload_n o dX10_setLook_6 2 rfl ?_
  refine g_putI o hz fl_X10_43 (rc_self hk0) (by decide) rfl rfl rfl  dX10_setLook_7 ?_
  obtain ⟨M3, e4, h⟩ := bn_at h
  refine g_mem e4 ?_
  refine g_aload_n o dX10_setLook_10 0 rfl ?_
  refine g_iload_n o dX10_setLook_11 3 rfl ?_
  refine g_putI o hz fl_X10_46 (rc_self hk0) (by decide) rfl rfl rfl  dX10_setLook_12 ?_
  obtain ⟨M5, e6, h⟩ := bn_at h
  refine g_mem e6 ?_
  refine g_aload_n o dX10_setLook_15 0 rfl ?_
  refine g_iload o dX10_setLook_16 4 rfl ?_
  refine g_putI o hz fl_X10_49 (rc_self hk0) (by decide) rfl rfl rfl  dX10_setLook_18 ?_
  obtain ⟨M7, e8, h⟩ := bn_at h
  refine g_mem e8 ?_
  cases h
  exact g_vret o hr hE dX10_setLook_21
theorem c_X10_setLook (l : Launch) (D : va_G) (Y : Nat → ClassId) (B : Nat) {d : Nat} {n : Nat} {K L : Nat → Nat} {M : Mm} {a0 : Nat} {v1 : Int32} {v2 : Int32} {v3 : Int32} {v4 : Int32} {r : Mm} (hd : 0 ≤ d) (hk0 : K a0 = 10) (h : f_X10_setLook K L a0 v1 v2 v3 v4 M = some r) : mC l D Y B d yX10_setLook cX10_setLook 5 (none) [va_rf (some a0), .int v1, .int v2, .int v3, .int v4] n K L M n K L r none 0 0 := by
  refine mk_met (by decide) (by simp [lgs_r, lgs_i, lgs_l, lgs_n]) (fun X e1 e2 e3 e4 o hL hr hnm hz hc hs hE => ?_)
  subst e1 e2 e3 e4
  rw [show lv_args 0 [va_rf (some a0), .int v1, .int v2, .int v3, .int v4] = [(0, va_rf (some a0)), (1, .int v1), (2, .int v2), (3, .int v3), (4, .int v4)] by simp [lva_r, lva_i, lva_l, lva_n]]
  exact w_X10_setLook_0 o hL hr hz hk0 hE h
def f_X10_begin (K L : Nat → Nat) (a0 : Nat) (v1 : Int32) (v2 : Int32) (v3 : Int32) (v4 : Int32) (M : Mm) : Option Mm :=
  bn (ms_I M (32 * 10 + 0) a0 v1) (fun M1 =>
  bn (ms_I M1 (32 * 10 + 1) a0 v2) (fun M3 =>
  bn (ms_I M3 (32 * 10 + 2) a0 v3) (fun M5 =>
  bn (ms_I M5 (32 * 10 + 3) a0 v4) (fun M7 =>
  bn (ms_I M7 (32 * 10 + 4) a0 (0 : Int32)) (fun M9 =>
  bn (ms_I M9 (32 * 10 + 5) a0 (0 : Int32)) (fun M11 =>
  bn (ms_I M11 (32 * 10 + 6) a0 (0 : Int32)) (fun M13 =>
  Option.bind (f_X10_setLook K L a0 (0 : Int32) (0 : Int32) (0 : Int32) (0 : Int32) M13) (fun x15 =>
  some x15))))))))
set_option maxHeartbeats 4000000 in
theorem w_X10_begin_0 {X : Cx} {d n : Nat} {K L : Nat → Nat} {a0 : Nat} {r : Mm} {v1 : Int32} {v2 : Int32} {v3 : Int32} {v4 : Int32} {M : Mm} (o : cOk X cX10_begin RX10 (d + 1)) (hL : cL X = 5) (hr : (ch X).sig.returnType = none) (hz : (cs X).heap.size + 0 = cB X + n) (hk0 : K a0 = 10) (hE : cE X n K L r none 0 0) (hd : 1 ≤ d + 1) (h : f_X10_begin K L a0 v1 v2 v3 v4 M = some r) : gW X 0 0 n K L M 0 [(0, va_rf (some a0)), (1, .int v1), (2, .int v2), (3, .int v3), (4, .int v4)] [] := by
  unfold f_X10_begin at h
  refine g_aload_n o dX10_begin_0 0 rfl ?_
  refine g_iload_n o dX10_begin_1 1 rfl ?_
  refine g_putI o hz fl_X10_9 (rc_self hk0) (by decide) rfl rfl rfl  dX10_begin_2 ?_
  obtain ⟨M1, e2, h⟩ := bn_at h
  refine g_mem e2 ?_
  refine g_aload_n o dX10_begin_5 0 rfl ?_
  refine g_iload_n o dX10_begin_6 2 rfl ?_
  refine g_putI o hz fl_X10_15 (rc_self hk0) (by decide) rfl rfl rfl  dX10_begin_7 ?_
  obtain ⟨M3, e4, h⟩ := bn_at h
  refine g_mem e4 ?_
  refine g_aload_n o dX10_begin_10 0 rfl ?_
  refine g_iload_n o dX10_begin_11 3 rfl ?_
  refine g_putI o hz fl_X10_18 (rc_self hk0) (by decide) rfl rfl rfl  dX10_begin_12 ?_
  obtain ⟨M5, e6, h⟩ := bn_at h
  refine g_mem e6 ?_
  refine g_aload_n o dX10_begin_15 0 rfl ?_
  refine g_iload o dX10_begin_16 4 rfl ?_
  refine g_putI o hz fl_X10_21 (rc_self hk0) (by decide) rfl rfl rfl  dX10_begin_18 ?_
  obtain ⟨M7, e8, h⟩ := bn_at h
  refine g_mem e8 ?_
  refine g_aload_n o dX10_begin_21 0 rfl ?_
  refine g_iconst (v := (0 : Int32)) o dX10_begin_22 (by decide) ?_
  refine g_putI o hz fl_X10_24 (rc_self hk0) (by decide) rfl rfl rfl  dX10_begin_23 ?_
  obtain ⟨M9, e10, h⟩ := bn_at h
  refine g_mem e10 ?_
  refine g_aload_n o dX10_begin_26 0 rfl ?_
  refine g_iconst (v := (0 : Int32)) o dX10_begin_27 (by decide) ?_
  refine g_putI o hz fl_X10_27 (rc_self hk0) (by decide) rfl rfl rfl  dX10_begin_28 ?_
  obtain ⟨M11, e12, h⟩ := bn_at h
  refine g_mem e12 ?_
  refine g_aload_n o dX10_begin_31 0 rfl ?_
  refine g_iconst (v := (0 : Int32)) o dX10_begin_32 (by decide) ?_
  refine g_putI o hz fl_X10_30 (rc_self hk0) (by decide) rfl rfl rfl  dX10_begin_33 ?_
  obtain ⟨M13, e14, h⟩ := bn_at h
  refine g_mem e14 ?_
  refine g_aload_n o dX10_begin_36 0 rfl ?_
  refine g_iconst (v := (0 : Int32)) o dX10_begin_37 (by decide) ?_
  refine g_iconst (v := (0 : Int32)) o dX10_begin_38 (by decide) ?_
  refine g_iconst (v := (0 : Int32)) o dX10_begin_39 (by decide) ?_
  refine g_iconst (v := (0 : Int32)) o dX10_begin_40 (by decide) ?_
  obtain ⟨x15, e16, h⟩ := ob h
  refine g_invV0 o (rc_self hk0) (by decide) ml_X10_33 kb_X10_setLook kv_X10_setLook rfl (c_X10_setLook (cq X) (cD X) (cY X) (cB X) (d := d) (by omega) (rc_at (rc_self hk0)).2 e16) rfl rfl (by simp [cat_i, cat_l, cat_rf]) dX10_begin_41 ?_
  cases h
  exact g_vret o hr hE dX10_begin_44
theorem c_X10_begin (l : Launch) (D : va_G) (Y : Nat → ClassId) (B : Nat) {d : Nat} {n : Nat} {K L : Nat → Nat} {M : Mm} {a0 : Nat} {v1 : Int32} {v2 : Int32} {v3 : Int32} {v4 : Int32} {r : Mm} (hd : 1 ≤ d) (hk0 : K a0 = 10) (h : f_X10_begin K L a0 v1 v2 v3 v4 M = some r) : mC l D Y B d yX10_begin cX10_begin 5 (none) [va_rf (some a0), .int v1, .int v2, .int v3, .int v4] n K L M n K L r none 0 0 := by
  obtain ⟨d, rfl⟩ : ∃ e, d = e + 1 := ⟨d - 1, by omega⟩
  refine mk_met (by decide) (by simp [lgs_r, lgs_i, lgs_l, lgs_n]) (fun X e1 e2 e3 e4 o hL hr hnm hz hc hs hE => ?_)
  subst e1 e2 e3 e4
  rw [show lv_args 0 [va_rf (some a0), .int v1, .int v2, .int v3, .int v4] = [(0, va_rf (some a0)), (1, .int v1), (2, .int v2), (3, .int v3), (4, .int v4)] by simp [lva_r, lva_i, lva_l, lva_n]]
  exact w_X10_begin_0 o hL hr hz hk0 hE hd h
def f_X9_begin_75b (K L : Nat → Nat) (fu : Nat) (k75 : Int32 → Mm → Option Mm) (a0 : Nat) (v4 : Int32) (M : Mm) : Option Mm :=
  if (4 : Int32) ≤ v4 then
    some M
  else
    Option.bind (rx K L (mm_R M (32 * 9 + 12) a0) 16 v4) (fun a1 =>
    Option.bind (rc K (mm_C M a1 v4.toNatClampNeg) 2) (fun a3 =>
    Option.bind (f_X2_begin K L a3 (1 : Int32) M) (fun x5 =>
    k75 (v4 + 1) x5)))
def f_X9_begin_75 (K L : Nat → Nat) (fu : Nat) (a0 : Nat) : Nat → Int32 → Mm → Option Mm
  | 0, _, _ => none
  | g + 1, v4, M => f_X9_begin_75b K L fu (f_X9_begin_75 K L fu a0 g) a0 v4 M
set_option maxHeartbeats 4000000 in
theorem w_X9_begin_75b {X : Cx} {d n : Nat} {K L : Nat → Nat} {fu : Nat} {a0 : Nat} {r : Mm} {k75 : Int32 → Mm → Option Mm} {v4 : Int32} {M : Mm} (o : cOk X cX9_begin RX9 (d + 1)) (hL : cL X = 5) (hr : (ch X).sig.returnType = none) (hz : (cs X).heap.size + 0 = cB X + n) (hk0 : K a0 = 9) (hE : cE X n K L r none 0 0) (hk75 : ∀ (v4 : Int32) (M : Mm), k75 v4 M = some r → gW X 0 0 n K L M 75 [(0, va_rf (some a0)), (4, .int v4)] []) (hd : 2 ≤ d + 1) (h : f_X9_begin_75b K L fu k75 a0 v4 M = some r) : gW X 0 0 n K L M 75 [(0, va_rf (some a0)), (4, .int v4)] [] := by
  unfold f_X9_begin_75b at h
  refine g_iload o dX9_begin_75 1 rfl ?_
  refine g_iconst (v := (4 : Int32)) o dX9_begin_77 (by decide) ?_
  refine g_icmp_ge (tgt := 98) o dX9_begin_78 (by decide) (fun z => ?_) (fun z => ?_)
  · have h := (if_pos z).symm.trans h
    cases h
    exact g_vret o hr hE dX9_begin_98
  · have h := (if_neg z).symm.trans h
    refine g_aload_n o dX9_begin_81 0 rfl ?_
    refine g_getR o fl_X9_48 (rc_self hk0) (by decide) rfl dX9_begin_82 ?_
    refine g_iload o dX9_begin_85 1 rfl ?_
    obtain ⟨a1, e2, h⟩ := ob h
    refine g_aald o (by decide) e2 dX9_begin_87 ?_
    refine g_iconst (v := (1 : Int32)) o dX9_begin_88 (by decide) ?_
    obtain ⟨a3, e4, h⟩ := ob h
    obtain ⟨x5, e6, h⟩ := ob h
    refine g_invV0 o e4 (by decide) ml_X9_83 kb_X2_begin kv_X2_begin rfl (c_X2_begin (cq X) (cD X) (cY X) (cB X) (d := d) (by omega) (rc_at e4).2 e6) rfl rfl (by simp [cat_i, cat_l, cat_rf]) dX9_begin_89 ?_
    refine g_iinc (i := 4) (v := v4 + 1) (ls' := [(4, .int (v4 + 1)), (0, va_rf (some a0))]) o dX9_begin_92 1 rfl (by first | rfl | (congr 1)) (ltL hL (by decide)) rfl ?_
    refine g_goto (tgt := 75) o dX9_begin_95 (by decide) ?_
    refine gsub [1, 0] rfl ?_
    exact hk75 _ _ h
theorem w_X9_begin_75_n {X : Cx} {d n : Nat} {K L : Nat → Nat} {fu : Nat} {a0 : Nat} {r : Mm} (o : cOk X cX9_begin RX9 (d + 1)) (hL : cL X = 5) (hr : (ch X).sig.returnType = none) (hz : (cs X).heap.size + 0 = cB X + n) (hk0 : K a0 = 9) (hE : cE X n K L r none 0 0) (hd : 2 ≤ d + 1) : ∀ (g : Nat) (v4 : Int32) (M : Mm), f_X9_begin_75 K L fu a0 g v4 M = some r → gW X 0 0 n K L M 75 [(0, va_rf (some a0)), (4, .int v4)] []
  | 0, _, _, h => by cases h
  | g + 1, v4, M, h => w_X9_begin_75b o hL hr hz hk0 hE (w_X9_begin_75_n o hL hr hz hk0 hE hd g) hd h
theorem w_X9_begin_75 {X : Cx} {d n : Nat} {K L : Nat → Nat} {fu : Nat} {a0 : Nat} {r : Mm} {v4 : Int32} {M : Mm} (o : cOk X cX9_begin RX9 (d + 1)) (hL : cL X = 5) (hr : (ch X).sig.returnType = none) (hz : (cs X).heap.size + 0 = cB X + n) (hk0 : K a0 = 9) (hE : cE X n K L r none 0 0) (hd : 2 ≤ d + 1) (h : f_X9_begin_75 K L fu a0 fu v4 M = some r) : gW X 0 0 n K L M 75 [(0, va_rf (some a0)), (4, .int v4)] [] := w_X9_begin_75_n o hL hr hz hk0 hE hd fu v4 M h
def f_X9_begin (K L : Nat → Nat) (fu : Nat) (a0 : Nat) (v1 : Int32) (v2 : Int32) (v3 : Int32) (M : Mm) : Option Mm :=
  bn (ms_I M (32 * 9 + 0) a0 v1) (fun M1 =>
  bn (ms_I M1 (32 * 9 + 1) a0 v2) (fun M3 =>
  bn (ms_I M3 (32 * 9 + 2) a0 v3) (fun M5 =>
  Option.bind (rc K (mm_R M5 (32 * 9 + 3) a0) 6) (fun a7 =>
  Option.bind (f_X6_begin K L a7 M5) (fun x9 =>
  Option.bind (rc K (mm_R x9 (32 * 9 + 4) a0) 7) (fun a11 =>
  Option.bind (f_X7_begin K L fu a11 x9) (fun x13 =>
  Option.bind (f_X9_hangOn K L a0 (-1 : Int32) (0 : Int32) x13) (fun x15 =>
  bn (ms_I x15 (32 * 9 + 7) a0 (0 : Int32)) (fun M17 =>
  bn (ms_I M17 (32 * 9 + 8) a0 (0 : Int32)) (fun M19 =>
  Option.bind (rc K (mm_R M19 (32 * 9 + 9) a0) 3) (fun a21 =>
  Option.bind (f_X3_begin K L a21 M19) (fun x23 =>
  Option.bind (rc K (mm_R x23 (32 * 9 + 10) a0) 0) (fun a25 =>
  Option.bind (f_X0_begin K L a25 x23) (fun x27 =>
  Option.bind (rc K (mm_R x27 (32 * 9 + 11) a0) 10) (fun a29 =>
  Option.bind (f_X10_begin K L a29 (0 : Int32) (1 : Int32) (500 : Int32) (1 : Int32) x27) (fun x31 =>
  f_X9_begin_75 K L fu a0 fu (0 : Int32) x31))))))))))))))))
set_option maxHeartbeats 4000000 in
theorem w_X9_begin_0 {X : Cx} {d n : Nat} {K L : Nat → Nat} {fu : Nat} {a0 : Nat} {r : Mm} {v1 : Int32} {v2 : Int32} {v3 : Int32} {M : Mm} (o : cOk X cX9_begin RX9 (d + 1)) (hL : cL X = 5) (hr : (ch X).sig.returnType = none) (hz : (cs X).heap.size + 0 = cB X + n) (hk0 : K a0 = 9) (hE : cE X n K L r none 0 0) (hd : 2 ≤ d + 1) (h : f_X9_begin K L fu a0 v1 v2 v3 M = some r) : gW X 0 0 n K L M 0 [(0, va_rf (some a0)), (1, .int v1), (2, .int v2), (3, .int v3)] [] := by
  unfold f_X9_begin at h
  refine g_aload_n o dX9_begin_0 0 rfl ?_
  refine g_iload_n o dX9_begin_1 1 rfl ?_
  refine g_putI o hz fl_X9_53 (rc_self hk0) (by decide) rfl rfl rfl  dX9_begin_2 ?_
  obtain ⟨M1, e2, h⟩ := bn_at h
  refine g_mem e2 ?_
  refine g_aload_n o dX9_begin_5 0 rfl ?_
  refine g_iload_n o dX9_begin_6 2 rfl ?_
  refine g_putI o hz fl_X9_57 (rc_self hk0) (by decide) rfl rfl rfl  dX9_begin_7 ?_
  obtain ⟨M3, e4, h⟩ := bn_at h
  refine g_mem e4 ?_
  refine g_aload_n o dX9_begin_10 0 rfl ?_
  refine g_iload_n o dX9_begin_11 3 rfl ?_
  refine g_putI o hz fl_X9_60 (rc_self hk0) (by decide) rfl rfl rfl  dX9_begin_12 ?_
  obtain ⟨M5, e6, h⟩ := bn_at h
  refine g_mem e6 ?_
  refine g_aload_n o dX9_begin_15 0 rfl ?_
  refine g_getR o fl_X9_12 (rc_self hk0) (by decide) rfl dX9_begin_16 ?_
  obtain ⟨a7, e8, h⟩ := ob h
  obtain ⟨x9, e10, h⟩ := ob h
  refine g_invV0 o e8 (by decide) ml_X9_63 kb_X6_begin kv_X6_begin rfl (c_X6_begin (cq X) (cD X) (cY X) (cB X) (d := d) (by omega) (rc_at e8).2 e10) rfl rfl (by simp [cat_i, cat_l, cat_rf]) dX9_begin_19 ?_
  refine g_aload_n o dX9_begin_22 0 rfl ?_
  refine g_getR o fl_X9_21 (rc_self hk0) (by decide) rfl dX9_begin_23 ?_
  obtain ⟨a11, e12, h⟩ := ob h
  obtain ⟨x13, e14, h⟩ := ob h
  refine g_invV0 o e12 (by decide) ml_X9_66 kb_X7_begin kv_X7_begin rfl (c_X7_begin (cq X) (cD X) (cY X) (cB X) (d := d) (by omega) (rc_at e12).2 e14) rfl rfl (by simp [cat_i, cat_l, cat_rf]) dX9_begin_26 ?_
  refine g_aload_n o dX9_begin_29 0 rfl ?_
  refine g_iconst (v := (-1 : Int32)) o dX9_begin_30 (by decide) ?_
  refine g_iconst (v := (0 : Int32)) o dX9_begin_31 (by decide) ?_
  obtain ⟨x15, e16, h⟩ := ob h
  refine g_invV0 o (rc_self hk0) (by decide) ml_X9_67 kb_X9_hangOn kv_X9_hangOn rfl (c_X9_hangOn (cq X) (cD X) (cY X) (cB X) (d := d) (by omega) (rc_at (rc_self hk0)).2 e16) rfl rfl (by simp [cat_i, cat_l, cat_rf]) dX9_begin_32 ?_
  refine g_aload_n o dX9_begin_35 0 rfl ?_
  refine g_iconst (v := (0 : Int32)) o dX9_begin_36 (by decide) ?_
  refine g_putI o hz fl_X9_71 (rc_self hk0) (by decide) rfl rfl rfl  dX9_begin_37 ?_
  obtain ⟨M17, e18, h⟩ := bn_at h
  refine g_mem e18 ?_
  refine g_aload_n o dX9_begin_40 0 rfl ?_
  refine g_iconst (v := (0 : Int32)) o dX9_begin_41 (by decide) ?_
  refine g_putZ o hz fl_X9_74 (rc_self hk0) (by decide) rfl rfl rfl (by decide) dX9_begin_42 ?_
  obtain ⟨M19, e20, h⟩ := bn_at h
  refine g_mem e20 ?_
  refine g_aload_n o dX9_begin_45 0 rfl ?_
  refine g_getR o fl_X9_28 (rc_self hk0) (by decide) rfl dX9_begin_46 ?_
  obtain ⟨a21, e22, h⟩ := ob h
  obtain ⟨x23, e24, h⟩ := ob h
  refine g_invV0 o e22 (by decide) ml_X9_78 kb_X3_begin kv_X3_begin rfl (c_X3_begin (cq X) (cD X) (cY X) (cB X) (d := d) (by omega) (rc_at e22).2 e24) rfl rfl (by simp [cat_i, cat_l, cat_rf]) dX9_begin_49 ?_
  refine g_aload_n o dX9_begin_52 0 rfl ?_
  refine g_getR o fl_X9_35 (rc_self hk0) (by decide) rfl dX9_begin_53 ?_
  obtain ⟨a25, e26, h⟩ := ob h
  obtain ⟨x27, e28, h⟩ := ob h
  refine g_invV0 o e26 (by decide) ml_X9_79 kb_X0_begin kv_X0_begin rfl (c_X0_begin (cq X) (cD X) (cY X) (cB X) (d := d) (by omega) (rc_at e26).2 e28) rfl rfl (by simp [cat_i, cat_l, cat_rf]) dX9_begin_56 ?_
  refine g_aload_n o dX9_begin_59 0 rfl ?_
  refine g_getR o fl_X9_42 (rc_self hk0) (by decide) rfl dX9_begin_60 ?_
  refine g_iconst (v := (0 : Int32)) o dX9_begin_63 (by decide) ?_
  refine g_iconst (v := (1 : Int32)) o dX9_begin_64 (by decide) ?_
  refine g_sipush (v := (500 : Int32)) o dX9_begin_65 (by decide) ?_
  refine g_iconst (v := (1 : Int32)) o dX9_begin_68 (by decide) ?_
  obtain ⟨a29, e30, h⟩ := ob h
  obtain ⟨x31, e32, h⟩ := ob h
  refine g_invV0 o e30 (by decide) ml_X9_80 kb_X10_begin kv_X10_begin rfl (c_X10_begin (cq X) (cD X) (cY X) (cB X) (d := d) (by omega) (rc_at e30).2 e32) rfl rfl (by simp [cat_i, cat_l, cat_rf]) dX9_begin_69 ?_
  refine g_iconst (v := (0 : Int32)) o dX9_begin_72 (by decide) ?_
  refine g_istore (i := 4) (ls' := [(4, .int (0 : Int32)), (0, va_rf (some a0)), (1, .int v1), (2, .int v2), (3, .int v3)]) o dX9_begin_73 (ltL hL (by decide)) rfl ?_
  refine gsub [1, 0] rfl ?_
  exact w_X9_begin_75 o hL hr hz hk0 hE hd h
theorem c_X9_begin (l : Launch) (D : va_G) (Y : Nat → ClassId) (B : Nat) {d : Nat} {n : Nat} {K L : Nat → Nat} {fu : Nat} {M : Mm} {a0 : Nat} {v1 : Int32} {v2 : Int32} {v3 : Int32} {r : Mm} (hd : 2 ≤ d) (hk0 : K a0 = 9) (h : f_X9_begin K L fu a0 v1 v2 v3 M = some r) : mC l D Y B d yX9_begin cX9_begin 5 (none) [va_rf (some a0), .int v1, .int v2, .int v3] n K L M n K L r none 0 0 := by
  obtain ⟨d, rfl⟩ : ∃ e, d = e + 1 := ⟨d - 1, by omega⟩
  refine mk_met (by decide) (by simp [lgs_r, lgs_i, lgs_l, lgs_n]) (fun X e1 e2 e3 e4 o hL hr hnm hz hc hs hE => ?_)
  subst e1 e2 e3 e4
  rw [show lv_args 0 [va_rf (some a0), .int v1, .int v2, .int v3] = [(0, va_rf (some a0)), (1, .int v1), (2, .int v2), (3, .int v3)] by simp [lva_r, lva_i, lva_l, lva_n]]
  exact w_X9_begin_0 o hL hr hz hk0 hE hd h
def f_X4_putNote (K L : Nat → Nat) (a0 : Nat) (v1 : Int64) (M : Mm) : Option Mm :=
  Option.bind (f_X4_clear K L a0 M) (fun x1 =>
  bn (ms_I x1.2 (32 * 4 + 1) a0 (1 : Int32)) (fun M3 =>
  bn (ms_J M3 (32 * 4 + 2) a0 v1) (fun M5 =>
  some M5)))
set_option maxHeartbeats 4000000 in
theorem w_X4_putNote_0 {X : Cx} {d n : Nat} {K L : Nat → Nat} {a0 : Nat} {r : Mm} {v1 : Int64} {M : Mm} (o : cOk X cX4_putNote RX4 (d + 1)) (hL : cL X = 3) (hr : (ch X).sig.returnType = none) (hz : (cs X).heap.size + 0 = cB X + n) (hk0 : K a0 = 4) (hE : cE X n K L r none 0 0) (hd : 1 ≤ d + 1) (h : f_X4_putNote K L a0 v1 M = some r) : gW X 0 0 n K L M 0 [(0, va_rf (some a0)), (1, .long v1)] [] := by
  unfold f_X4_putNote at h
  refine g_aload_n o dX4_putNote_0 0 rfl ?_
  obtain ⟨x1, e2, h⟩ := ob h
  refine g_invV0 o (rc_self hk0) (by decide) ml_X4_25 kb_X4_clear kv_X4_clear rfl (c_X4_clear (cq X) (cD X) (cY X) (cB X) (d := d) (by omega) (rc_at (rc_self hk0)).2 e2) rfl rfl (by simp [cat_i, cat_l, cat_rf]) dX4_putNote_1 ?_
  refine g_pop o dX4_putNote_4 rfl ?_
  refine g_aload_n o dX4_putNote_5 0 rfl ?_
  refine g_iconst (v := (1 : Int32)) o dX4_putNote_6 (by decide) ?_
  refine g_putZ o hz fl_X4_21 (rc_self hk0) (by decide) rfl rfl rfl (by decide) dX4_putNote_7 ?_
  obtain ⟨M3, e4, h⟩ := bn_at h
  refine g_mem e4 ?_
  refine g_aload_n o dX4_putNote_10 0 rfl ?_
  refine g_lload_n o dX4_putNote_11 1 rfl ?_
  refine g_putJ o hz fl_X4_37 (rc_self hk0) (by decide) rfl rfl rfl  dX4_putNote_12 ?_
  obtain ⟨M5, e6, h⟩ := bn_at h
  refine g_mem e6 ?_
  cases h
  exact g_vret o hr hE dX4_putNote_15
theorem c_X4_putNote (l : Launch) (D : va_G) (Y : Nat → ClassId) (B : Nat) {d : Nat} {n : Nat} {K L : Nat → Nat} {M : Mm} {a0 : Nat} {v1 : Int64} {r : Mm} (hd : 1 ≤ d) (hk0 : K a0 = 4) (h : f_X4_putNote K L a0 v1 M = some r) : mC l D Y B d yX4_putNote cX4_putNote 3 (none) [va_rf (some a0), .long v1] n K L M n K L r none 0 0 := by
  obtain ⟨d, rfl⟩ : ∃ e, d = e + 1 := ⟨d - 1, by omega⟩
  refine mk_met (by decide) (by simp [lgs_r, lgs_i, lgs_l, lgs_n]) (fun X e1 e2 e3 e4 o hL hr hnm hz hc hs hE => ?_)
  subst e1 e2 e3 e4
  rw [show lv_args 0 [va_rf (some a0), .long v1] = [(0, va_rf (some a0)), (1, .long v1)] by simp [lva_r, lva_i, lva_l, lva_n]]
  exact w_X4_putNote_0 o hL hr hz hk0 hE hd h
def f_X6_takeFrom (K L : Nat → Nat) (a0 : Nat) (v1 : (Option Nat)) (M : Mm) : Option Mm :=
  Option.bind (rc K v1 6) (fun a1 =>
  bn (ms_I M (32 * 6 + 0) a0 (mm_I M (32 * 6 + 0) a1)) (fun M3 =>
  Option.bind (rp K L (mm_R M3 (32 * 6 + 1) a1) (0 : Int32) (6 : Int32)) (fun a5 => Option.bind (rp K L (mm_R M3 (32 * 6 + 1) a0) (0 : Int32) (6 : Int32)) (fun a7 =>
  bn (ms_A M3 a7 (va_cpy (mm_A M3 a5) (mm_A M3 a7) (0 : Int32).toNatClampNeg (0 : Int32).toNatClampNeg (6 : Int32).toNatClampNeg)) (fun M9 =>
  Option.bind (rp K L (mm_R M9 (32 * 6 + 2) a1) (0 : Int32) (6 : Int32)) (fun a11 => Option.bind (rp K L (mm_R M9 (32 * 6 + 2) a0) (0 : Int32) (6 : Int32)) (fun a13 =>
  bn (ms_A M9 a13 (va_cpy (mm_A M9 a11) (mm_A M9 a13) (0 : Int32).toNatClampNeg (0 : Int32).toNatClampNeg (6 : Int32).toNatClampNeg)) (fun M15 =>
  Option.bind (rp K L (mm_R M15 (32 * 6 + 3) a1) (0 : Int32) (6 : Int32)) (fun a17 => Option.bind (rp K L (mm_R M15 (32 * 6 + 3) a0) (0 : Int32) (6 : Int32)) (fun a19 =>
  bn (ms_A M15 a19 (va_cpy (mm_A M15 a17) (mm_A M15 a19) (0 : Int32).toNatClampNeg (0 : Int32).toNatClampNeg (6 : Int32).toNatClampNeg)) (fun M21 =>
  Option.bind (rp K L (mm_R M21 (32 * 6 + 4) a1) (0 : Int32) (6 : Int32)) (fun a23 => Option.bind (rp K L (mm_R M21 (32 * 6 + 4) a0) (0 : Int32) (6 : Int32)) (fun a25 =>
  bn (ms_A M21 a25 (va_cpy (mm_A M21 a23) (mm_A M21 a25) (0 : Int32).toNatClampNeg (0 : Int32).toNatClampNeg (6 : Int32).toNatClampNeg)) (fun M27 =>
  some M27))))))))))))))
set_option maxHeartbeats 4000000 in
theorem w_X6_takeFrom_0 {X : Cx} {d n : Nat} {K L : Nat → Nat} {a0 : Nat} {r : Mm} {v1 : (Option Nat)} {M : Mm} (o : cOk X cX6_takeFrom RX6 d) (hL : cL X = 2) (hr : (ch X).sig.returnType = none) (hz : (cs X).heap.size + 0 = cB X + n) (hk0 : K a0 = 6) (hE : cE X n K L r none 0 0) (hd : 1 ≤ d) (h : f_X6_takeFrom K L a0 v1 M = some r) : gW X 0 0 n K L M 0 [(0, va_rf (some a0)), (1, va_rf v1)] [] := by
  unfold f_X6_takeFrom at h
  refine g_aload_n o dX6_takeFrom_0 0 rfl ?_
  refine g_aload_n o dX6_takeFrom_1 1 rfl ?_
  obtain ⟨a1, e2, h⟩ := ob h
  refine g_getI o fl_X6_24 e2 (by decide) rfl dX6_takeFrom_2 ?_
  refine g_putI o hz fl_X6_24 (rc_self hk0) (by decide) rfl rfl rfl  dX6_takeFrom_5 ?_
  obtain ⟨M3, e4, h⟩ := bn_at h
  refine g_mem e4 ?_
  refine g_aload_n o dX6_takeFrom_8 1 rfl ?_
  refine g_getR o fl_X6_9 e2 (by decide) rfl dX6_takeFrom_9 ?_
  refine g_iconst (v := (0 : Int32)) o dX6_takeFrom_12 (by decide) ?_
  refine g_aload_n o dX6_takeFrom_13 0 rfl ?_
  refine g_getR o fl_X6_9 (rc_self hk0) (by decide) rfl dX6_takeFrom_14 ?_
  refine g_iconst (v := (0 : Int32)) o dX6_takeFrom_17 (by decide) ?_
  refine g_bipush (v := (6 : Int32)) o dX6_takeFrom_18 (by decide) ?_
  obtain ⟨a5, e6, h⟩ := ob h
  obtain ⟨a7, e8, h⟩ := ob h
  refine g_copy o hz ml_X6_28 (by omega) e6 e8 (by simp [cat_i, cat_l, cat_rf]) dX6_takeFrom_20 ?_
  obtain ⟨M9, e10, h⟩ := bn_at h
  refine g_mem e10 ?_
  refine g_aload_n o dX6_takeFrom_23 1 rfl ?_
  refine g_getR o fl_X6_15 e2 (by decide) rfl dX6_takeFrom_24 ?_
  refine g_iconst (v := (0 : Int32)) o dX6_takeFrom_27 (by decide) ?_
  refine g_aload_n o dX6_takeFrom_28 0 rfl ?_
  refine g_getR o fl_X6_15 (rc_self hk0) (by decide) rfl dX6_takeFrom_29 ?_
  refine g_iconst (v := (0 : Int32)) o dX6_takeFrom_32 (by decide) ?_
  refine g_bipush (v := (6 : Int32)) o dX6_takeFrom_33 (by decide) ?_
  obtain ⟨a11, e12, h⟩ := ob h
  obtain ⟨a13, e14, h⟩ := ob h
  refine g_copy o hz ml_X6_28 (by omega) e12 e14 (by simp [cat_i, cat_l, cat_rf]) dX6_takeFrom_35 ?_
  obtain ⟨M15, e16, h⟩ := bn_at h
  refine g_mem e16 ?_
  refine g_aload_n o dX6_takeFrom_38 1 rfl ?_
  refine g_getR o fl_X6_18 e2 (by decide) rfl dX6_takeFrom_39 ?_
  refine g_iconst (v := (0 : Int32)) o dX6_takeFrom_42 (by decide) ?_
  refine g_aload_n o dX6_takeFrom_43 0 rfl ?_
  refine g_getR o fl_X6_18 (rc_self hk0) (by decide) rfl dX6_takeFrom_44 ?_
  refine g_iconst (v := (0 : Int32)) o dX6_takeFrom_47 (by decide) ?_
  refine g_bipush (v := (6 : Int32)) o dX6_takeFrom_48 (by decide) ?_
  obtain ⟨a17, e18, h⟩ := ob h
  obtain ⟨a19, e20, h⟩ := ob h
  refine g_copy o hz ml_X6_28 (by omega) e18 e20 (by simp [cat_i, cat_l, cat_rf]) dX6_takeFrom_50 ?_
  obtain ⟨M21, e22, h⟩ := bn_at h
  refine g_mem e22 ?_
  refine g_aload_n o dX6_takeFrom_53 1 rfl ?_
  refine g_getR o fl_X6_21 e2 (by decide) rfl dX6_takeFrom_54 ?_
  refine g_iconst (v := (0 : Int32)) o dX6_takeFrom_57 (by decide) ?_
  refine g_aload_n o dX6_takeFrom_58 0 rfl ?_
  refine g_getR o fl_X6_21 (rc_self hk0) (by decide) rfl dX6_takeFrom_59 ?_
  refine g_iconst (v := (0 : Int32)) o dX6_takeFrom_62 (by decide) ?_
  refine g_bipush (v := (6 : Int32)) o dX6_takeFrom_63 (by decide) ?_
  obtain ⟨a23, e24, h⟩ := ob h
  obtain ⟨a25, e26, h⟩ := ob h
  refine g_copy o hz ml_X6_28 (by omega) e24 e26 (by simp [cat_i, cat_l, cat_rf]) dX6_takeFrom_65 ?_
  obtain ⟨M27, e28, h⟩ := bn_at h
  refine g_mem e28 ?_
  cases h
  exact g_vret o hr hE dX6_takeFrom_68
theorem c_X6_takeFrom (l : Launch) (D : va_G) (Y : Nat → ClassId) (B : Nat) {d : Nat} {n : Nat} {K L : Nat → Nat} {M : Mm} {a0 : Nat} {v1 : (Option Nat)} {r : Mm} (hd : 1 ≤ d) (hk0 : K a0 = 6) (h : f_X6_takeFrom K L a0 v1 M = some r) : mC l D Y B d yX6_takeFrom cX6_takeFrom 2 (none) [va_rf (some a0), va_rf v1] n K L M n K L r none 0 0 := by
  refine mk_met (by decide) (by simp [lgs_r, lgs_i, lgs_l, lgs_n]) (fun X e1 e2 e3 e4 o hL hr hnm hz hc hs hE => ?_)
  subst e1 e2 e3 e4
  rw [show lv_args 0 [va_rf (some a0), va_rf v1] = [(0, va_rf (some a0)), (1, va_rf v1)] by simp [lva_r, lva_i, lva_l, lva_n]]
  exact w_X6_takeFrom_0 o hL hr hz hk0 hE hd h
def f_X7_takeFrom (K L : Nat → Nat) (a0 : Nat) (v1 : (Option Nat)) (M : Mm) : Option Mm :=
  Option.bind (rc K v1 7) (fun a1 =>
  Option.bind (rp K L (mm_R M (32 * 7 + 0) a1) (0 : Int32) (8 : Int32)) (fun a3 => Option.bind (rp K L (mm_R M (32 * 7 + 0) a0) (0 : Int32) (8 : Int32)) (fun a5 =>
  bn (ms_A M a5 (va_cpy (mm_A M a3) (mm_A M a5) (0 : Int32).toNatClampNeg (0 : Int32).toNatClampNeg (8 : Int32).toNatClampNeg)) (fun M7 =>
  Option.bind (rp K L (mm_R M7 (32 * 7 + 1) a1) (0 : Int32) (8 : Int32)) (fun a9 => Option.bind (rp K L (mm_R M7 (32 * 7 + 1) a0) (0 : Int32) (8 : Int32)) (fun a11 =>
  bn (ms_A M7 a11 (va_cpy (mm_A M7 a9) (mm_A M7 a11) (0 : Int32).toNatClampNeg (0 : Int32).toNatClampNeg (8 : Int32).toNatClampNeg)) (fun M13 =>
  some M13)))))))
set_option maxHeartbeats 4000000 in
theorem w_X7_takeFrom_0 {X : Cx} {d n : Nat} {K L : Nat → Nat} {a0 : Nat} {r : Mm} {v1 : (Option Nat)} {M : Mm} (o : cOk X cX7_takeFrom RX7 d) (hL : cL X = 2) (hr : (ch X).sig.returnType = none) (hz : (cs X).heap.size + 0 = cB X + n) (hk0 : K a0 = 7) (hE : cE X n K L r none 0 0) (hd : 1 ≤ d) (h : f_X7_takeFrom K L a0 v1 M = some r) : gW X 0 0 n K L M 0 [(0, va_rf (some a0)), (1, va_rf v1)] [] := by
  unfold f_X7_takeFrom at h
  refine g_aload_n o dX7_takeFrom_0 1 rfl ?_
  obtain ⟨a1, e2, h⟩ := ob h
  refine g_getR o fl_X7_9 e2 (by decide) rfl dX7_takeFrom_1 ?_
  refine g_iconst (v := (0 : Int32)) o dX7_takeFrom_4 (by decide) ?_
  refine g_aload_n o dX7_takeFrom_5 0 rfl ?_
  refine g_getR o fl_X7_9 (rc_self hk0) (by decide) rfl dX7_takeFrom_6 ?_
  refine g_iconst (v := (0 : Int32)) o dX7_takeFrom_9 (by decide) ?_
  refine g_bipush (v := (8 : Int32)) o dX7_takeFrom_10 (by decide) ?_
  obtain ⟨a3, e4, h⟩ := ob h
  obtain ⟨a5, e6, h⟩ := ob h
  refine g_copy o hz ml_X7_24 (by omega) e4 e6 (by simp [cat_i, cat_l, cat_rf]) dX7_takeFrom_12 ?_
  obtain ⟨M7, e8, h⟩ := bn_at h
  refine g_mem e8 ?_
  refine g_aload_n o dX7_takeFrom_15 1 rfl ?_
  refine g_getR o fl_X7_15 e2 (by decide) rfl dX7_takeFrom_16 ?_
  refine g_iconst (v := (0 : Int32)) o dX7_takeFrom_19 (by decide) ?_
  refine g_aload_n o dX7_takeFrom_20 0 rfl ?_
  refine g_getR o fl_X7_15 (rc_self hk0) (by decide) rfl dX7_takeFrom_21 ?_
  refine g_iconst (v := (0 : Int32)) o dX7_takeFrom_24 (by decide) ?_
  refine g_bipush (v := (8 : Int32)) o dX7_takeFrom_25 (by decide) ?_
  obtain ⟨a9, e10, h⟩ := ob h
  obtain ⟨a11, e12, h⟩ := ob h
  refine g_copy o hz ml_X7_24 (by omega) e10 e12 (by simp [cat_i, cat_l, cat_rf]) dX7_takeFrom_27 ?_
  obtain ⟨M13, e14, h⟩ := bn_at h
  refine g_mem e14 ?_
  cases h
  exact g_vret o hr hE dX7_takeFrom_30
theorem c_X7_takeFrom (l : Launch) (D : va_G) (Y : Nat → ClassId) (B : Nat) {d : Nat} {n : Nat} {K L : Nat → Nat} {M : Mm} {a0 : Nat} {v1 : (Option Nat)} {r : Mm} (hd : 1 ≤ d) (hk0 : K a0 = 7) (h : f_X7_takeFrom K L a0 v1 M = some r) : mC l D Y B d yX7_takeFrom cX7_takeFrom 2 (none) [va_rf (some a0), va_rf v1] n K L M n K L r none 0 0 := by
  refine mk_met (by decide) (by simp [lgs_r, lgs_i, lgs_l, lgs_n]) (fun X e1 e2 e3 e4 o hL hr hnm hz hc hs hE => ?_)
  subst e1 e2 e3 e4
  rw [show lv_args 0 [va_rf (some a0), va_rf v1] = [(0, va_rf (some a0)), (1, va_rf v1)] by simp [lva_r, lva_i, lva_l, lva_n]]
  exact w_X7_takeFrom_0 o hL hr hz hk0 hE hd h
def f_X10_takeFrom (K L : Nat → Nat) (a0 : Nat) (v1 : (Option Nat)) (M : Mm) : Option Mm :=
  Option.bind (rc K v1 10) (fun a1 =>
  Option.bind (f_X10_begin K L a0 (mm_I M (32 * 10 + 0) a1) (mm_I M (32 * 10 + 1) a1) (mm_I M (32 * 10 + 2) a1) (mm_I M (32 * 10 + 3) a1) M) (fun x3 =>
  bn (ms_I x3 (32 * 10 + 4) a0 (mm_I x3 (32 * 10 + 4) a1)) (fun M5 =>
  bn (ms_I M5 (32 * 10 + 5) a0 (mm_I M5 (32 * 10 + 5) a1)) (fun M7 =>
  bn (ms_I M7 (32 * 10 + 6) a0 (mm_I M7 (32 * 10 + 6) a1)) (fun M9 =>
  Option.bind (f_X10_setLook K L a0 (mm_I M9 (32 * 10 + 7) a1) (mm_I M9 (32 * 10 + 8) a1) (mm_I M9 (32 * 10 + 9) a1) (mm_I M9 (32 * 10 + 10) a1) M9) (fun x11 =>
  some x11))))))
set_option maxHeartbeats 4000000 in
theorem w_X10_takeFrom_0 {X : Cx} {d n : Nat} {K L : Nat → Nat} {a0 : Nat} {r : Mm} {v1 : (Option Nat)} {M : Mm} (o : cOk X cX10_takeFrom RX10 (d + 1)) (hL : cL X = 2) (hr : (ch X).sig.returnType = none) (hz : (cs X).heap.size + 0 = cB X + n) (hk0 : K a0 = 10) (hE : cE X n K L r none 0 0) (hd : 2 ≤ d + 1) (h : f_X10_takeFrom K L a0 v1 M = some r) : gW X 0 0 n K L M 0 [(0, va_rf (some a0)), (1, va_rf v1)] [] := by
  unfold f_X10_takeFrom at h
  refine g_aload_n o dX10_takeFrom_0 0 rfl ?_
  refine g_aload_n o dX10_takeFrom_1 1 rfl ?_
  obtain ⟨a1, e2, h⟩ := ob h
  refine g_getI o fl_X10_9 e2 (by decide) rfl dX10_takeFrom_2 ?_
  refine g_aload_n o dX10_takeFrom_5 1 rfl ?_
  refine g_getI o fl_X10_15 e2 (by decide) rfl dX10_takeFrom_6 ?_
  refine g_aload_n o dX10_takeFrom_9 1 rfl ?_
  refine g_getI o fl_X10_18 e2 (by decide) rfl dX10_takeFrom_10 ?_
  refine g_aload_n o dX10_takeFrom_13 1 rfl ?_
  refine g_getI o fl_X10_21 e2 (by decide) rfl dX10_takeFrom_14 ?_
  obtain ⟨x3, e4, h⟩ := ob h
  refine g_invV0 o (rc_self hk0) (by decide) ml_X10_37 kb_X10_begin kv_X10_begin rfl (c_X10_begin (cq X) (cD X) (cY X) (cB X) (d := d) (by omega) (rc_at (rc_self hk0)).2 e4) rfl rfl (by simp [cat_i, cat_l, cat_rf]) dX10_takeFrom_17 ?_
  refine g_aload_n o dX10_takeFrom_20 0 rfl ?_
  refine g_aload_n o dX10_takeFrom_21 1 rfl ?_
  refine g_getI o fl_X10_24 e2 (by decide) rfl dX10_takeFrom_22 ?_
  refine g_putI o hz fl_X10_24 (rc_self hk0) (by decide) rfl rfl rfl  dX10_takeFrom_25 ?_
  obtain ⟨M5, e6, h⟩ := bn_at h
  refine g_mem e6 ?_
  refine g_aload_n o dX10_takeFrom_28 0 rfl ?_
  refine g_aload_n o dX10_takeFrom_29 1 rfl ?_
  refine g_getI o fl_X10_27 e2 (by decide) rfl dX10_takeFrom_30 ?_
  refine g_putI o hz fl_X10_27 (rc_self hk0) (by decide) rfl rfl rfl  dX10_takeFrom_33 ?_
  obtain ⟨M7, e8, h⟩ := bn_at h
  refine g_mem e8 ?_
  refine g_aload_n o dX10_takeFrom_36 0 rfl ?_
  refine g_aload_n o dX10_takeFrom_37 1 rfl ?_
  refine g_getI o fl_X10_30 e2 (by decide) rfl dX10_takeFrom_38 ?_
  refine g_putI o hz fl_X10_30 (rc_self hk0) (by decide) rfl rfl rfl  dX10_takeFrom_41 ?_
  obtain ⟨M9, e10, h⟩ := bn_at h
  refine g_mem e10 ?_
  refine g_aload_n o dX10_takeFrom_44 0 rfl ?_
  refine g_aload_n o dX10_takeFrom_45 1 rfl ?_
  refine g_getI o fl_X10_40 e2 (by decide) rfl dX10_takeFrom_46 ?_
  refine g_aload_n o dX10_takeFrom_49 1 rfl ?_
  refine g_getI o fl_X10_43 e2 (by decide) rfl dX10_takeFrom_50 ?_
  refine g_aload_n o dX10_takeFrom_53 1 rfl ?_
  refine g_getI o fl_X10_46 e2 (by decide) rfl dX10_takeFrom_54 ?_
  refine g_aload_n o dX10_takeFrom_57 1 rfl ?_
  refine g_getI o fl_X10_49 e2 (by decide) rfl dX10_takeFrom_58 ?_
  obtain ⟨x11, e12, h⟩ := ob h
  refine g_invV0 o (rc_self hk0) (by decide) ml_X10_33 kb_X10_setLook kv_X10_setLook rfl (c_X10_setLook (cq X) (cD X) (cY X) (cB X) (d := d) (by omega) (rc_at (rc_self hk0)).2 e12) rfl rfl (by simp [cat_i, cat_l, cat_rf]) dX10_takeFrom_61 ?_
  cases h
  exact g_vret o hr hE dX10_takeFrom_64
theorem c_X10_takeFrom (l : Launch) (D : va_G) (Y : Nat → ClassId) (B : Nat) {d : Nat} {n : Nat} {K L : Nat → Nat} {M : Mm} {a0 : Nat} {v1 : (Option Nat)} {r : Mm} (hd : 2 ≤ d) (hk0 : K a0 = 10) (h : f_X10_takeFrom K L a0 v1 M = some r) : mC l D Y B d yX10_takeFrom cX10_takeFrom 2 (none) [va_rf (some a0), va_rf v1] n K L M n K L r none 0 0 := by
  obtain ⟨d, rfl⟩ : ∃ e, d = e + 1 := ⟨d - 1, by omega⟩
  refine mk_met (by decide) (by simp [lgs_r, lgs_i, lgs_l, lgs_n]) (fun X e1 e2 e3 e4 o hL hr hnm hz hc hs hE => ?_)
  subst e1 e2 e3 e4
  rw [show lv_args 0 [va_rf (some a0), va_rf v1] = [(0, va_rf (some a0)), (1, va_rf v1)] by simp [lva_r, lva_i, lva_l, lva_n]]
  exact w_X10_takeFrom_0 o hL hr hz hk0 hE hd h
def f_X9_takeFrom_109b (K L : Nat → Nat) (fu : Nat) (k109 : (Option Nat) → Int32 → Mm → Option Mm) (a0 : Nat) (v1 : (Option Nat)) (v2 : Int32) (M : Mm) : Option Mm :=
  if (4 : Int32) ≤ v2 then
    some M
  else
    Option.bind (rx K L (mm_R M (32 * 9 + 12) a0) 16 v2) (fun a1 =>
    Option.bind (rc K v1 9) (fun a3 =>
    Option.bind (rx K L (mm_R M (32 * 9 + 12) a3) 16 v2) (fun a5 =>
    Option.bind (rc K (mm_C M a1 v2.toNatClampNeg) 2) (fun a7 =>
    Option.bind (f_X2_takeFrom K L a7 (mm_C M a5 v2.toNatClampNeg) M) (fun x9 =>
    k109 v1 (v2 + 1) x9)))))
def f_X9_takeFrom_109 (K L : Nat → Nat) (fu : Nat) (a0 : Nat) : Nat → (Option Nat) → Int32 → Mm → Option Mm
  | 0, _, _, _ => none
  | g + 1, v1, v2, M => f_X9_takeFrom_109b K L fu (f_X9_takeFrom_109 K L fu a0 g) a0 v1 v2 M
set_option maxHeartbeats 4000000 in
theorem w_X9_takeFrom_109b {X : Cx} {d n : Nat} {K L : Nat → Nat} {fu : Nat} {a0 : Nat} {r : Mm} {k109 : (Option Nat) → Int32 → Mm → Option Mm} {v1 : (Option Nat)} {v2 : Int32} {M : Mm} (o : cOk X cX9_takeFrom RX9 (d + 1)) (hL : cL X = 3) (hr : (ch X).sig.returnType = none) (hz : (cs X).heap.size + 0 = cB X + n) (hk0 : K a0 = 9) (hE : cE X n K L r none 0 0) (hk109 : ∀ (v1 : (Option Nat)) (v2 : Int32) (M : Mm), k109 v1 v2 M = some r → gW X 0 0 n K L M 109 [(0, va_rf (some a0)), (1, va_rf v1), (2, .int v2)] []) (hd : 3 ≤ d + 1) (h : f_X9_takeFrom_109b K L fu k109 a0 v1 v2 M = some r) : gW X 0 0 n K L M 109 [(0, va_rf (some a0)), (1, va_rf v1), (2, .int v2)] [] := by
  unfold f_X9_takeFrom_109b at h
  refine g_iload_n o dX9_takeFrom_109 2 rfl ?_
  refine g_iconst (v := (4 : Int32)) o dX9_takeFrom_110 (by decide) ?_
  refine g_icmp_ge (tgt := 135) o dX9_takeFrom_111 (by decide) (fun z => ?_) (fun z => ?_)
  · have h := (if_pos z).symm.trans h
    cases h
    exact g_vret o hr hE dX9_takeFrom_135
  · have h := (if_neg z).symm.trans h
    refine g_aload_n o dX9_takeFrom_114 0 rfl ?_
    refine g_getR o fl_X9_48 (rc_self hk0) (by decide) rfl dX9_takeFrom_115 ?_
    refine g_iload_n o dX9_takeFrom_118 2 rfl ?_
    obtain ⟨a1, e2, h⟩ := ob h
    refine g_aald o (by decide) e2 dX9_takeFrom_119 ?_
    refine g_aload_n o dX9_takeFrom_120 1 rfl ?_
    obtain ⟨a3, e4, h⟩ := ob h
    refine g_getR o fl_X9_48 e4 (by decide) rfl dX9_takeFrom_121 ?_
    refine g_iload_n o dX9_takeFrom_124 2 rfl ?_
    obtain ⟨a5, e6, h⟩ := ob h
    refine g_aald o (by decide) e6 dX9_takeFrom_125 ?_
    obtain ⟨a7, e8, h⟩ := ob h
    obtain ⟨x9, e10, h⟩ := ob h
    refine g_invV0 o e8 (by decide) ml_X9_108 kb_X2_takeFrom kv_X2_takeFrom rfl (c_X2_takeFrom (cq X) (cD X) (cY X) (cB X) (d := d) (by omega) (rc_at e8).2 e10) rfl rfl (by simp [cat_i, cat_l, cat_rf]) dX9_takeFrom_126 ?_
    refine g_iinc (i := 2) (v := v2 + 1) (ls' := [(2, .int (v2 + 1)), (0, va_rf (some a0)), (1, va_rf v1)]) o dX9_takeFrom_129 2 rfl (by first | rfl | (congr 1)) (ltL hL (by decide)) (by simp [cat_rf]) ?_
    refine g_goto (tgt := 109) o dX9_takeFrom_132 (by decide) ?_
    refine gsub [1, 2, 0] rfl ?_
    exact hk109 _ _ _ h
theorem w_X9_takeFrom_109_n {X : Cx} {d n : Nat} {K L : Nat → Nat} {fu : Nat} {a0 : Nat} {r : Mm} (o : cOk X cX9_takeFrom RX9 (d + 1)) (hL : cL X = 3) (hr : (ch X).sig.returnType = none) (hz : (cs X).heap.size + 0 = cB X + n) (hk0 : K a0 = 9) (hE : cE X n K L r none 0 0) (hd : 3 ≤ d + 1) : ∀ (g : Nat) (v1 : (Option Nat)) (v2 : Int32) (M : Mm), f_X9_takeFrom_109 K L fu a0 g v1 v2 M = some r → gW X 0 0 n K L M 109 [(0, va_rf (some a0)), (1, va_rf v1), (2, .int v2)] []
  | 0, _, _, _, h => by cases h
  | g + 1, v1, v2, M, h => w_X9_takeFrom_109b o hL hr hz hk0 hE (w_X9_takeFrom_109_n o hL hr hz hk0 hE hd g) hd h
theorem w_X9_takeFrom_109 {X : Cx} {d n : Nat} {K L : Nat → Nat} {fu : Nat} {a0 : Nat} {r : Mm} {v1 : (Option Nat)} {v2 : Int32} {M : Mm} (o : cOk X cX9_takeFrom RX9 (d + 1)) (hL : cL X = 3) (hr : (ch X).sig.returnType = none) (hz : (cs X).heap.size + 0 = cB X + n) (hk0 : K a0 = 9) (hE : cE X n K L r none 0 0) (hd : 3 ≤ d + 1) (h : f_X9_takeFrom_109 K L fu a0 fu v1 v2 M = some r) : gW X 0 0 n K L M 109 [(0, va_rf (some a0)), (1, va_rf v1), (2, .int v2)] [] := w_X9_takeFrom_109_n o hL hr hz hk0 hE hd fu v1 v2 M h
def f_X9_takeFrom (K L : Nat → Nat) (fu : Nat) (a0 : Nat) (v1 : (Option Nat)) (M : Mm) : Option Mm :=
  Option.bind (rc K v1 9) (fun a1 =>
  bn (ms_I M (32 * 9 + 0) a0 (mm_I M (32 * 9 + 0) a1)) (fun M3 =>
  bn (ms_I M3 (32 * 9 + 1) a0 (mm_I M3 (32 * 9 + 1) a1)) (fun M5 =>
  bn (ms_I M5 (32 * 9 + 2) a0 (mm_I M5 (32 * 9 + 2) a1)) (fun M7 =>
  Option.bind (rc K (mm_R M7 (32 * 9 + 3) a0) 6) (fun a9 =>
  Option.bind (f_X6_takeFrom K L a9 (mm_R M7 (32 * 9 + 3) a1) M7) (fun x11 =>
  Option.bind (rc K (mm_R x11 (32 * 9 + 4) a0) 7) (fun a13 =>
  Option.bind (f_X7_takeFrom K L a13 (mm_R x11 (32 * 9 + 4) a1) x11) (fun x15 =>
  Option.bind (f_X9_hangOn K L a0 (mm_I x15 (32 * 9 + 5) a1) (mm_I x15 (32 * 9 + 6) a1) x15) (fun x17 =>
  bn (ms_I x17 (32 * 9 + 7) a0 (mm_I x17 (32 * 9 + 7) a1)) (fun M19 =>
  Option.bind (zb (mm_I M19 (32 * 9 + 8) a1)) (fun u22 =>
  bn (ms_I M19 (32 * 9 + 8) a0 (mm_I M19 (32 * 9 + 8) a1)) (fun M23 =>
  Option.bind (rc K (mm_R M23 (32 * 9 + 9) a0) 3) (fun a25 =>
  Option.bind (f_X3_takeFrom K L a25 (mm_R M23 (32 * 9 + 9) a1) M23) (fun x27 =>
  Option.bind (rc K (mm_R x27 (32 * 9 + 10) a0) 0) (fun a29 =>
  Option.bind (f_X0_takeFrom K L a29 (mm_R x27 (32 * 9 + 10) a1) x27) (fun x31 =>
  Option.bind (rc K (mm_R x31 (32 * 9 + 11) a0) 10) (fun a33 =>
  Option.bind (f_X10_takeFrom K L a33 (mm_R x31 (32 * 9 + 11) a1) x31) (fun x35 =>
  f_X9_takeFrom_109 K L fu a0 fu v1 (0 : Int32) x35))))))))))))))))))
set_option maxHeartbeats 4000000 in
theorem w_X9_takeFrom_0 {X : Cx} {d n : Nat} {K L : Nat → Nat} {fu : Nat} {a0 : Nat} {r : Mm} {v1 : (Option Nat)} {M : Mm} (o : cOk X cX9_takeFrom RX9 (d + 1)) (hL : cL X = 3) (hr : (ch X).sig.returnType = none) (hz : (cs X).heap.size + 0 = cB X + n) (hk0 : K a0 = 9) (hE : cE X n K L r none 0 0) (hd : 3 ≤ d + 1) (h : f_X9_takeFrom K L fu a0 v1 M = some r) : gW X 0 0 n K L M 0 [(0, va_rf (some a0)), (1, va_rf v1)] [] := by
  unfold f_X9_takeFrom at h
  refine g_aload_n o dX9_takeFrom_0 0 rfl ?_
  refine g_aload_n o dX9_takeFrom_1 1 rfl ?_
  obtain ⟨a1, e2, h⟩ := ob h
  refine g_getI o fl_X9_53 e2 (by decide) rfl dX9_takeFrom_2 ?_
  refine g_putI o hz fl_X9_53 (rc_self hk0) (by decide) rfl rfl rfl  dX9_takeFrom_5 ?_
  obtain ⟨M3, e4, h⟩ := bn_at h
  refine g_mem e4 ?_
  refine g_aload_n o dX9_takeFrom_8 0 rfl ?_
  refine g_aload_n o dX9_takeFrom_9 1 rfl ?_
  refine g_getI o fl_X9_57 e2 (by decide) rfl dX9_takeFrom_10 ?_
  refine g_putI o hz fl_X9_57 (rc_self hk0) (by decide) rfl rfl rfl  dX9_takeFrom_13 ?_
  obtain ⟨M5, e6, h⟩ := bn_at h
  refine g_mem e6 ?_
  refine g_aload_n o dX9_takeFrom_16 0 rfl ?_
  refine g_aload_n o dX9_takeFrom_17 1 rfl ?_
  refine g_getI o fl_X9_60 e2 (by decide) rfl dX9_takeFrom_18 ?_
  refine g_putI o hz fl_X9_60 (rc_self hk0) (by decide) rfl rfl rfl  dX9_takeFrom_21 ?_
  obtain ⟨M7, e8, h⟩ := bn_at h
  refine g_mem e8 ?_
  refine g_aload_n o dX9_takeFrom_24 0 rfl ?_
  refine g_getR o fl_X9_12 (rc_self hk0) (by decide) rfl dX9_takeFrom_25 ?_
  refine g_aload_n o dX9_takeFrom_28 1 rfl ?_
  refine g_getR o fl_X9_12 e2 (by decide) rfl dX9_takeFrom_29 ?_
  obtain ⟨a9, e10, h⟩ := ob h
  obtain ⟨x11, e12, h⟩ := ob h
  refine g_invV0 o e10 (by decide) ml_X9_86 kb_X6_takeFrom kv_X6_takeFrom rfl (c_X6_takeFrom (cq X) (cD X) (cY X) (cB X) (d := d) (by omega) (rc_at e10).2 e12) rfl rfl (by simp [cat_i, cat_l, cat_rf]) dX9_takeFrom_32 ?_
  refine g_aload_n o dX9_takeFrom_35 0 rfl ?_
  refine g_getR o fl_X9_21 (rc_self hk0) (by decide) rfl dX9_takeFrom_36 ?_
  refine g_aload_n o dX9_takeFrom_39 1 rfl ?_
  refine g_getR o fl_X9_21 e2 (by decide) rfl dX9_takeFrom_40 ?_
  obtain ⟨a13, e14, h⟩ := ob h
  obtain ⟨x15, e16, h⟩ := ob h
  refine g_invV0 o e14 (by decide) ml_X9_90 kb_X7_takeFrom kv_X7_takeFrom rfl (c_X7_takeFrom (cq X) (cD X) (cY X) (cB X) (d := d) (by omega) (rc_at e14).2 e16) rfl rfl (by simp [cat_i, cat_l, cat_rf]) dX9_takeFrom_43 ?_
  refine g_aload_n o dX9_takeFrom_46 0 rfl ?_
  refine g_aload_n o dX9_takeFrom_47 1 rfl ?_
  refine g_getI o fl_X9_93 e2 (by decide) rfl dX9_takeFrom_48 ?_
  refine g_aload_n o dX9_takeFrom_51 1 rfl ?_
  refine g_getI o fl_X9_96 e2 (by decide) rfl dX9_takeFrom_52 ?_
  obtain ⟨x17, e18, h⟩ := ob h
  refine g_invV0 o (rc_self hk0) (by decide) ml_X9_67 kb_X9_hangOn kv_X9_hangOn rfl (c_X9_hangOn (cq X) (cD X) (cY X) (cB X) (d := d) (by omega) (rc_at (rc_self hk0)).2 e18) rfl rfl (by simp [cat_i, cat_l, cat_rf]) dX9_takeFrom_55 ?_
  refine g_aload_n o dX9_takeFrom_58 0 rfl ?_
  refine g_aload_n o dX9_takeFrom_59 1 rfl ?_
  refine g_getI o fl_X9_71 e2 (by decide) rfl dX9_takeFrom_60 ?_
  refine g_putI o hz fl_X9_71 (rc_self hk0) (by decide) rfl rfl rfl  dX9_takeFrom_63 ?_
  obtain ⟨M19, e20, h⟩ := bn_at h
  refine g_mem e20 ?_
  refine g_aload_n o dX9_takeFrom_66 0 rfl ?_
  refine g_aload_n o dX9_takeFrom_67 1 rfl ?_
  refine g_getI o fl_X9_74 e2 (by decide) rfl dX9_takeFrom_68 ?_
  obtain ⟨u22, e21, h⟩ := ob h
  refine g_putZ o hz fl_X9_74 (rc_self hk0) (by decide) rfl rfl rfl (zb_at e21) dX9_takeFrom_71 ?_
  obtain ⟨M23, e24, h⟩ := bn_at h
  refine g_mem e24 ?_
  refine g_aload_n o dX9_takeFrom_74 0 rfl ?_
  refine g_getR o fl_X9_28 (rc_self hk0) (by decide) rfl dX9_takeFrom_75 ?_
  refine g_aload_n o dX9_takeFrom_78 1 rfl ?_
  refine g_getR o fl_X9_28 e2 (by decide) rfl dX9_takeFrom_79 ?_
  obtain ⟨a25, e26, h⟩ := ob h
  obtain ⟨x27, e28, h⟩ := ob h
  refine g_invV0 o e26 (by decide) ml_X9_99 kb_X3_takeFrom kv_X3_takeFrom rfl (c_X3_takeFrom (cq X) (cD X) (cY X) (cB X) (d := d) (by omega) (rc_at e26).2 e28) rfl rfl (by simp [cat_i, cat_l, cat_rf]) dX9_takeFrom_82 ?_
  refine g_aload_n o dX9_takeFrom_85 0 rfl ?_
  refine g_getR o fl_X9_35 (rc_self hk0) (by decide) rfl dX9_takeFrom_86 ?_
  refine g_aload_n o dX9_takeFrom_89 1 rfl ?_
  refine g_getR o fl_X9_35 e2 (by decide) rfl dX9_takeFrom_90 ?_
  obtain ⟨a29, e30, h⟩ := ob h
  obtain ⟨x31, e32, h⟩ := ob h
  refine g_invV0 o e30 (by decide) ml_X9_102 kb_X0_takeFrom kv_X0_takeFrom rfl (c_X0_takeFrom (cq X) (cD X) (cY X) (cB X) (d := d) (by omega) (rc_at e30).2 e32) rfl rfl (by simp [cat_i, cat_l, cat_rf]) dX9_takeFrom_93 ?_
  refine g_aload_n o dX9_takeFrom_96 0 rfl ?_
  refine g_getR o fl_X9_42 (rc_self hk0) (by decide) rfl dX9_takeFrom_97 ?_
  refine g_aload_n o dX9_takeFrom_100 1 rfl ?_
  refine g_getR o fl_X9_42 e2 (by decide) rfl dX9_takeFrom_101 ?_
  obtain ⟨a33, e34, h⟩ := ob h
  obtain ⟨x35, e36, h⟩ := ob h
  refine g_invV0 o e34 (by decide) ml_X9_105 kb_X10_takeFrom kv_X10_takeFrom rfl (c_X10_takeFrom (cq X) (cD X) (cY X) (cB X) (d := d) (by omega) (rc_at e34).2 e36) rfl rfl (by simp [cat_i, cat_l, cat_rf]) dX9_takeFrom_104 ?_
  refine g_iconst (v := (0 : Int32)) o dX9_takeFrom_107 (by decide) ?_
  refine g_istore_n (i := 2) (ls' := [(2, .int (0 : Int32)), (0, va_rf (some a0)), (1, va_rf v1)]) o dX9_takeFrom_108 rfl (ltL hL (by decide)) (by simp [cat_rf]) ?_
  refine gsub [1, 2, 0] rfl ?_
  exact w_X9_takeFrom_109 o hL hr hz hk0 hE hd h
theorem c_X9_takeFrom (l : Launch) (D : va_G) (Y : Nat → ClassId) (B : Nat) {d : Nat} {n : Nat} {K L : Nat → Nat} {fu : Nat} {M : Mm} {a0 : Nat} {v1 : (Option Nat)} {r : Mm} (hd : 3 ≤ d) (hk0 : K a0 = 9) (h : f_X9_takeFrom K L fu a0 v1 M = some r) : mC l D Y B d yX9_takeFrom cX9_takeFrom 3 (none) [va_rf (some a0), va_rf v1] n K L M n K L r none 0 0 := by
  obtain ⟨d, rfl⟩ : ∃ e, d = e + 1 := ⟨d - 1, by omega⟩
  refine mk_met (by decide) (by simp [lgs_r, lgs_i, lgs_l, lgs_n]) (fun X e1 e2 e3 e4 o hL hr hnm hz hc hs hE => ?_)
  subst e1 e2 e3 e4
  rw [show lv_args 0 [va_rf (some a0), va_rf v1] = [(0, va_rf (some a0)), (1, va_rf v1)] by simp [lva_r, lva_i, lva_l, lva_n]]
  exact w_X9_takeFrom_0 o hL hr hz hk0 hE hd h
def f_X5_memberAt (K L : Nat → Nat) (M : Mm) (a0 : Nat) (v1 : Int32) : Option Int32 :=
  if v1 < 0 then
    some (-3 : Int32)
  else
    if (mm_I M (32 * 5 + 3) a0) ≤ v1 then
      some (-3 : Int32)
    else
      Option.bind (rx K L (mm_R M (32 * 5 + 2) a0) 13 v1) (fun a1 =>
      some (mm_A M a1 v1.toNatClampNeg))
set_option maxHeartbeats 4000000 in
theorem w_X5_memberAt_0 {X : Cx} {d n : Nat} {K L : Nat → Nat} {M : Mm} {a0 : Nat} {r : Int32} {v1 : Int32} (o : cOk X cX5_memberAt RX5 d) (hL : cL X = 2) (hr : (ch X).sig.returnType = some .int) (hk0 : K a0 = 5) (hE : cE X n K L M (some (.int r)) 0 0) (h : f_X5_memberAt K L M a0 v1 = some r) : gW X 0 0 n K L M 0 [(0, va_rf (some a0)), (1, .int v1)] [] := by
  unfold f_X5_memberAt at h
  refine g_iload_n o dX5_memberAt_0 1 rfl ?_
  refine g_if_lt (tgt := 21) o dX5_memberAt_1 (by decide) (fun z => ?_) (fun z => ?_)
  · have h := (if_pos z).symm.trans h
    refine g_bipush (v := (-3 : Int32)) o dX5_memberAt_21 (by decide) ?_
    cases h
    exact g_iret o hr hE dX5_memberAt_23
  · have h := (if_neg z).symm.trans h
    refine g_iload_n o dX5_memberAt_4 1 rfl ?_
    refine g_aload_n o dX5_memberAt_5 0 rfl ?_
    refine g_getI o fl_X5_21 (rc_self hk0) (by decide) rfl dX5_memberAt_6 ?_
    refine g_icmp_ge (tgt := 21) o dX5_memberAt_9 (by decide) (fun z => ?_) (fun z => ?_)
    · have h := (if_pos z).symm.trans h
      refine g_bipush (v := (-3 : Int32)) o dX5_memberAt_21 (by decide) ?_
      cases h
      exact g_iret o hr hE dX5_memberAt_23
    · have h := (if_neg z).symm.trans h
      refine g_aload_n o dX5_memberAt_12 0 rfl ?_
      refine g_getR o fl_X5_18 (rc_self hk0) (by decide) rfl dX5_memberAt_13 ?_
      refine g_iload_n o dX5_memberAt_16 1 rfl ?_
      obtain ⟨a1, e2, h⟩ := ob h
      refine g_iald o e2 dX5_memberAt_17 ?_
      refine g_goto (tgt := 23) o dX5_memberAt_18 (by decide) ?_
      cases h
      exact g_iret o hr hE dX5_memberAt_23
theorem c_X5_memberAt (l : Launch) (D : va_G) (Y : Nat → ClassId) (B : Nat) {d : Nat} {n : Nat} {K L : Nat → Nat} {M : Mm} {a0 : Nat} {v1 : Int32} {r : Int32} (hd : 0 ≤ d) (hk0 : K a0 = 5) (h : f_X5_memberAt K L M a0 v1 = some r) : mC l D Y B d yX5_memberAt cX5_memberAt 2 (some .int) [va_rf (some a0), .int v1] n K L M n K L M (some (.int r)) 0 0 := by
  refine mk_met (by decide) (by simp [lgs_r, lgs_i, lgs_l, lgs_n]) (fun X e1 e2 e3 e4 o hL hr hnm hz hc hs hE => ?_)
  subst e1 e2 e3 e4
  rw [show lv_args 0 [va_rf (some a0), .int v1] = [(0, va_rf (some a0)), (1, .int v1)] by simp [lva_r, lva_i, lva_l, lva_n]]
  exact w_X5_memberAt_0 o hL hr hk0 hE h
def f_X5_gatherStopped_2b (K L : Nat → Nat) (fu : Nat) (k2 : (Option Nat) → Int32 → Mm → Option Mm) (a0 : Nat) (v1 : (Option Nat)) (v2 : Int32) (M : Mm) : Option Mm :=
  if (16 : Int32) ≤ v2 then
    some M
  else
    Option.bind (rc K v1 9) (fun a1 =>
    Option.bind (f_X9_isStopOf K L M a1 v2) (fun x3 =>
    if x3 = 0 then
      k2 v1 (v2 + 1) M
    else
      Option.bind (rx K L (mm_R M (32 * 5 + 0) a0) 13 v2) (fun a5 =>
      bn (ms_A M a5 (upd (mm_A M a5) v2.toNatClampNeg ((mm_A M a5 v2.toNatClampNeg) ||| ((1 : Int32) <<< ((mm_I M (32 * 9 + 5) a1) &&& 31))))) (fun M7 =>
      k2 v1 (v2 + 1) M7))))
def f_X5_gatherStopped_2 (K L : Nat → Nat) (fu : Nat) (a0 : Nat) : Nat → (Option Nat) → Int32 → Mm → Option Mm
  | 0, _, _, _ => none
  | g + 1, v1, v2, M => f_X5_gatherStopped_2b K L fu (f_X5_gatherStopped_2 K L fu a0 g) a0 v1 v2 M
set_option maxHeartbeats 4000000 in
theorem w_X5_gatherStopped_2b {X : Cx} {d n : Nat} {K L : Nat → Nat} {fu : Nat} {a0 : Nat} {r : Mm} {k2 : (Option Nat) → Int32 → Mm → Option Mm} {v1 : (Option Nat)} {v2 : Int32} {M : Mm} (o : cOk X cX5_gatherStopped RX5 (d + 1)) (hL : cL X = 3) (hr : (ch X).sig.returnType = none) (hz : (cs X).heap.size + 0 = cB X + n) (hk0 : K a0 = 5) (hE : cE X n K L r none 0 0) (hk2 : ∀ (v1 : (Option Nat)) (v2 : Int32) (M : Mm), k2 v1 v2 M = some r → gW X 0 0 n K L M 2 [(0, va_rf (some a0)), (1, va_rf v1), (2, .int v2)] []) (hd : 2 ≤ d + 1) (h : f_X5_gatherStopped_2b K L fu k2 a0 v1 v2 M = some r) : gW X 0 0 n K L M 2 [(0, va_rf (some a0)), (1, va_rf v1), (2, .int v2)] [] := by
  unfold f_X5_gatherStopped_2b at h
  refine g_iload_n o dX5_gatherStopped_2 2 rfl ?_
  refine g_bipush (v := (16 : Int32)) o dX5_gatherStopped_3 (by decide) ?_
  refine g_icmp_ge (tgt := 37) o dX5_gatherStopped_5 (by decide) (fun z => ?_) (fun z => ?_)
  · have h := (if_pos z).symm.trans h
    cases h
    exact g_vret o hr hE dX5_gatherStopped_37
  · have h := (if_neg z).symm.trans h
    refine g_aload_n o dX5_gatherStopped_8 1 rfl ?_
    refine g_iload_n o dX5_gatherStopped_9 2 rfl ?_
    obtain ⟨a1, e2, h⟩ := ob h
    obtain ⟨x3, e4, h⟩ := ob h
    refine g_invV0 o e2 (by decide) ml_X5_65 kb_X9_isStopOf kv_X9_isStopOf rfl (c_X9_isStopOf (cq X) (cD X) (cY X) (cB X) (d := d) (by omega) (rc_at e2).2 e4) rfl rfl (by simp [cat_i, cat_l, cat_rf]) dX5_gatherStopped_10 ?_
    refine g_if_eq (tgt := 31) o dX5_gatherStopped_13 (by decide) (fun z => ?_) (fun z => ?_)
    · have h := (if_pos z).symm.trans h
      refine g_iinc (i := 2) (v := v2 + 1) (ls' := [(2, .int (v2 + 1)), (0, va_rf (some a0)), (1, va_rf v1)]) o dX5_gatherStopped_31 2 rfl (by first | rfl | (congr 1)) (ltL hL (by decide)) (by simp [cat_rf]) ?_
      refine g_goto (tgt := 2) o dX5_gatherStopped_34 (by decide) ?_
      refine gsub [1, 2, 0] rfl ?_
      exact hk2 _ _ _ h
    · have h := (if_neg z).symm.trans h
      refine g_aload_n o dX5_gatherStopped_16 0 rfl ?_
      refine g_getR o fl_X5_9 (rc_self hk0) (by decide) rfl dX5_gatherStopped_17 ?_
      refine g_iload_n o dX5_gatherStopped_20 2 rfl ?_
      refine g_dup2 o dX5_gatherStopped_21 rfl (cat_rf _) ?_
      obtain ⟨a5, e6, h⟩ := ob h
      refine g_iald o e6 dX5_gatherStopped_22 ?_
      refine g_iconst (v := (1 : Int32)) o dX5_gatherStopped_23 (by decide) ?_
      refine g_aload_n o dX5_gatherStopped_24 1 rfl ?_
      refine g_getI o fl_X5_52 e2 (by decide) rfl dX5_gatherStopped_25 ?_
      refine g_ishl o dX5_gatherStopped_28 ?_
      refine g_ior o dX5_gatherStopped_29 ?_
      refine g_iast o hz e6  dX5_gatherStopped_30 ?_
      obtain ⟨M7, e8, h⟩ := bn_at h
      refine g_mem e8 ?_
      refine g_iinc (i := 2) (v := v2 + 1) (ls' := [(2, .int (v2 + 1)), (0, va_rf (some a0)), (1, va_rf v1)]) o dX5_gatherStopped_31 2 rfl (by first | rfl | (congr 1)) (ltL hL (by decide)) (by simp [cat_rf]) ?_
      refine g_goto (tgt := 2) o dX5_gatherStopped_34 (by decide) ?_
      refine gsub [1, 2, 0] rfl ?_
      exact hk2 _ _ _ h
theorem w_X5_gatherStopped_2_n {X : Cx} {d n : Nat} {K L : Nat → Nat} {fu : Nat} {a0 : Nat} {r : Mm} (o : cOk X cX5_gatherStopped RX5 (d + 1)) (hL : cL X = 3) (hr : (ch X).sig.returnType = none) (hz : (cs X).heap.size + 0 = cB X + n) (hk0 : K a0 = 5) (hE : cE X n K L r none 0 0) (hd : 2 ≤ d + 1) : ∀ (g : Nat) (v1 : (Option Nat)) (v2 : Int32) (M : Mm), f_X5_gatherStopped_2 K L fu a0 g v1 v2 M = some r → gW X 0 0 n K L M 2 [(0, va_rf (some a0)), (1, va_rf v1), (2, .int v2)] []
  | 0, _, _, _, h => by cases h
  | g + 1, v1, v2, M, h => w_X5_gatherStopped_2b o hL hr hz hk0 hE (w_X5_gatherStopped_2_n o hL hr hz hk0 hE hd g) hd h
theorem w_X5_gatherStopped_2 {X : Cx} {d n : Nat} {K L : Nat → Nat} {fu : Nat} {a0 : Nat} {r : Mm} {v1 : (Option Nat)} {v2 : Int32} {M : Mm} (o : cOk X cX5_gatherStopped RX5 (d + 1)) (hL : cL X = 3) (hr : (ch X).sig.returnType = none) (hz : (cs X).heap.size + 0 = cB X + n) (hk0 : K a0 = 5) (hE : cE X n K L r none 0 0) (hd : 2 ≤ d + 1) (h : f_X5_gatherStopped_2 K L fu a0 fu v1 v2 M = some r) : gW X 0 0 n K L M 2 [(0, va_rf (some a0)), (1, va_rf v1), (2, .int v2)] [] := w_X5_gatherStopped_2_n o hL hr hz hk0 hE hd fu v1 v2 M h
def f_X5_gatherStopped (K L : Nat → Nat) (fu : Nat) (a0 : Nat) (v1 : (Option Nat)) (M : Mm) : Option Mm :=
  f_X5_gatherStopped_2 K L fu a0 fu v1 (0 : Int32) M
set_option maxHeartbeats 4000000 in
theorem w_X5_gatherStopped_0 {X : Cx} {d n : Nat} {K L : Nat → Nat} {fu : Nat} {a0 : Nat} {r : Mm} {v1 : (Option Nat)} {M : Mm} (o : cOk X cX5_gatherStopped RX5 (d + 1)) (hL : cL X = 3) (hr : (ch X).sig.returnType = none) (hz : (cs X).heap.size + 0 = cB X + n) (hk0 : K a0 = 5) (hE : cE X n K L r none 0 0) (hd : 2 ≤ d + 1) (h : f_X5_gatherStopped K L fu a0 v1 M = some r) : gW X 0 0 n K L M 0 [(0, va_rf (some a0)), (1, va_rf v1)] [] := by
  unfold f_X5_gatherStopped at h
  refine g_iconst (v := (0 : Int32)) o dX5_gatherStopped_0 (by decide) ?_
  refine g_istore_n (i := 2) (ls' := [(2, .int (0 : Int32)), (0, va_rf (some a0)), (1, va_rf v1)]) o dX5_gatherStopped_1 rfl (ltL hL (by decide)) (by simp [cat_rf]) ?_
  refine gsub [1, 2, 0] rfl ?_
  exact w_X5_gatherStopped_2 o hL hr hz hk0 hE hd h
theorem c_X5_gatherStopped (l : Launch) (D : va_G) (Y : Nat → ClassId) (B : Nat) {d : Nat} {n : Nat} {K L : Nat → Nat} {fu : Nat} {M : Mm} {a0 : Nat} {v1 : (Option Nat)} {r : Mm} (hd : 2 ≤ d) (hk0 : K a0 = 5) (h : f_X5_gatherStopped K L fu a0 v1 M = some r) : mC l D Y B d yX5_gatherStopped cX5_gatherStopped 3 (none) [va_rf (some a0), va_rf v1] n K L M n K L r none 0 0 := by
  obtain ⟨d, rfl⟩ : ∃ e, d = e + 1 := ⟨d - 1, by omega⟩
  refine mk_met (by decide) (by simp [lgs_r, lgs_i, lgs_l, lgs_n]) (fun X e1 e2 e3 e4 o hL hr hnm hz hc hs hE => ?_)
  subst e1 e2 e3 e4
  rw [show lv_args 0 [va_rf (some a0), va_rf v1] = [(0, va_rf (some a0)), (1, va_rf v1)] by simp [lva_r, lva_i, lva_l, lva_n]]
  exact w_X5_gatherStopped_0 o hL hr hz hk0 hE hd h
def f_X5_gatherAsks_10b (K L : Nat → Nat) (fu : Nat) (k10 : (Option Nat) → Int32 → Mm → Option Mm) (a0 : Nat) (v1 : (Option Nat)) (v2 : Int32) (M : Mm) : Option Mm :=
  if (16 : Int32) ≤ v2 then
    some M
  else
    Option.bind (rc K v1 8) (fun a1 =>
    Option.bind (f_X8_switchAt K L M a1 v2) (fun x3 =>
    if x3 = none then
      k10 v1 (v2 + 1) M
    else
      Option.bind (rc K x3 9) (fun a5 =>
      Option.bind (f_X11_within (mm_I M (32 * 9 + 5) a5) (15 : Int32)) (fun x7 =>
      if x7 = 0 then
        k10 v1 (v2 + 1) M
      else
        Option.bind (rx K L (mm_R M (32 * 5 + 0) a0) 13 v2) (fun a9 =>
        bn (ms_A M a9 (upd (mm_A M a9) v2.toNatClampNeg ((mm_A M a9 v2.toNatClampNeg) ||| ((1 : Int32) <<< ((mm_I M (32 * 9 + 5) a5) &&& 31))))) (fun M11 =>
        Option.bind (f_X5_gatherStopped K L fu a0 x3 M11) (fun x13 =>
        k10 v1 (v2 + 1) x13)))))))
def f_X5_gatherAsks_10 (K L : Nat → Nat) (fu : Nat) (a0 : Nat) : Nat → (Option Nat) → Int32 → Mm → Option Mm
  | 0, _, _, _ => none
  | g + 1, v1, v2, M => f_X5_gatherAsks_10b K L fu (f_X5_gatherAsks_10 K L fu a0 g) a0 v1 v2 M
set_option maxHeartbeats 4000000 in
theorem w_X5_gatherAsks_10b {X : Cx} {d n : Nat} {K L : Nat → Nat} {fu : Nat} {a0 : Nat} {r : Mm} {k10 : (Option Nat) → Int32 → Mm → Option Mm} {v1 : (Option Nat)} {v2 : Int32} {M : Mm} (o : cOk X cX5_gatherAsks RX5 (d + 1)) (hL : cL X = 4) (hr : (ch X).sig.returnType = none) (hz : (cs X).heap.size + 0 = cB X + n) (hk0 : K a0 = 5) (hE : cE X n K L r none 0 0) (hk10 : ∀ (v1 : (Option Nat)) (v2 : Int32) (M : Mm), k10 v1 v2 M = some r → gW X 0 0 n K L M 10 [(0, va_rf (some a0)), (1, va_rf v1), (2, .int v2)] []) (hd : 3 ≤ d + 1) (h : f_X5_gatherAsks_10b K L fu k10 a0 v1 v2 M = some r) : gW X 0 0 n K L M 10 [(0, va_rf (some a0)), (1, va_rf v1), (2, .int v2)] [] := by
  unfold f_X5_gatherAsks_10b at h
  refine g_iload_n o dX5_gatherAsks_10 2 rfl ?_
  refine g_bipush (v := (16 : Int32)) o dX5_gatherAsks_11 (by decide) ?_
  refine g_icmp_ge (tgt := 64) o dX5_gatherAsks_13 (by decide) (fun z => ?_) (fun z => ?_)
  · have h := (if_pos z).symm.trans h
    cases h
    exact g_vret o hr hE dX5_gatherAsks_64
  · have h := (if_neg z).symm.trans h
    refine g_aload_n o dX5_gatherAsks_16 1 rfl ?_
    refine g_iload_n o dX5_gatherAsks_17 2 rfl ?_
    obtain ⟨a1, e2, h⟩ := ob h
    obtain ⟨x3, e4, h⟩ := ob h
    refine g_invV0 o e2 (by decide) ml_X5_46 kb_X8_switchAt kv_X8_switchAt rfl (c_X8_switchAt (cq X) (cD X) (cY X) (cB X) (d := d) (by omega) (rc_at e2).2 e4) rfl rfl (by simp [cat_i, cat_l, cat_rf]) dX5_gatherAsks_18 ?_
    refine g_astore_n (i := 3) (ls' := [(3, va_rf x3), (0, va_rf (some a0)), (1, va_rf v1), (2, .int v2)]) o dX5_gatherAsks_21 rfl (ltL hL (by decide)) rfl ?_
    refine g_aload_n o dX5_gatherAsks_22 0 rfl ?_
    refine g_ifnull (tgt := 58) o dX5_gatherAsks_23 (by decide) (fun z => ?_) (fun z => ?_)
    · have h := (if_pos z).symm.trans h
      refine g_iinc (i := 2) (v := v2 + 1) (ls' := [(2, .int (v2 + 1)), (3, va_rf x3), (0, va_rf (some a0)), (1, va_rf v1)]) o dX5_gatherAsks_58 3 rfl (by first | rfl | (congr 1)) (ltL hL (by decide)) (by simp [cat_rf]) ?_
      refine g_goto (tgt := 10) o dX5_gatherAsks_61 (by decide) ?_
      refine gsub [2, 3, 0] rfl ?_
      exact hk10 _ _ _ h
    · have h := (if_neg z).symm.trans h
      refine g_aload_n o dX5_gatherAsks_26 0 rfl ?_
      obtain ⟨a5, e6, h⟩ := ob h
      refine g_getI o fl_X5_52 e6 (by decide) rfl dX5_gatherAsks_27 ?_
      refine g_bipush (v := (15 : Int32)) o dX5_gatherAsks_30 (by decide) ?_
      obtain ⟨x7, e8, h⟩ := ob h
      refine g_invSN0 o mn_X5_57 kb_X11_within ks_X11_within (c_X11_within (cq X) (cD X) (cY X) (cB X) (d := d) (by omega) e8) rfl rfl (by simp [cat_i, cat_l, cat_rf]) dX5_gatherAsks_32 ?_
      refine g_if_eq (tgt := 58) o dX5_gatherAsks_35 (by decide) (fun z => ?_) (fun z => ?_)
      · have h := (if_pos z).symm.trans h
        refine g_iinc (i := 2) (v := v2 + 1) (ls' := [(2, .int (v2 + 1)), (3, va_rf x3), (0, va_rf (some a0)), (1, va_rf v1)]) o dX5_gatherAsks_58 3 rfl (by first | rfl | (congr 1)) (ltL hL (by decide)) (by simp [cat_rf]) ?_
        refine g_goto (tgt := 10) o dX5_gatherAsks_61 (by decide) ?_
        refine gsub [2, 3, 0] rfl ?_
        exact hk10 _ _ _ h
      · have h := (if_neg z).symm.trans h
        refine g_aload_n o dX5_gatherAsks_38 1 rfl ?_
        refine g_getR o fl_X5_9 (rc_self hk0) (by decide) rfl dX5_gatherAsks_39 ?_
        refine g_iload_n o dX5_gatherAsks_42 3 rfl ?_
        refine g_dup2 o dX5_gatherAsks_43 rfl (cat_rf _) ?_
        obtain ⟨a9, e10, h⟩ := ob h
        refine g_iald o e10 dX5_gatherAsks_44 ?_
        refine g_iconst (v := (1 : Int32)) o dX5_gatherAsks_45 (by decide) ?_
        refine g_aload_n o dX5_gatherAsks_46 0 rfl ?_
        refine g_getI o fl_X5_52 e6 (by decide) rfl dX5_gatherAsks_47 ?_
        refine g_ishl o dX5_gatherAsks_50 ?_
        refine g_ior o dX5_gatherAsks_51 ?_
        refine g_iast o hz e10  dX5_gatherAsks_52 ?_
        obtain ⟨M11, e12, h⟩ := bn_at h
        refine g_mem e12 ?_
        refine g_aload_n o dX5_gatherAsks_53 1 rfl ?_
        refine g_aload_n o dX5_gatherAsks_54 0 rfl ?_
        obtain ⟨x13, e14, h⟩ := ob h
        refine g_invV0 o (rc_self hk0) (by decide) ml_X5_61 kb_X5_gatherStopped kv_X5_gatherStopped rfl (c_X5_gatherStopped (cq X) (cD X) (cY X) (cB X) (d := d) (by omega) (rc_at (rc_self hk0)).2 e14) rfl rfl (by simp [cat_i, cat_l, cat_rf]) dX5_gatherAsks_55 ?_
        refine g_iinc (i := 2) (v := v2 + 1) (ls' := [(2, .int (v2 + 1)), (3, va_rf x3), (0, va_rf (some a0)), (1, va_rf v1)]) o dX5_gatherAsks_58 3 rfl (by first | rfl | (congr 1)) (ltL hL (by decide)) (by simp [cat_rf]) ?_
        refine g_goto (tgt := 10) o dX5_gatherAsks_61 (by decide) ?_
        refine gsub [2, 3, 0] rfl ?_
        exact hk10 _ _ _ h
theorem w_X5_gatherAsks_10_n {X : Cx} {d n : Nat} {K L : Nat → Nat} {fu : Nat} {a0 : Nat} {r : Mm} (o : cOk X cX5_gatherAsks RX5 (d + 1)) (hL : cL X = 4) (hr : (ch X).sig.returnType = none) (hz : (cs X).heap.size + 0 = cB X + n) (hk0 : K a0 = 5) (hE : cE X n K L r none 0 0) (hd : 3 ≤ d + 1) : ∀ (g : Nat) (v1 : (Option Nat)) (v2 : Int32) (M : Mm), f_X5_gatherAsks_10 K L fu a0 g v1 v2 M = some r → gW X 0 0 n K L M 10 [(0, va_rf (some a0)), (1, va_rf v1), (2, .int v2)] []
  | 0, _, _, _, h => by cases h
  | g + 1, v1, v2, M, h => w_X5_gatherAsks_10b o hL hr hz hk0 hE (w_X5_gatherAsks_10_n o hL hr hz hk0 hE hd g) hd h
theorem w_X5_gatherAsks_10 {X : Cx} {d n : Nat} {K L : Nat → Nat} {fu : Nat} {a0 : Nat} {r : Mm} {v1 : (Option Nat)} {v2 : Int32} {M : Mm} (o : cOk X cX5_gatherAsks RX5 (d + 1)) (hL : cL X = 4) (hr : (ch X).sig.returnType = none) (hz : (cs X).heap.size + 0 = cB X + n) (hk0 : K a0 = 5) (hE : cE X n K L r none 0 0) (hd : 3 ≤ d + 1) (h : f_X5_gatherAsks_10 K L fu a0 fu v1 v2 M = some r) : gW X 0 0 n K L M 10 [(0, va_rf (some a0)), (1, va_rf v1), (2, .int v2)] [] := w_X5_gatherAsks_10_n o hL hr hz hk0 hE hd fu v1 v2 M h
def f_X5_gatherAsks (K L : Nat → Nat) (fu : Nat) (a0 : Nat) (v1 : (Option Nat)) (M : Mm) : Option Mm :=
  Option.bind (f_J7_fill_53178 K L fu (mm_R M (32 * 5 + 0) a0) (0 : Int32) M) (fun x1 =>
  f_X5_gatherAsks_10 K L fu a0 fu v1 (0 : Int32) x1)
set_option maxHeartbeats 4000000 in
theorem w_X5_gatherAsks_0 {X : Cx} {d n : Nat} {K L : Nat → Nat} {fu : Nat} {a0 : Nat} {r : Mm} {v1 : (Option Nat)} {M : Mm} (o : cOk X cX5_gatherAsks RX5 (d + 1)) (hL : cL X = 4) (hr : (ch X).sig.returnType = none) (hz : (cs X).heap.size + 0 = cB X + n) (hk0 : K a0 = 5) (hE : cE X n K L r none 0 0) (hd : 3 ≤ d + 1) (h : f_X5_gatherAsks K L fu a0 v1 M = some r) : gW X 0 0 n K L M 0 [(0, va_rf (some a0)), (1, va_rf v1)] [] := by
  unfold f_X5_gatherAsks at h
  refine g_aload_n o dX5_gatherAsks_0 0 rfl ?_
  refine g_getR o fl_X5_9 (rc_self hk0) (by decide) rfl dX5_gatherAsks_1 ?_
  refine g_iconst (v := (0 : Int32)) o dX5_gatherAsks_4 (by decide) ?_
  obtain ⟨x1, e2, h⟩ := ob h
  refine g_invS0 o ml_X5_40 kb_J7_fill_53178 ks_J7_fill_53178 (c_J7_fill_53178 (cq X) (cD X) (cY X) (cB X) (d := d) (by omega) e2) rfl rfl (by simp [cat_i, cat_l, cat_rf]) dX5_gatherAsks_5 ?_
  refine g_iconst (v := (0 : Int32)) o dX5_gatherAsks_8 (by decide) ?_
  refine g_istore_n (i := 2) (ls' := [(2, .int (0 : Int32)), (0, va_rf (some a0)), (1, va_rf v1)]) o dX5_gatherAsks_9 rfl (ltL hL (by decide)) (by simp [cat_rf]) ?_
  refine gsub [1, 2, 0] rfl ?_
  exact w_X5_gatherAsks_10 o hL hr hz hk0 hE hd h
theorem c_X5_gatherAsks (l : Launch) (D : va_G) (Y : Nat → ClassId) (B : Nat) {d : Nat} {n : Nat} {K L : Nat → Nat} {fu : Nat} {M : Mm} {a0 : Nat} {v1 : (Option Nat)} {r : Mm} (hd : 3 ≤ d) (hk0 : K a0 = 5) (h : f_X5_gatherAsks K L fu a0 v1 M = some r) : mC l D Y B d yX5_gatherAsks cX5_gatherAsks 4 (none) [va_rf (some a0), va_rf v1] n K L M n K L r none 0 0 := by
  obtain ⟨d, rfl⟩ : ∃ e, d = e + 1 := ⟨d - 1, by omega⟩
  refine mk_met (by decide) (by simp [lgs_r, lgs_i, lgs_l, lgs_n]) (fun X e1 e2 e3 e4 o hL hr hnm hz hc hs hE => ?_)
  subst e1 e2 e3 e4
  rw [show lv_args 0 [va_rf (some a0), va_rf v1] = [(0, va_rf (some a0)), (1, va_rf v1)] by simp [lva_r, lva_i, lva_l, lva_n]]
  exact w_X5_gatherAsks_0 o hL hr hz hk0 hE hd h
def f_X5_measureTo_33b (K L : Nat → Nat) (fu : Nat) (k21 : Int32 → Int32 → Mm → Option Mm) (k33 : Int32 → Int32 → Int32 → Int32 → Mm → Option Mm) (a0 : Nat) (v2 : Int32) (v3 : Int32) (v4 : Int32) (v5 : Int32) (M : Mm) : Option Mm :=
  if (16 : Int32) ≤ v5 then
    k21 v4 (v3 + 1) M
  else
    Option.bind (rx K L (mm_R M (32 * 5 + 1) a0) 13 v5) (fun a1 =>
    if (mm_A M a1 v5.toNatClampNeg) = (-1 : Int32) then
      Option.bind (rx K L (mm_R M (32 * 5 + 0) a0) 13 v5) (fun a3 =>
      if ((mm_A M a3 v5.toNatClampNeg) &&& v2) = 0 then
        k33 v2 v3 v4 (v5 + 1) M
      else
        bn (ms_A M a1 (upd (mm_A M a1) v5.toNatClampNeg v3)) (fun M5 =>
        bn (v4 ||| ((1 : Int32) <<< (v5 &&& 31))) (fun x7 =>
        k33 v2 v3 x7 (v5 + 1) M5)))
    else
      k33 v2 v3 v4 (v5 + 1) M)
def f_X5_measureTo_33 (K L : Nat → Nat) (fu : Nat) (k21 : Int32 → Int32 → Mm → Option Mm) (a0 : Nat) : Nat → Int32 → Int32 → Int32 → Int32 → Mm → Option Mm
  | 0, _, _, _, _, _ => none
  | g + 1, v2, v3, v4, v5, M => f_X5_measureTo_33b K L fu k21 (f_X5_measureTo_33 K L fu k21 a0 g) a0 v2 v3 v4 v5 M
set_option maxHeartbeats 4000000 in
theorem w_X5_measureTo_33b {X : Cx} {d n : Nat} {K L : Nat → Nat} {fu : Nat} {a0 : Nat} {r : Mm} {k21 : Int32 → Int32 → Mm → Option Mm} {k33 : Int32 → Int32 → Int32 → Int32 → Mm → Option Mm} {v2 : Int32} {v3 : Int32} {v4 : Int32} {v5 : Int32} {M : Mm} (o : cOk X cX5_measureTo RX5 (d + 1)) (hL : cL X = 6) (hr : (ch X).sig.returnType = none) (hz : (cs X).heap.size + 0 = cB X + n) (hk0 : K a0 = 5) (hE : cE X n K L r none 0 0) (hk21 : ∀ (v2 : Int32) (v3 : Int32) (M : Mm), k21 v2 v3 M = some r → gW X 0 0 n K L M 21 [(0, va_rf (some a0)), (2, .int v2), (3, .int v3)] []) (hk33 : ∀ (v2 : Int32) (v3 : Int32) (v4 : Int32) (v5 : Int32) (M : Mm), k33 v2 v3 v4 v5 M = some r → gW X 0 0 n K L M 33 [(0, va_rf (some a0)), (2, .int v2), (3, .int v3), (4, .int v4), (5, .int v5)] []) (hd : 1 ≤ d + 1) (h : f_X5_measureTo_33b K L fu k21 k33 a0 v2 v3 v4 v5 M = some r) : gW X 0 0 n K L M 33 [(0, va_rf (some a0)), (2, .int v2), (3, .int v3), (4, .int v4), (5, .int v5)] [] := by
  unfold f_X5_measureTo_33b at h
  refine g_iload o dX5_measureTo_33 4 rfl ?_
  refine g_bipush (v := (16 : Int32)) o dX5_measureTo_35 (by decide) ?_
  refine g_icmp_ge (tgt := 86) o dX5_measureTo_37 (by decide) (fun z => ?_) (fun z => ?_)
  · have h := (if_pos z).symm.trans h
    refine g_iload o dX5_measureTo_86 3 rfl ?_
    refine g_istore_n (i := 2) (ls' := [(2, .int v4), (0, va_rf (some a0)), (3, .int v3), (4, .int v4), (5, .int v5)]) o dX5_measureTo_88 rfl (ltL hL (by decide)) rfl ?_
    refine g_iinc (i := 3) (v := v3 + 1) (ls' := [(3, .int (v3 + 1)), (2, .int v4), (0, va_rf (some a0)), (4, .int v4), (5, .int v5)]) o dX5_measureTo_89 2 rfl (by first | rfl | (congr 1)) (ltL hL (by decide)) rfl ?_
    refine g_goto (tgt := 21) o dX5_measureTo_92 (by decide) ?_
    refine gsub [2, 1, 0] rfl ?_
    exact hk21 _ _ _ h
  · have h := (if_neg z).symm.trans h
    refine g_aload_n o dX5_measureTo_40 0 rfl ?_
    refine g_getR o fl_X5_15 (rc_self hk0) (by decide) rfl dX5_measureTo_41 ?_
    refine g_iload o dX5_measureTo_44 4 rfl ?_
    obtain ⟨a1, e2, h⟩ := ob h
    refine g_iald o e2 dX5_measureTo_46 ?_
    refine g_iconst (v := (-1 : Int32)) o dX5_measureTo_47 (by decide) ?_
    refine g_icmp_ne (tgt := 80) o dX5_measureTo_48 (by decide) (fun z => ?_) (fun z => ?_)
    · have h := (if_neg z).symm.trans h
      refine g_iinc (i := 5) (v := v5 + 1) (ls' := [(5, .int (v5 + 1)), (0, va_rf (some a0)), (2, .int v2), (3, .int v3), (4, .int v4)]) o dX5_measureTo_80 4 rfl (by first | rfl | (congr 1)) (ltL hL (by decide)) rfl ?_
      refine g_goto (tgt := 33) o dX5_measureTo_83 (by decide) ?_
      refine gsub [1, 2, 3, 4, 0] rfl ?_
      exact hk33 _ _ _ _ _ h
    · have h := (if_pos z).symm.trans h
      refine g_aload_n o dX5_measureTo_51 0 rfl ?_
      refine g_getR o fl_X5_9 (rc_self hk0) (by decide) rfl dX5_measureTo_52 ?_
      refine g_iload o dX5_measureTo_55 4 rfl ?_
      obtain ⟨a3, e4, h⟩ := ob h
      refine g_iald o e4 dX5_measureTo_57 ?_
      refine g_iload_n o dX5_measureTo_58 1 rfl ?_
      refine g_iand o dX5_measureTo_59 ?_
      refine g_if_eq (tgt := 80) o dX5_measureTo_60 (by decide) (fun z => ?_) (fun z => ?_)
      · have h := (if_pos z).symm.trans h
        refine g_iinc (i := 5) (v := v5 + 1) (ls' := [(5, .int (v5 + 1)), (0, va_rf (some a0)), (2, .int v2), (3, .int v3), (4, .int v4)]) o dX5_measureTo_80 4 rfl (by first | rfl | (congr 1)) (ltL hL (by decide)) rfl ?_
        refine g_goto (tgt := 33) o dX5_measureTo_83 (by decide) ?_
        refine gsub [1, 2, 3, 4, 0] rfl ?_
        exact hk33 _ _ _ _ _ h
      · have h := (if_neg z).symm.trans h
        refine g_aload_n o dX5_measureTo_63 0 rfl ?_
        refine g_getR o fl_X5_15 (rc_self hk0) (by decide) rfl dX5_measureTo_64 ?_
        refine g_iload o dX5_measureTo_67 4 rfl ?_
        refine g_iload_n o dX5_measureTo_69 2 rfl ?_
        refine g_iast o hz e2  dX5_measureTo_70 ?_
        obtain ⟨M5, e6, h⟩ := bn_at h
        refine g_mem e6 ?_
        refine g_iload o dX5_measureTo_71 3 rfl ?_
        refine g_iconst (v := (1 : Int32)) o dX5_measureTo_73 (by decide) ?_
        refine g_iload o dX5_measureTo_74 4 rfl ?_
        refine g_ishl o dX5_measureTo_76 ?_
        refine g_ior o dX5_measureTo_77 ?_
        obtain ⟨x7, e8, h⟩ := bn_at h
        refine g_topI e8 ?_
        refine g_istore (i := 4) (ls' := [(4, .int x7), (0, va_rf (some a0)), (2, .int v2), (3, .int v3), (5, .int v5)]) o dX5_measureTo_78 (ltL hL (by decide)) rfl ?_
        refine g_iinc (i := 5) (v := v5 + 1) (ls' := [(5, .int (v5 + 1)), (4, .int x7), (0, va_rf (some a0)), (2, .int v2), (3, .int v3)]) o dX5_measureTo_80 4 rfl (by first | rfl | (congr 1)) (ltL hL (by decide)) rfl ?_
        refine g_goto (tgt := 33) o dX5_measureTo_83 (by decide) ?_
        refine gsub [2, 3, 4, 1, 0] rfl ?_
        exact hk33 _ _ _ _ _ h
theorem w_X5_measureTo_33_n {X : Cx} {d n : Nat} {K L : Nat → Nat} {fu : Nat} {a0 : Nat} {r : Mm} {k21 : Int32 → Int32 → Mm → Option Mm} (o : cOk X cX5_measureTo RX5 (d + 1)) (hL : cL X = 6) (hr : (ch X).sig.returnType = none) (hz : (cs X).heap.size + 0 = cB X + n) (hk0 : K a0 = 5) (hE : cE X n K L r none 0 0) (hk21 : ∀ (v2 : Int32) (v3 : Int32) (M : Mm), k21 v2 v3 M = some r → gW X 0 0 n K L M 21 [(0, va_rf (some a0)), (2, .int v2), (3, .int v3)] []) (hd : 1 ≤ d + 1) : ∀ (g : Nat) (v2 : Int32) (v3 : Int32) (v4 : Int32) (v5 : Int32) (M : Mm), f_X5_measureTo_33 K L fu k21 a0 g v2 v3 v4 v5 M = some r → gW X 0 0 n K L M 33 [(0, va_rf (some a0)), (2, .int v2), (3, .int v3), (4, .int v4), (5, .int v5)] []
  | 0, _, _, _, _, _, h => by cases h
  | g + 1, v2, v3, v4, v5, M, h => w_X5_measureTo_33b o hL hr hz hk0 hE hk21 (w_X5_measureTo_33_n o hL hr hz hk0 hE hk21 hd g) hd h
theorem w_X5_measureTo_33 {X : Cx} {d n : Nat} {K L : Nat → Nat} {fu : Nat} {a0 : Nat} {r : Mm} {k21 : Int32 → Int32 → Mm → Option Mm} {v2 : Int32} {v3 : Int32} {v4 : Int32} {v5 : Int32} {M : Mm} (o : cOk X cX5_measureTo RX5 (d + 1)) (hL : cL X = 6) (hr : (ch X).sig.returnType = none) (hz : (cs X).heap.size + 0 = cB X + n) (hk0 : K a0 = 5) (hE : cE X n K L r none 0 0) (hk21 : ∀ (v2 : Int32) (v3 : Int32) (M : Mm), k21 v2 v3 M = some r → gW X 0 0 n K L M 21 [(0, va_rf (some a0)), (2, .int v2), (3, .int v3)] []) (hd : 1 ≤ d + 1) (h : f_X5_measureTo_33 K L fu k21 a0 fu v2 v3 v4 v5 M = some r) : gW X 0 0 n K L M 33 [(0, va_rf (some a0)), (2, .int v2), (3, .int v3), (4, .int v4), (5, .int v5)] [] := w_X5_measureTo_33_n o hL hr hz hk0 hE hk21 hd fu v2 v3 v4 v5 M h
def f_X5_measureTo_21b (K L : Nat → Nat) (fu : Nat) (k21 : Int32 → Int32 → Mm → Option Mm) (a0 : Nat) (v2 : Int32) (v3 : Int32) (M : Mm) : Option Mm :=
  if (16 : Int32) ≤ v3 then
    some M
  else
    f_X5_measureTo_33 K L fu k21 a0 fu v2 v3 (0 : Int32) (0 : Int32) M
def f_X5_measureTo_21 (K L : Nat → Nat) (fu : Nat) (a0 : Nat) : Nat → Int32 → Int32 → Mm → Option Mm
  | 0, _, _, _ => none
  | g + 1, v2, v3, M => f_X5_measureTo_21b K L fu (f_X5_measureTo_21 K L fu a0 g) a0 v2 v3 M
set_option maxHeartbeats 4000000 in
theorem w_X5_measureTo_21b {X : Cx} {d n : Nat} {K L : Nat → Nat} {fu : Nat} {a0 : Nat} {r : Mm} {k21 : Int32 → Int32 → Mm → Option Mm} {v2 : Int32} {v3 : Int32} {M : Mm} (o : cOk X cX5_measureTo RX5 (d + 1)) (hL : cL X = 6) (hr : (ch X).sig.returnType = none) (hz : (cs X).heap.size + 0 = cB X + n) (hk0 : K a0 = 5) (hE : cE X n K L r none 0 0) (hk21 : ∀ (v2 : Int32) (v3 : Int32) (M : Mm), k21 v2 v3 M = some r → gW X 0 0 n K L M 21 [(0, va_rf (some a0)), (2, .int v2), (3, .int v3)] []) (hd : 1 ≤ d + 1) (h : f_X5_measureTo_21b K L fu k21 a0 v2 v3 M = some r) : gW X 0 0 n K L M 21 [(0, va_rf (some a0)), (2, .int v2), (3, .int v3)] [] := by
  unfold f_X5_measureTo_21b at h
  refine g_iload_n o dX5_measureTo_21 2 rfl ?_
  refine g_bipush (v := (16 : Int32)) o dX5_measureTo_22 (by decide) ?_
  refine g_icmp_ge (tgt := 95) o dX5_measureTo_24 (by decide) (fun z => ?_) (fun z => ?_)
  · have h := (if_pos z).symm.trans h
    cases h
    exact g_vret o hr hE dX5_measureTo_95
  · have h := (if_neg z).symm.trans h
    refine g_iconst (v := (0 : Int32)) o dX5_measureTo_27 (by decide) ?_
    refine g_istore (i := 4) (ls' := [(4, .int (0 : Int32)), (0, va_rf (some a0)), (2, .int v2), (3, .int v3)]) o dX5_measureTo_28 (ltL hL (by decide)) rfl ?_
    refine g_iconst (v := (0 : Int32)) o dX5_measureTo_30 (by decide) ?_
    refine g_istore (i := 5) (ls' := [(5, .int (0 : Int32)), (4, .int (0 : Int32)), (0, va_rf (some a0)), (2, .int v2), (3, .int v3)]) o dX5_measureTo_31 (ltL hL (by decide)) rfl ?_
    refine gsub [2, 3, 4, 1, 0] rfl ?_
    exact w_X5_measureTo_33 o hL hr hz hk0 hE hk21 hd h
theorem w_X5_measureTo_21_n {X : Cx} {d n : Nat} {K L : Nat → Nat} {fu : Nat} {a0 : Nat} {r : Mm} (o : cOk X cX5_measureTo RX5 (d + 1)) (hL : cL X = 6) (hr : (ch X).sig.returnType = none) (hz : (cs X).heap.size + 0 = cB X + n) (hk0 : K a0 = 5) (hE : cE X n K L r none 0 0) (hd : 1 ≤ d + 1) : ∀ (g : Nat) (v2 : Int32) (v3 : Int32) (M : Mm), f_X5_measureTo_21 K L fu a0 g v2 v3 M = some r → gW X 0 0 n K L M 21 [(0, va_rf (some a0)), (2, .int v2), (3, .int v3)] []
  | 0, _, _, _, h => by cases h
  | g + 1, v2, v3, M, h => w_X5_measureTo_21b o hL hr hz hk0 hE (w_X5_measureTo_21_n o hL hr hz hk0 hE hd g) hd h
theorem w_X5_measureTo_21 {X : Cx} {d n : Nat} {K L : Nat → Nat} {fu : Nat} {a0 : Nat} {r : Mm} {v2 : Int32} {v3 : Int32} {M : Mm} (o : cOk X cX5_measureTo RX5 (d + 1)) (hL : cL X = 6) (hr : (ch X).sig.returnType = none) (hz : (cs X).heap.size + 0 = cB X + n) (hk0 : K a0 = 5) (hE : cE X n K L r none 0 0) (hd : 1 ≤ d + 1) (h : f_X5_measureTo_21 K L fu a0 fu v2 v3 M = some r) : gW X 0 0 n K L M 21 [(0, va_rf (some a0)), (2, .int v2), (3, .int v3)] [] := w_X5_measureTo_21_n o hL hr hz hk0 hE hd fu v2 v3 M h
def f_X5_measureTo (K L : Nat → Nat) (fu : Nat) (a0 : Nat) (v1 : Int32) (M : Mm) : Option Mm :=
  Option.bind (f_J7_fill_53178 K L fu (mm_R M (32 * 5 + 1) a0) (-1 : Int32) M) (fun x1 =>
  Option.bind (rx K L (mm_R x1 (32 * 5 + 1) a0) 13 v1) (fun a3 =>
  bn (ms_A x1 a3 (upd (mm_A x1 a3) v1.toNatClampNeg (0 : Int32))) (fun M5 =>
  bn ((1 : Int32) <<< (v1 &&& 31)) (fun x7 =>
  f_X5_measureTo_21 K L fu a0 fu x7 (1 : Int32) M5))))
set_option maxHeartbeats 4000000 in
theorem w_X5_measureTo_0 {X : Cx} {d n : Nat} {K L : Nat → Nat} {fu : Nat} {a0 : Nat} {r : Mm} {v1 : Int32} {M : Mm} (o : cOk X cX5_measureTo RX5 (d + 1)) (hL : cL X = 6) (hr : (ch X).sig.returnType = none) (hz : (cs X).heap.size + 0 = cB X + n) (hk0 : K a0 = 5) (hE : cE X n K L r none 0 0) (hd : 1 ≤ d + 1) (h : f_X5_measureTo K L fu a0 v1 M = some r) : gW X 0 0 n K L M 0 [(0, va_rf (some a0)), (1, .int v1)] [] := by
  unfold f_X5_measureTo at h
  refine g_aload_n o dX5_measureTo_0 0 rfl ?_
  refine g_getR o fl_X5_15 (rc_self hk0) (by decide) rfl dX5_measureTo_1 ?_
  refine g_iconst (v := (-1 : Int32)) o dX5_measureTo_4 (by decide) ?_
  obtain ⟨x1, e2, h⟩ := ob h
  refine g_invS0 o ml_X5_40 kb_J7_fill_53178 ks_J7_fill_53178 (c_J7_fill_53178 (cq X) (cD X) (cY X) (cB X) (d := d) (by omega) e2) rfl rfl (by simp [cat_i, cat_l, cat_rf]) dX5_measureTo_5 ?_
  refine g_aload_n o dX5_measureTo_8 0 rfl ?_
  refine g_getR o fl_X5_15 (rc_self hk0) (by decide) rfl dX5_measureTo_9 ?_
  refine g_iload_n o dX5_measureTo_12 1 rfl ?_
  refine g_iconst (v := (0 : Int32)) o dX5_measureTo_13 (by decide) ?_
  obtain ⟨a3, e4, h⟩ := ob h
  refine g_iast o hz e4  dX5_measureTo_14 ?_
  obtain ⟨M5, e6, h⟩ := bn_at h
  refine g_mem e6 ?_
  refine g_iconst (v := (1 : Int32)) o dX5_measureTo_15 (by decide) ?_
  refine g_iload_n o dX5_measureTo_16 1 rfl ?_
  refine g_ishl o dX5_measureTo_17 ?_
  obtain ⟨x7, e8, h⟩ := bn_at h
  refine g_topI e8 ?_
  refine g_istore_n (i := 2) (ls' := [(2, .int x7), (0, va_rf (some a0)), (1, .int v1)]) o dX5_measureTo_18 rfl (ltL hL (by decide)) rfl ?_
  refine g_iconst (v := (1 : Int32)) o dX5_measureTo_19 (by decide) ?_
  refine g_istore_n (i := 3) (ls' := [(3, .int (1 : Int32)), (2, .int x7), (0, va_rf (some a0)), (1, .int v1)]) o dX5_measureTo_20 rfl (ltL hL (by decide)) rfl ?_
  refine gsub [2, 1, 0] rfl ?_
  exact w_X5_measureTo_21 o hL hr hz hk0 hE hd h
theorem c_X5_measureTo (l : Launch) (D : va_G) (Y : Nat → ClassId) (B : Nat) {d : Nat} {n : Nat} {K L : Nat → Nat} {fu : Nat} {M : Mm} {a0 : Nat} {v1 : Int32} {r : Mm} (hd : 1 ≤ d) (hk0 : K a0 = 5) (h : f_X5_measureTo K L fu a0 v1 M = some r) : mC l D Y B d yX5_measureTo cX5_measureTo 6 (none) [va_rf (some a0), .int v1] n K L M n K L r none 0 0 := by
  obtain ⟨d, rfl⟩ : ∃ e, d = e + 1 := ⟨d - 1, by omega⟩
  refine mk_met (by decide) (by simp [lgs_r, lgs_i, lgs_l, lgs_n]) (fun X e1 e2 e3 e4 o hL hr hnm hz hc hs hE => ?_)
  subst e1 e2 e3 e4
  rw [show lv_args 0 [va_rf (some a0), .int v1] = [(0, va_rf (some a0)), (1, .int v1)] by simp [lva_r, lva_i, lva_l, lva_n]]
  exact w_X5_measureTo_0 o hL hr hz hk0 hE hd h
def f_X5_nearest_65 (K L : Nat → Nat) (fu : Nat) (k4 : Int32 → Int32 → Int32 → Option Int32) (M : Mm) (a0 : Nat) (v1 : Int32) (v3 : Int32) : Option Int32 :=
  k4 v1 v3 (v3 + 1)
set_option maxHeartbeats 4000000 in
theorem w_X5_nearest_65 {X : Cx} {d n : Nat} {K L : Nat → Nat} {fu : Nat} {M : Mm} {a0 : Nat} {r : Int32} {k4 : Int32 → Int32 → Int32 → Option Int32} {v1 : Int32} {v3 : Int32} (o : cOk X cX5_nearest RX5 (d + 1)) (hL : cL X = 5) (hr : (ch X).sig.returnType = some .int) (hk0 : K a0 = 5) (hE : cE X n K L M (some (.int r)) 0 0) (hk4 : ∀ (v1 : Int32) (v2 : Int32) (v3 : Int32), k4 v1 v2 v3 = some r → gW X 0 0 n K L M 4 [(0, va_rf (some a0)), (1, .int v1), (2, .int v2), (3, .int v3)] []) (hd : 1 ≤ d + 1) (h : f_X5_nearest_65 K L fu k4 M a0 v1 v3 = some r) : gW X 0 0 n K L M 65 [(0, va_rf (some a0)), (1, .int v1), (3, .int v3)] [] := by
  unfold f_X5_nearest_65 at h
  refine g_iload_n o dX5_nearest_65 2 rfl ?_
  refine g_istore_n (i := 2) (ls' := [(2, .int v3), (0, va_rf (some a0)), (1, .int v1), (3, .int v3)]) o dX5_nearest_66 rfl (ltL hL (by decide)) rfl ?_
  refine g_iinc (i := 3) (v := v3 + 1) (ls' := [(3, .int (v3 + 1)), (2, .int v3), (0, va_rf (some a0)), (1, .int v1)]) o dX5_nearest_67 3 rfl (by first | rfl | (congr 1)) (ltL hL (by decide)) rfl ?_
  refine g_goto (tgt := 4) o dX5_nearest_70 (by decide) ?_
  refine gsub [2, 3, 1, 0] rfl ?_
  exact hk4 _ _ _ h
def f_X5_nearest_38 (K L : Nat → Nat) (fu : Nat) (k4 : Int32 → Int32 → Int32 → Option Int32) (M : Mm) (a0 : Nat) (v1 : Int32) (v2 : Int32) (v3 : Int32) (s0 : Int32) : Option Int32 :=
  if s0 = 0 then
    k4 v1 v2 (v3 + 1)
  else
    if v2 = (-1 : Int32) then
      f_X5_nearest_65 K L fu k4 M a0 v1 v3
    else
      Option.bind (rx K L (mm_R M (32 * 5 + 1) a0) 13 v3) (fun a1 =>
      Option.bind (rx K L (mm_R M (32 * 5 + 1) a0) 13 v2) (fun a3 =>
      if (mm_A M a3 v2.toNatClampNeg) ≤ (mm_A M a1 v3.toNatClampNeg) then
        k4 v1 v2 (v3 + 1)
      else
        f_X5_nearest_65 K L fu k4 M a0 v1 v3))
set_option maxHeartbeats 4000000 in
theorem w_X5_nearest_38 {X : Cx} {d n : Nat} {K L : Nat → Nat} {fu : Nat} {M : Mm} {a0 : Nat} {r : Int32} {k4 : Int32 → Int32 → Int32 → Option Int32} {v1 : Int32} {v2 : Int32} {v3 : Int32} {s0 : Int32} (o : cOk X cX5_nearest RX5 (d + 1)) (hL : cL X = 5) (hr : (ch X).sig.returnType = some .int) (hk0 : K a0 = 5) (hE : cE X n K L M (some (.int r)) 0 0) (hk4 : ∀ (v1 : Int32) (v2 : Int32) (v3 : Int32), k4 v1 v2 v3 = some r → gW X 0 0 n K L M 4 [(0, va_rf (some a0)), (1, .int v1), (2, .int v2), (3, .int v3)] []) (hd : 1 ≤ d + 1) (h : f_X5_nearest_38 K L fu k4 M a0 v1 v2 v3 s0 = some r) : gW X 0 0 n K L M 38 [(0, va_rf (some a0)), (1, .int v1), (2, .int v2), (3, .int v3)] [.int s0] := by
  unfold f_X5_nearest_38 at h
  refine g_istore (i := 4) (ls' := [(4, .int s0), (0, va_rf (some a0)), (1, .int v1), (2, .int v2), (3, .int v3)]) o dX5_nearest_38 (ltL hL (by decide)) rfl ?_
  refine g_iload o dX5_nearest_40 0 rfl ?_
  refine g_if_eq (tgt := 67) o dX5_nearest_42 (by decide) (fun z => ?_) (fun z => ?_)
  · have h := (if_pos z).symm.trans h
    refine g_iinc (i := 3) (v := v3 + 1) (ls' := [(3, .int (v3 + 1)), (4, .int s0), (0, va_rf (some a0)), (1, .int v1), (2, .int v2)]) o dX5_nearest_67 4 rfl (by first | rfl | (congr 1)) (ltL hL (by decide)) rfl ?_
    refine g_goto (tgt := 4) o dX5_nearest_70 (by decide) ?_
    refine gsub [2, 3, 4, 0] rfl ?_
    exact hk4 _ _ _ h
  · have h := (if_neg z).symm.trans h
    refine g_iload_n o dX5_nearest_45 3 rfl ?_
    refine g_iconst (v := (-1 : Int32)) o dX5_nearest_46 (by decide) ?_
    refine g_icmp_eq (tgt := 65) o dX5_nearest_47 (by decide) (fun z => ?_) (fun z => ?_)
    · have h := (if_pos z).symm.trans h
      refine gsub [1, 2, 4] rfl ?_
      exact w_X5_nearest_65 o hL hr hk0 hE hk4 hd h
    · have h := (if_neg z).symm.trans h
      refine g_aload_n o dX5_nearest_50 1 rfl ?_
      refine g_getR o fl_X5_15 (rc_self hk0) (by decide) rfl dX5_nearest_51 ?_
      refine g_iload_n o dX5_nearest_54 4 rfl ?_
      obtain ⟨a1, e2, h⟩ := ob h
      refine g_iald o e2 dX5_nearest_55 ?_
      refine g_aload_n o dX5_nearest_56 1 rfl ?_
      refine g_getR o fl_X5_15 (rc_self hk0) (by decide) rfl dX5_nearest_57 ?_
      refine g_iload_n o dX5_nearest_60 3 rfl ?_
      obtain ⟨a3, e4, h⟩ := ob h
      refine g_iald o e4 dX5_nearest_61 ?_
      refine g_icmp_ge (tgt := 67) o dX5_nearest_62 (by decide) (fun z => ?_) (fun z => ?_)
      · have h := (if_pos z).symm.trans h
        refine g_iinc (i := 3) (v := v3 + 1) (ls' := [(3, .int (v3 + 1)), (4, .int s0), (0, va_rf (some a0)), (1, .int v1), (2, .int v2)]) o dX5_nearest_67 4 rfl (by first | rfl | (congr 1)) (ltL hL (by decide)) rfl ?_
        refine g_goto (tgt := 4) o dX5_nearest_70 (by decide) ?_
        refine gsub [2, 3, 4, 0] rfl ?_
        exact hk4 _ _ _ h
      · have h := (if_neg z).symm.trans h
        refine gsub [1, 2, 4] rfl ?_
        exact w_X5_nearest_65 o hL hr hk0 hE hk4 hd h
def f_X5_nearest_37 (K L : Nat → Nat) (fu : Nat) (k4 : Int32 → Int32 → Int32 → Option Int32) (M : Mm) (a0 : Nat) (v1 : Int32) (v2 : Int32) (v3 : Int32) : Option Int32 :=
  f_X5_nearest_38 K L fu k4 M a0 v1 v2 v3 (0 : Int32)
set_option maxHeartbeats 4000000 in
theorem w_X5_nearest_37 {X : Cx} {d n : Nat} {K L : Nat → Nat} {fu : Nat} {M : Mm} {a0 : Nat} {r : Int32} {k4 : Int32 → Int32 → Int32 → Option Int32} {v1 : Int32} {v2 : Int32} {v3 : Int32} (o : cOk X cX5_nearest RX5 (d + 1)) (hL : cL X = 5) (hr : (ch X).sig.returnType = some .int) (hk0 : K a0 = 5) (hE : cE X n K L M (some (.int r)) 0 0) (hk4 : ∀ (v1 : Int32) (v2 : Int32) (v3 : Int32), k4 v1 v2 v3 = some r → gW X 0 0 n K L M 4 [(0, va_rf (some a0)), (1, .int v1), (2, .int v2), (3, .int v3)] []) (hd : 1 ≤ d + 1) (h : f_X5_nearest_37 K L fu k4 M a0 v1 v2 v3 = some r) : gW X 0 0 n K L M 37 [(0, va_rf (some a0)), (1, .int v1), (2, .int v2), (3, .int v3)] [] := by
  unfold f_X5_nearest_37 at h
  refine g_iconst (v := (0 : Int32)) o dX5_nearest_37 (by decide) ?_
  exact w_X5_nearest_38 o hL hr hk0 hE hk4 hd h
def f_X5_nearest_4b (K L : Nat → Nat) (fu : Nat) (k4 : Int32 → Int32 → Int32 → Option Int32) (M : Mm) (a0 : Nat) (v1 : Int32) (v2 : Int32) (v3 : Int32) : Option Int32 :=
  if (16 : Int32) ≤ v3 then
    some v2
  else
    Option.bind (rx K L (mm_R M (32 * 5 + 0) a0) 13 v1) (fun a1 =>
    Option.bind (f_X11_hasBit (mm_A M a1 v1.toNatClampNeg) v3) (fun x3 =>
    if x3 = 0 then
      f_X5_nearest_37 K L fu k4 M a0 v1 v2 v3
    else
      Option.bind (rx K L (mm_R M (32 * 5 + 1) a0) 13 v3) (fun a5 =>
      if (mm_A M a5 v3.toNatClampNeg) = (-1 : Int32) then
        f_X5_nearest_37 K L fu k4 M a0 v1 v2 v3
      else
        f_X5_nearest_38 K L fu k4 M a0 v1 v2 v3 (1 : Int32))))
def f_X5_nearest_4 (K L : Nat → Nat) (fu : Nat) (M : Mm) (a0 : Nat) : Nat → Int32 → Int32 → Int32 → Option Int32
  | 0, _, _, _ => none
  | g + 1, v1, v2, v3 => f_X5_nearest_4b K L fu (f_X5_nearest_4 K L fu M a0 g) M a0 v1 v2 v3
set_option maxHeartbeats 4000000 in
theorem w_X5_nearest_4b {X : Cx} {d n : Nat} {K L : Nat → Nat} {fu : Nat} {M : Mm} {a0 : Nat} {r : Int32} {k4 : Int32 → Int32 → Int32 → Option Int32} {v1 : Int32} {v2 : Int32} {v3 : Int32} (o : cOk X cX5_nearest RX5 (d + 1)) (hL : cL X = 5) (hr : (ch X).sig.returnType = some .int) (hk0 : K a0 = 5) (hE : cE X n K L M (some (.int r)) 0 0) (hk4 : ∀ (v1 : Int32) (v2 : Int32) (v3 : Int32), k4 v1 v2 v3 = some r → gW X 0 0 n K L M 4 [(0, va_rf (some a0)), (1, .int v1), (2, .int v2), (3, .int v3)] []) (hd : 1 ≤ d + 1) (h : f_X5_nearest_4b K L fu k4 M a0 v1 v2 v3 = some r) : gW X 0 0 n K L M 4 [(0, va_rf (some a0)), (1, .int v1), (2, .int v2), (3, .int v3)] [] := by
  unfold f_X5_nearest_4b at h
  refine g_iload_n o dX5_nearest_4 3 rfl ?_
  refine g_bipush (v := (16 : Int32)) o dX5_nearest_5 (by decide) ?_
  refine g_icmp_ge (tgt := 73) o dX5_nearest_7 (by decide) (fun z => ?_) (fun z => ?_)
  · have h := (if_pos z).symm.trans h
    refine g_iload_n o dX5_nearest_73 2 rfl ?_
    cases h
    exact g_iret o hr hE dX5_nearest_74
  · have h := (if_neg z).symm.trans h
    refine g_aload_n o dX5_nearest_10 0 rfl ?_
    refine g_getR o fl_X5_9 (rc_self hk0) (by decide) rfl dX5_nearest_11 ?_
    refine g_iload_n o dX5_nearest_14 1 rfl ?_
    obtain ⟨a1, e2, h⟩ := ob h
    refine g_iald o e2 dX5_nearest_15 ?_
    refine g_iload_n o dX5_nearest_16 3 rfl ?_
    obtain ⟨x3, e4, h⟩ := ob h
    refine g_invSN0 o mn_X5_69 kb_X11_hasBit ks_X11_hasBit (c_X11_hasBit (cq X) (cD X) (cY X) (cB X) (d := d) (by omega) e4) rfl rfl (by simp [cat_i, cat_l, cat_rf]) dX5_nearest_17 ?_
    refine g_if_eq (tgt := 37) o dX5_nearest_20 (by decide) (fun z => ?_) (fun z => ?_)
    · have h := (if_pos z).symm.trans h
      exact w_X5_nearest_37 o hL hr hk0 hE hk4 hd h
    · have h := (if_neg z).symm.trans h
      refine g_aload_n o dX5_nearest_23 0 rfl ?_
      refine g_getR o fl_X5_15 (rc_self hk0) (by decide) rfl dX5_nearest_24 ?_
      refine g_iload_n o dX5_nearest_27 3 rfl ?_
      obtain ⟨a5, e6, h⟩ := ob h
      refine g_iald o e6 dX5_nearest_28 ?_
      refine g_iconst (v := (-1 : Int32)) o dX5_nearest_29 (by decide) ?_
      refine g_icmp_eq (tgt := 37) o dX5_nearest_30 (by decide) (fun z => ?_) (fun z => ?_)
      · have h := (if_pos z).symm.trans h
        exact w_X5_nearest_37 o hL hr hk0 hE hk4 hd h
      · have h := (if_neg z).symm.trans h
        refine g_iconst (v := (1 : Int32)) o dX5_nearest_33 (by decide) ?_
        refine g_goto (tgt := 38) o dX5_nearest_34 (by decide) ?_
        exact w_X5_nearest_38 o hL hr hk0 hE hk4 hd h
theorem w_X5_nearest_4_n {X : Cx} {d n : Nat} {K L : Nat → Nat} {fu : Nat} {M : Mm} {a0 : Nat} {r : Int32} (o : cOk X cX5_nearest RX5 (d + 1)) (hL : cL X = 5) (hr : (ch X).sig.returnType = some .int) (hk0 : K a0 = 5) (hE : cE X n K L M (some (.int r)) 0 0) (hd : 1 ≤ d + 1) : ∀ (g : Nat) (v1 : Int32) (v2 : Int32) (v3 : Int32), f_X5_nearest_4 K L fu M a0 g v1 v2 v3 = some r → gW X 0 0 n K L M 4 [(0, va_rf (some a0)), (1, .int v1), (2, .int v2), (3, .int v3)] []
  | 0, _, _, _, h => by cases h
  | g + 1, v1, v2, v3, h => w_X5_nearest_4b o hL hr hk0 hE (w_X5_nearest_4_n o hL hr hk0 hE hd g) hd h
theorem w_X5_nearest_4 {X : Cx} {d n : Nat} {K L : Nat → Nat} {fu : Nat} {M : Mm} {a0 : Nat} {r : Int32} {v1 : Int32} {v2 : Int32} {v3 : Int32} (o : cOk X cX5_nearest RX5 (d + 1)) (hL : cL X = 5) (hr : (ch X).sig.returnType = some .int) (hk0 : K a0 = 5) (hE : cE X n K L M (some (.int r)) 0 0) (hd : 1 ≤ d + 1) (h : f_X5_nearest_4 K L fu M a0 fu v1 v2 v3 = some r) : gW X 0 0 n K L M 4 [(0, va_rf (some a0)), (1, .int v1), (2, .int v2), (3, .int v3)] [] := w_X5_nearest_4_n o hL hr hk0 hE hd fu v1 v2 v3 h
def f_X5_nearest (K L : Nat → Nat) (fu : Nat) (M : Mm) (a0 : Nat) (v1 : Int32) : Option Int32 :=
  f_X5_nearest_4 K L fu M a0 fu v1 (-1 : Int32) (0 : Int32)
set_option maxHeartbeats 4000000 in
theorem w_X5_nearest_0 {X : Cx} {d n : Nat} {K L : Nat → Nat} {fu : Nat} {M : Mm} {a0 : Nat} {r : Int32} {v1 : Int32} (o : cOk X cX5_nearest RX5 (d + 1)) (hL : cL X = 5) (hr : (ch X).sig.returnType = some .int) (hk0 : K a0 = 5) (hE : cE X n K L M (some (.int r)) 0 0) (hd : 1 ≤ d + 1) (h : f_X5_nearest K L fu M a0 v1 = some r) : gW X 0 0 n K L M 0 [(0, va_rf (some a0)), (1, .int v1)] [] := by
  unfold f_X5_nearest at h
  refine g_iconst (v := (-1 : Int32)) o dX5_nearest_0 (by decide) ?_
  refine g_istore_n (i := 2) (ls' := [(2, .int (-1 : Int32)), (0, va_rf (some a0)), (1, .int v1)]) o dX5_nearest_1 rfl (ltL hL (by decide)) rfl ?_
  refine g_iconst (v := (0 : Int32)) o dX5_nearest_2 (by decide) ?_
  refine g_istore_n (i := 3) (ls' := [(3, .int (0 : Int32)), (2, .int (-1 : Int32)), (0, va_rf (some a0)), (1, .int v1)]) o dX5_nearest_3 rfl (ltL hL (by decide)) rfl ?_
  refine gsub [2, 3, 1, 0] rfl ?_
  exact w_X5_nearest_4 o hL hr hk0 hE hd h
theorem c_X5_nearest (l : Launch) (D : va_G) (Y : Nat → ClassId) (B : Nat) {d : Nat} {n : Nat} {K L : Nat → Nat} {fu : Nat} {M : Mm} {a0 : Nat} {v1 : Int32} {r : Int32} (hd : 1 ≤ d) (hk0 : K a0 = 5) (h : f_X5_nearest K L fu M a0 v1 = some r) : mC l D Y B d yX5_nearest cX5_nearest 5 (some .int) [va_rf (some a0), .int v1] n K L M n K L M (some (.int r)) 0 0 := by
  obtain ⟨d, rfl⟩ : ∃ e, d = e + 1 := ⟨d - 1, by omega⟩
  refine mk_met (by decide) (by simp [lgs_r, lgs_i, lgs_l, lgs_n]) (fun X e1 e2 e3 e4 o hL hr hnm hz hc hs hE => ?_)
  subst e1 e2 e3 e4
  rw [show lv_args 0 [va_rf (some a0), .int v1] = [(0, va_rf (some a0)), (1, .int v1)] by simp [lva_r, lva_i, lva_l, lva_n]]
  exact w_X5_nearest_0 o hL hr hk0 hE hd h
def f_X5_keepFrom_9b (K L : Nat → Nat) (fu : Nat) (k9 : Int32 → Int32 → Int32 → Mm → Option Mm) (a0 : Nat) (v1 : Int32) (v2 : Int32) (v3 : Int32) (M : Mm) : Option Mm :=
  if (16 : Int32) ≤ v3 then
    some M
  else
    Option.bind (rx K L (mm_R M (32 * 5 + 2) a0) 13 (mm_I M (32 * 5 + 3) a0)) (fun a1 =>
    bn (ms_A M a1 (upd (mm_A M a1) (mm_I M (32 * 5 + 3) a0).toNatClampNeg v2)) (fun M3 =>
    bn (ms_I M3 (32 * 5 + 3) a0 ((mm_I M3 (32 * 5 + 3) a0) + (1 : Int32))) (fun M5 =>
    Option.bind (f_X5_nearest K L fu M5 a0 v2) (fun x7 =>
    if x7 = v1 then
      some M5
    else
      if x7 = (-1 : Int32) then
        some M5
      else
        k9 v1 x7 (v3 + 1) M5))))
def f_X5_keepFrom_9 (K L : Nat → Nat) (fu : Nat) (a0 : Nat) : Nat → Int32 → Int32 → Int32 → Mm → Option Mm
  | 0, _, _, _, _ => none
  | g + 1, v1, v2, v3, M => f_X5_keepFrom_9b K L fu (f_X5_keepFrom_9 K L fu a0 g) a0 v1 v2 v3 M
set_option maxHeartbeats 4000000 in
theorem w_X5_keepFrom_9b {X : Cx} {d n : Nat} {K L : Nat → Nat} {fu : Nat} {a0 : Nat} {r : Mm} {k9 : Int32 → Int32 → Int32 → Mm → Option Mm} {v1 : Int32} {v2 : Int32} {v3 : Int32} {M : Mm} (o : cOk X cX5_keepFrom RX5 (d + 1)) (hL : cL X = 4) (hr : (ch X).sig.returnType = none) (hz : (cs X).heap.size + 0 = cB X + n) (hk0 : K a0 = 5) (hE : cE X n K L r none 0 0) (hk9 : ∀ (v1 : Int32) (v2 : Int32) (v3 : Int32) (M : Mm), k9 v1 v2 v3 M = some r → gW X 0 0 n K L M 9 [(0, va_rf (some a0)), (1, .int v1), (2, .int v2), (3, .int v3)] []) (hd : 2 ≤ d + 1) (h : f_X5_keepFrom_9b K L fu k9 a0 v1 v2 v3 M = some r) : gW X 0 0 n K L M 9 [(0, va_rf (some a0)), (1, .int v1), (2, .int v2), (3, .int v3)] [] := by
  unfold f_X5_keepFrom_9b at h
  refine g_iload_n o dX5_keepFrom_9 3 rfl ?_
  refine g_bipush (v := (16 : Int32)) o dX5_keepFrom_10 (by decide) ?_
  refine g_icmp_ge (tgt := 58) o dX5_keepFrom_12 (by decide) (fun z => ?_) (fun z => ?_)
  · have h := (if_pos z).symm.trans h
    cases h
    exact g_vret o hr hE dX5_keepFrom_58
  · have h := (if_neg z).symm.trans h
    refine g_aload_n o dX5_keepFrom_15 0 rfl ?_
    refine g_getR o fl_X5_18 (rc_self hk0) (by decide) rfl dX5_keepFrom_16 ?_
    refine g_aload_n o dX5_keepFrom_19 0 rfl ?_
    refine g_getI o fl_X5_21 (rc_self hk0) (by decide) rfl dX5_keepFrom_20 ?_
    refine g_iload_n o dX5_keepFrom_23 2 rfl ?_
    obtain ⟨a1, e2, h⟩ := ob h
    refine g_iast o hz e2  dX5_keepFrom_24 ?_
    obtain ⟨M3, e4, h⟩ := bn_at h
    refine g_mem e4 ?_
    refine g_aload_n o dX5_keepFrom_25 0 rfl ?_
    refine g_dup o dX5_keepFrom_26 (cat_rf _) ?_
    refine g_getI o fl_X5_21 (rc_self hk0) (by decide) rfl dX5_keepFrom_27 ?_
    refine g_iconst (v := (1 : Int32)) o dX5_keepFrom_30 (by decide) ?_
    refine g_iadd o dX5_keepFrom_31 ?_
    refine g_putI o hz fl_X5_21 (rc_self hk0) (by decide) rfl rfl rfl  dX5_keepFrom_32 ?_
    obtain ⟨M5, e6, h⟩ := bn_at h
    refine g_mem e6 ?_
    refine g_aload_n o dX5_keepFrom_35 0 rfl ?_
    refine g_iload_n o dX5_keepFrom_36 2 rfl ?_
    obtain ⟨x7, e8, h⟩ := ob h
    refine g_invV0 o (rc_self hk0) (by decide) ml_X5_33 kb_X5_nearest kv_X5_nearest rfl (c_X5_nearest (cq X) (cD X) (cY X) (cB X) (d := d) (by omega) (rc_at (rc_self hk0)).2 e8) rfl rfl (by simp [cat_i, cat_l, cat_rf]) dX5_keepFrom_37 ?_
    refine g_istore_n (i := 2) (ls' := [(2, .int x7), (0, va_rf (some a0)), (1, .int v1), (3, .int v3)]) o dX5_keepFrom_40 rfl (ltL hL (by decide)) rfl ?_
    refine g_iload_n o dX5_keepFrom_41 0 rfl ?_
    refine g_iload_n o dX5_keepFrom_42 2 rfl ?_
    refine g_icmp_eq (tgt := 51) o dX5_keepFrom_43 (by decide) (fun z => ?_) (fun z => ?_)
    · have h := (if_pos z).symm.trans h
      cases h
      exact g_vret o hr hE dX5_keepFrom_51
    · have h := (if_neg z).symm.trans h
      refine g_iload_n o dX5_keepFrom_46 0 rfl ?_
      refine g_iconst (v := (-1 : Int32)) o dX5_keepFrom_47 (by decide) ?_
      refine g_icmp_ne (tgt := 52) o dX5_keepFrom_48 (by decide) (fun z => ?_) (fun z => ?_)
      · have h := (if_neg z).symm.trans h
        refine g_iinc (i := 3) (v := v3 + 1) (ls' := [(3, .int (v3 + 1)), (2, .int x7), (0, va_rf (some a0)), (1, .int v1)]) o dX5_keepFrom_52 3 rfl (by first | rfl | (congr 1)) (ltL hL (by decide)) rfl ?_
        refine g_goto (tgt := 9) o dX5_keepFrom_55 (by decide) ?_
        refine gsub [2, 3, 1, 0] rfl ?_
        exact hk9 _ _ _ _ h
      · have h := (if_pos z).symm.trans h
        cases h
        exact g_vret o hr hE dX5_keepFrom_51
theorem w_X5_keepFrom_9_n {X : Cx} {d n : Nat} {K L : Nat → Nat} {fu : Nat} {a0 : Nat} {r : Mm} (o : cOk X cX5_keepFrom RX5 (d + 1)) (hL : cL X = 4) (hr : (ch X).sig.returnType = none) (hz : (cs X).heap.size + 0 = cB X + n) (hk0 : K a0 = 5) (hE : cE X n K L r none 0 0) (hd : 2 ≤ d + 1) : ∀ (g : Nat) (v1 : Int32) (v2 : Int32) (v3 : Int32) (M : Mm), f_X5_keepFrom_9 K L fu a0 g v1 v2 v3 M = some r → gW X 0 0 n K L M 9 [(0, va_rf (some a0)), (1, .int v1), (2, .int v2), (3, .int v3)] []
  | 0, _, _, _, _, h => by cases h
  | g + 1, v1, v2, v3, M, h => w_X5_keepFrom_9b o hL hr hz hk0 hE (w_X5_keepFrom_9_n o hL hr hz hk0 hE hd g) hd h
theorem w_X5_keepFrom_9 {X : Cx} {d n : Nat} {K L : Nat → Nat} {fu : Nat} {a0 : Nat} {r : Mm} {v1 : Int32} {v2 : Int32} {v3 : Int32} {M : Mm} (o : cOk X cX5_keepFrom RX5 (d + 1)) (hL : cL X = 4) (hr : (ch X).sig.returnType = none) (hz : (cs X).heap.size + 0 = cB X + n) (hk0 : K a0 = 5) (hE : cE X n K L r none 0 0) (hd : 2 ≤ d + 1) (h : f_X5_keepFrom_9 K L fu a0 fu v1 v2 v3 M = some r) : gW X 0 0 n K L M 9 [(0, va_rf (some a0)), (1, .int v1), (2, .int v2), (3, .int v3)] [] := w_X5_keepFrom_9_n o hL hr hz hk0 hE hd fu v1 v2 v3 M h
def f_X5_keepFrom (K L : Nat → Nat) (fu : Nat) (a0 : Nat) (v1 : Int32) (M : Mm) : Option Mm :=
  bn (ms_I M (32 * 5 + 3) a0 (0 : Int32)) (fun M1 =>
  f_X5_keepFrom_9 K L fu a0 fu v1 v1 (0 : Int32) M1)
set_option maxHeartbeats 4000000 in
theorem w_X5_keepFrom_0 {X : Cx} {d n : Nat} {K L : Nat → Nat} {fu : Nat} {a0 : Nat} {r : Mm} {v1 : Int32} {M : Mm} (o : cOk X cX5_keepFrom RX5 (d + 1)) (hL : cL X = 4) (hr : (ch X).sig.returnType = none) (hz : (cs X).heap.size + 0 = cB X + n) (hk0 : K a0 = 5) (hE : cE X n K L r none 0 0) (hd : 2 ≤ d + 1) (h : f_X5_keepFrom K L fu a0 v1 M = some r) : gW X 0 0 n K L M 0 [(0, va_rf (some a0)), (1, .int v1)] [] := by
  unfold f_X5_keepFrom at h
  refine g_aload_n o dX5_keepFrom_0 0 rfl ?_
  refine g_iconst (v := (0 : Int32)) o dX5_keepFrom_1 (by decide) ?_
  refine g_putI o hz fl_X5_21 (rc_self hk0) (by decide) rfl rfl rfl  dX5_keepFrom_2 ?_
  obtain ⟨M1, e2, h⟩ := bn_at h
  refine g_mem e2 ?_
  refine g_iload_n o dX5_keepFrom_5 1 rfl ?_
  refine g_istore_n (i := 2) (ls' := [(2, .int v1), (0, va_rf (some a0)), (1, .int v1)]) o dX5_keepFrom_6 rfl (ltL hL (by decide)) rfl ?_
  refine g_iconst (v := (0 : Int32)) o dX5_keepFrom_7 (by decide) ?_
  refine g_istore_n (i := 3) (ls' := [(3, .int (0 : Int32)), (2, .int v1), (0, va_rf (some a0)), (1, .int v1)]) o dX5_keepFrom_8 rfl (ltL hL (by decide)) rfl ?_
  refine gsub [2, 3, 1, 0] rfl ?_
  exact w_X5_keepFrom_9 o hL hr hz hk0 hE hd h
theorem c_X5_keepFrom (l : Launch) (D : va_G) (Y : Nat → ClassId) (B : Nat) {d : Nat} {n : Nat} {K L : Nat → Nat} {fu : Nat} {M : Mm} {a0 : Nat} {v1 : Int32} {r : Mm} (hd : 2 ≤ d) (hk0 : K a0 = 5) (h : f_X5_keepFrom K L fu a0 v1 M = some r) : mC l D Y B d yX5_keepFrom cX5_keepFrom 4 (none) [va_rf (some a0), .int v1] n K L M n K L r none 0 0 := by
  obtain ⟨d, rfl⟩ : ∃ e, d = e + 1 := ⟨d - 1, by omega⟩
  refine mk_met (by decide) (by simp [lgs_r, lgs_i, lgs_l, lgs_n]) (fun X e1 e2 e3 e4 o hL hr hnm hz hc hs hE => ?_)
  subst e1 e2 e3 e4
  rw [show lv_args 0 [va_rf (some a0), .int v1] = [(0, va_rf (some a0)), (1, .int v1)] by simp [lva_r, lva_i, lva_l, lva_n]]
  exact w_X5_keepFrom_0 o hL hr hz hk0 hE hd h
