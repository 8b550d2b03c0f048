/-! methods: J7_fill_53178 X0_init X0_set X0_begin X0_takeFrom X0_windowStart X2_isTold X2_areTold X2_callsAt X2_callsIn X2_faultsAt X2_faultsIn X0_faultOf X0_faultsLeft X0_noteSpent X1_become X1_markOf X11_within X8_placeAt X8_switchAt X1_begin X1_ask X11_hasBit X9_isStopOf X1_hangHolds X1_stopOf X6_firstFor X1_whyAt X9_seatOf X7_wayOfSeat X6_wayOfRule X1_wayBy X1_wayAt X2_begin X2_takeFrom X2_tell -/
def f_J7_fill_53178_5b (K L : Nat → Nat) (fu : Nat) (k5 : (Option Nat) → Int32 → Int32 → Int32 → Mm → Option Mm) (v0 : (Option Nat)) (v1 : Int32) (v2 : Int32) (v3 : Int32) (M : Mm) : Option Mm :=
  if v3 ≤ v2 then
    some M
  else
    Option.bind (rx K L v0 13 v2) (fun a1 =>
    bn (ms_A M a1 (upd (mm_A M a1) v2.toNatClampNeg v1)) (fun M3 =>
    k5 v0 v1 (v2 + 1) v3 M3))
def f_J7_fill_53178_5 (K L : Nat → Nat) (fu : Nat) : Nat → (Option Nat) → Int32 → Int32 → Int32 → Mm → Option Mm
  | 0, _, _, _, _, _ => none
  | g + 1, v0, v1, v2, v3, M => f_J7_fill_53178_5b K L fu (f_J7_fill_53178_5 K L fu g) v0 v1 v2 v3 M
set_option maxHeartbeats 4000000 in
theorem w_J7_fill_53178_5b {X : Cx} {d n : Nat} {K L : Nat → Nat} {fu : Nat} {r : Mm} {k5 : (Option Nat) → Int32 → Int32 → Int32 → Mm → Option Mm} {v0 : (Option Nat)} {v1 : Int32} {v2 : Int32} {v3 : Int32} {M : Mm} (o : cOk X cJ7_fill_53178 RJ7 d) (hL : cL X = 4) (hr : (ch X).sig.returnType = none) (hz : (cs X).heap.size + 0 = cB X + n) (hE : cE X n K L r none 0 0) (hk5 : ∀ (v0 : (Option Nat)) (v1 : Int32) (v2 : Int32) (v3 : Int32) (M : Mm), k5 v0 v1 v2 v3 M = some r → gW X 0 0 n K L M 5 [(0, va_rf v0), (1, .int v1), (2, .int v2), (3, .int v3)] []) (h : f_J7_fill_53178_5b K L fu k5 v0 v1 v2 v3 M = some r) : gW X 0 0 n K L M 5 [(0, va_rf v0), (1, .int v1), (2, .int v2), (3, .int v3)] [] := by
  unfold f_J7_fill_53178_5b at h
  refine g_iload_n o dJ7_fill_53178_5 2 rfl ?_
  refine g_iload_n o dJ7_fill_53178_6 3 rfl ?_
  refine g_icmp_ge (tgt := 20) o dJ7_fill_53178_7 (by decide) (fun z => ?_) (fun z => ?_)
  · have h := (if_pos z).symm.trans h
    cases h
    exact g_vret o hr hE dJ7_fill_53178_20
  · have h := (if_neg z).symm.trans h
    refine g_aload_n o dJ7_fill_53178_10 0 rfl ?_
    refine g_iload_n o dJ7_fill_53178_11 2 rfl ?_
    refine g_iload_n o dJ7_fill_53178_12 1 rfl ?_
    obtain ⟨a1, e2, h⟩ := ob h
    refine g_iast o hz e2  dJ7_fill_53178_13 ?_
    obtain ⟨M3, e4, h⟩ := bn_at h
    refine g_mem e4 ?_
    refine g_iinc (i := 2) (v := v2 + 1) (ls' := [(2, .int (v2 + 1)), (0, va_rf v0), (1, .int v1), (3, .int v3)]) o dJ7_fill_53178_14 2 rfl (by first | rfl | (congr 1)) (ltL hL (by decide)) rfl ?_
    refine g_goto (tgt := 5) o dJ7_fill_53178_17 (by decide) ?_
    refine gsub [1, 2, 0, 3] rfl ?_
    exact hk5 _ _ _ _ _ h
theorem w_J7_fill_53178_5_n {X : Cx} {d n : Nat} {K L : Nat → Nat} {fu : Nat} {r : Mm} (o : cOk X cJ7_fill_53178 RJ7 d) (hL : cL X = 4) (hr : (ch X).sig.returnType = none) (hz : (cs X).heap.size + 0 = cB X + n) (hE : cE X n K L r none 0 0) : ∀ (g : Nat) (v0 : (Option Nat)) (v1 : Int32) (v2 : Int32) (v3 : Int32) (M : Mm), f_J7_fill_53178_5 K L fu g v0 v1 v2 v3 M = some r → gW X 0 0 n K L M 5 [(0, va_rf v0), (1, .int v1), (2, .int v2), (3, .int v3)] []
  | 0, _, _, _, _, _, h => by cases h
  | g + 1, v0, v1, v2, v3, M, h => w_J7_fill_53178_5b o hL hr hz hE (w_J7_fill_53178_5_n o hL hr hz hE g) h
theorem w_J7_fill_53178_5 {X : Cx} {d n : Nat} {K L : Nat → Nat} {fu : Nat} {r : Mm} {v0 : (Option Nat)} {v1 : Int32} {v2 : Int32} {v3 : Int32} {M : Mm} (o : cOk X cJ7_fill_53178 RJ7 d) (hL : cL X = 4) (hr : (ch X).sig.returnType = none) (hz : (cs X).heap.size + 0 = cB X + n) (hE : cE X n K L r none 0 0) (h : f_J7_fill_53178_5 K L fu fu v0 v1 v2 v3 M = some r) : gW X 0 0 n K L M 5 [(0, va_rf v0), (1, .int v1), (2, .int v2), (3, .int v3)] [] := w_J7_fill_53178_5_n o hL hr hz hE fu v0 v1 v2 v3 M h
def f_J7_fill_53178 (K L : Nat → Nat) (fu : Nat) (v0 : (Option Nat)) (v1 : Int32) (M : Mm) : Option Mm :=
  Option.bind (rc K v0 13) (fun a1 =>
  bn (Int32.ofNat (L a1)) (fun x3 =>
  f_J7_fill_53178_5 K L fu fu v0 v1 (0 : Int32) x3 M))
set_option maxHeartbeats 4000000 in
theorem w_J7_fill_53178_0 {X : Cx} {d n : Nat} {K L : Nat → Nat} {fu : Nat} {r : Mm} {v0 : (Option Nat)} {v1 : Int32} {M : Mm} (o : cOk X cJ7_fill_53178 RJ7 d) (hL : cL X = 4) (hr : (ch X).sig.returnType = none) (hz : (cs X).heap.size + 0 = cB X + n) (hE : cE X n K L r none 0 0) (h : f_J7_fill_53178 K L fu v0 v1 M = some r) : gW X 0 0 n K L M 0 [(0, va_rf v0), (1, .int v1)] [] := by
  unfold f_J7_fill_53178 at h
  refine g_iconst (v := (0 : Int32)) o dJ7_fill_53178_0 (by decide) ?_
  refine g_istore_n (i := 2) (ls' := [(2, .int (0 : Int32)), (0, va_rf v0), (1, .int v1)]) o dJ7_fill_53178_1 rfl (ltL hL (by decide)) rfl ?_
  refine g_aload_n o dJ7_fill_53178_2 1 rfl ?_
  obtain ⟨a1, e2, h⟩ := ob h
  refine g_alen o e2 dJ7_fill_53178_3 ?_
  obtain ⟨x3, e4, h⟩ := bn_at h
  refine g_topI e4 ?_
  refine g_istore_n (i := 3) (ls' := [(3, .int x3), (2, .int (0 : Int32)), (0, va_rf v0), (1, .int v1)]) o dJ7_fill_53178_4 rfl (ltL hL (by decide)) rfl ?_
  refine gsub [2, 3, 1, 0] rfl ?_
  exact w_J7_fill_53178_5 o hL hr hz hE h
theorem c_J7_fill_53178 (l : Launch) (D : va_G) (Y : Nat → ClassId) (B : Nat) {d : Nat} {n : Nat} {K L : Nat → Nat} {fu : Nat} {M : Mm} {v0 : (Option Nat)} {v1 : Int32} {r : Mm} (hd : 0 ≤ d) (h : f_J7_fill_53178 K L fu v0 v1 M = some r) : mC l D Y B d yJ7_fill_53178 cJ7_fill_53178 4 (none) [va_rf v0, .int v1] n K L M n K L r none 0 0 := by
  refine mk_met (by decide) (by simp [lgs_r, lgs_i, lgs_l, lgs_n]) (fun X e1 e2 e3 e4 o hL hr hnm hz hc hs hE => ?_)
  subst e1 e2 e3 e4
  rw [show lv_args 0 [va_rf v0, .int v1] = [(0, va_rf v0), (1, .int v1)] by simp [lva_r, lva_i, lva_l, lva_n]]
  exact w_J7_fill_53178_0 o hL hr hz hE h
def f_X0_init (a0 : Nat) : Option Unit :=
  some ()
set_option maxHeartbeats 4000000 in
theorem w_X0_init_0 {X : Cx} {d n : Nat} {K L : Nat → Nat} {M : Mm} {a0 : Nat} {r : Unit} (o : cOk X cX0_init RX0 d) (hL : cL X = 1) (hr : (ch X).sig.returnType = none) (hk0 : K a0 = 0) (hE : cE X n K L M none 0 0) (hd : 1 ≤ d) (h : f_X0_init a0  = some r) : gW X 0 0 n K L M 0 [(0, va_rf (some a0))] [] := by
  unfold f_X0_init at h
  refine g_aload_n o dX0_init_0 0 rfl ?_
  refine g_objInit o (by omega) ml_X0_3 (by simp [cat_i, cat_l, cat_rf]) dX0_init_1 ?_
  cases h
  exact g_vret o hr hE dX0_init_4
theorem c_X0_init (l : Launch) (D : va_G) (Y : Nat → ClassId) (B : Nat) {d : Nat} {n : Nat} {K L : Nat → Nat} {M : Mm} {a0 : Nat} {r : Unit} (hd : 1 ≤ d) (hk0 : K a0 = 0) (h : f_X0_init a0  = some r) : mC l D Y B d yX0_init cX0_init 1 (none) [va_rf (some a0)] n K L M n K L M none 0 0 := by
  refine mk_met (by decide) (by simp [lgs_r, lgs_i, lgs_l, lgs_n]) (fun X e1 e2 e3 e4 o hL hr hnm hz hc hs hE => ?_)
  subst e1 e2 e3 e4
  rw [show lv_args 0 [va_rf (some a0)] = [(0, va_rf (some a0))] by simp [lva_r, lva_i, lva_l, lva_n]]
  exact w_X0_init_0 o hL hr hk0 hE hd h
def f_X0_set (K L : Nat → Nat) (a0 : Nat) (v1 : Int32) (v2 : Int32) (v3 : Int32) (v4 : Int32) (M : Mm) : Option Mm :=
  bn (ms_I M (32 * 0 + 0) a0 v1) (fun M1 =>
  bn (ms_I M1 (32 * 0 + 1) a0 v2) (fun M3 =>
  bn (ms_I M3 (32 * 0 + 2) a0 v3) (fun M5 =>
  Option.bind (zb v4) (fun u8 =>
  bn (ms_I M5 (32 * 0 + 3) a0 v4) (fun M9 =>
  some M9)))))
set_option maxHeartbeats 4000000 in
theorem w_X0_set_0 {X : Cx} {d n : Nat} {K L : Nat → Nat} {a0 : Nat} {r : Mm} {v1 : Int32} {v2 : Int32} {v3 : Int32} {v4 : Int32} {M : Mm} (o : cOk X cX0_set RX0 d) (hL : cL X = 5) (hr : (ch X).sig.returnType = none) (hz : (cs X).heap.size + 0 = cB X + n) (hk0 : K a0 = 0) (hE : cE X n K L r none 0 0) (h : f_X0_set K L a0 v1 v2 v3 v4 M = some r) : gW X 0 0 n K L M 0 [(0, va_rf (some a0)), (1, .int v1), (2, .int v2), (3, .int v3), (4, .int v4)] [] := by
  unfold f_X0_set at h
  refine g_aload_n o dX0_set_0 0 rfl ?_
  refine g_iload_n o dX0_set_1 1 rfl ?_
  refine g_putI o hz fl_X0_25 (rc_self hk0) (by decide) rfl rfl rfl  dX0_set_2 ?_
  obtain ⟨M1, e2, h⟩ := bn_at h
  refine g_mem e2 ?_
  refine g_aload_n o dX0_set_5 0 rfl ?_
  refine g_iload_n o dX0_set_6 2 rfl ?_
  refine g_putI o hz fl_X0_28 (rc_self hk0) (by decide) rfl rfl rfl  dX0_set_7 ?_
  obtain ⟨M3, e4, h⟩ := bn_at h
  refine g_mem e4 ?_
  refine g_aload_n o dX0_set_10 0 rfl ?_
  refine g_iload_n o dX0_set_11 3 rfl ?_
  refine g_putI o hz fl_X0_31 (rc_self hk0) (by decide) rfl rfl rfl  dX0_set_12 ?_
  obtain ⟨M5, e6, h⟩ := bn_at h
  refine g_mem e6 ?_
  refine g_aload_n o dX0_set_15 0 rfl ?_
  refine g_iload o dX0_set_16 4 rfl ?_
  obtain ⟨u8, e7, h⟩ := ob h
  refine g_putZ o hz fl_X0_34 (rc_self hk0) (by decide) rfl rfl rfl (zb_at e7) dX0_set_18 ?_
  obtain ⟨M9, e10, h⟩ := bn_at h
  refine g_mem e10 ?_
  cases h
  exact g_vret o hr hE dX0_set_21
theorem c_X0_set (l : Launch) (D : va_G) (Y : Nat → ClassId) (B : Nat) {d : Nat} {n : Nat} {K L : Nat → Nat} {M : Mm} {a0 : Nat} {v1 : Int32} {v2 : Int32} {v3 : Int32} {v4 : Int32} {r : Mm} (hd : 0 ≤ d) (hk0 : K a0 = 0) (h : f_X0_set K L a0 v1 v2 v3 v4 M = some r) : mC l D Y B d yX0_set cX0_set 5 (none) [va_rf (some a0), .int v1, .int v2, .int v3, .int v4] n K L M n K L r none 0 0 := by
  refine mk_met (by decide) (by simp [lgs_r, lgs_i, lgs_l, lgs_n]) (fun X e1 e2 e3 e4 o hL hr hnm hz hc hs hE => ?_)
  subst e1 e2 e3 e4
  rw [show lv_args 0 [va_rf (some a0), .int v1, .int v2, .int v3, .int v4] = [(0, va_rf (some a0)), (1, .int v1), (2, .int v2), (3, .int v3), (4, .int v4)] by simp [lva_r, lva_i, lva_l, lva_n]]
  exact w_X0_set_0 o hL hr hz hk0 hE h
def f_X0_begin (K L : Nat → Nat) (a0 : Nat) (M : Mm) : Option Mm :=
  Option.bind (f_X0_set K L a0 (1 : Int32) (0 : Int32) (10000 : Int32) (0 : Int32) M) (fun x1 =>
  bn (ms_I x1 (32 * 0 + 4) a0 (0 : Int32)) (fun M3 =>
  bn (ms_I M3 (32 * 0 + 5) a0 (0 : Int32)) (fun M5 =>
  bn (ms_I M5 (32 * 0 + 6) a0 (0 : Int32)) (fun M7 =>
  some M7))))
set_option maxHeartbeats 4000000 in
theorem w_X0_begin_0 {X : Cx} {d n : Nat} {K L : Nat → Nat} {a0 : Nat} {r : Mm} {M : Mm} (o : cOk X cX0_begin RX0 (d + 1)) (hL : cL X = 1) (hr : (ch X).sig.returnType = none) (hz : (cs X).heap.size + 0 = cB X + n) (hk0 : K a0 = 0) (hE : cE X n K L r none 0 0) (hd : 1 ≤ d + 1) (h : f_X0_begin K L a0  M = some r) : gW X 0 0 n K L M 0 [(0, va_rf (some a0))] [] := by
  unfold f_X0_begin at h
  refine g_aload_n o dX0_begin_0 0 rfl ?_
  refine g_iconst (v := (1 : Int32)) o dX0_begin_1 (by decide) ?_
  refine g_iconst (v := (0 : Int32)) o dX0_begin_2 (by decide) ?_
  refine g_sipush (v := (10000 : Int32)) o dX0_begin_3 (by decide) ?_
  refine g_iconst (v := (0 : Int32)) o dX0_begin_6 (by decide) ?_
  obtain ⟨x1, e2, h⟩ := ob h
  refine g_invV0 o (rc_self hk0) (by decide) ml_X0_9 kb_X0_set kv_X0_set rfl (c_X0_set (cq X) (cD X) (cY X) (cB X) (d := d) (by omega) (rc_at (rc_self hk0)).2 e2) rfl rfl (by simp [cat_i, cat_l, cat_rf]) dX0_begin_7 ?_
  refine g_aload_n o dX0_begin_10 0 rfl ?_
  refine g_iconst (v := (0 : Int32)) o dX0_begin_11 (by decide) ?_
  refine g_putI o hz fl_X0_15 (rc_self hk0) (by decide) rfl rfl rfl  dX0_begin_12 ?_
  obtain ⟨M3, e4, h⟩ := bn_at h
  refine g_mem e4 ?_
  refine g_aload_n o dX0_begin_15 0 rfl ?_
  refine g_iconst (v := (0 : Int32)) o dX0_begin_16 (by decide) ?_
  refine g_putI o hz fl_X0_19 (rc_self hk0) (by decide) rfl rfl rfl  dX0_begin_17 ?_
  obtain ⟨M5, e6, h⟩ := bn_at h
  refine g_mem e6 ?_
  refine g_aload_n o dX0_begin_20 0 rfl ?_
  refine g_iconst (v := (0 : Int32)) o dX0_begin_21 (by decide) ?_
  refine g_putI o hz fl_X0_22 (rc_self hk0) (by decide) rfl rfl rfl  dX0_begin_22 ?_
  obtain ⟨M7, e8, h⟩ := bn_at h
  refine g_mem e8 ?_
  cases h
  exact g_vret o hr hE dX0_begin_25
theorem c_X0_begin (l : Launch) (D : va_G) (Y : Nat → ClassId) (B : Nat) {d : Nat} {n : Nat} {K L : Nat → Nat} {M : Mm} {a0 : Nat} {r : Mm} (hd : 1 ≤ d) (hk0 : K a0 = 0) (h : f_X0_begin K L a0  M = some r) : mC l D Y B d yX0_begin cX0_begin 1 (none) [va_rf (some a0)] n K L M n K L r none 0 0 := by
  obtain ⟨d, rfl⟩ : ∃ e, d = e + 1 := ⟨d - 1, by omega⟩
  refine mk_met (by decide) (by simp [lgs_r, lgs_i, lgs_l, lgs_n]) (fun X e1 e2 e3 e4 o hL hr hnm hz hc hs hE => ?_)
  subst e1 e2 e3 e4
  rw [show lv_args 0 [va_rf (some a0)] = [(0, va_rf (some a0))] by simp [lva_r, lva_i, lva_l, lva_n]]
  exact w_X0_begin_0 o hL hr hz hk0 hE hd h
def f_X0_takeFrom (K L : Nat → Nat) (a0 : Nat) (v1 : (Option Nat)) (M : Mm) : Option Mm :=
  Option.bind (rc K v1 0) (fun a1 =>
  Option.bind (f_X0_set K L a0 (mm_I M (32 * 0 + 0) a1) (mm_I M (32 * 0 + 1) a1) (mm_I M (32 * 0 + 2) a1) (mm_I M (32 * 0 + 3) a1) M) (fun x3 =>
  bn (ms_I x3 (32 * 0 + 4) a0 (mm_I x3 (32 * 0 + 4) a1)) (fun M5 =>
  bn (ms_I M5 (32 * 0 + 5) a0 (mm_I M5 (32 * 0 + 5) a1)) (fun M7 =>
  bn (ms_I M7 (32 * 0 + 6) a0 (mm_I M7 (32 * 0 + 6) a1)) (fun M9 =>
  some M9)))))
set_option maxHeartbeats 4000000 in
theorem w_X0_takeFrom_0 {X : Cx} {d n : Nat} {K L : Nat → Nat} {a0 : Nat} {r : Mm} {v1 : (Option Nat)} {M : Mm} (o : cOk X cX0_takeFrom RX0 (d + 1)) (hL : cL X = 2) (hr : (ch X).sig.returnType = none) (hz : (cs X).heap.size + 0 = cB X + n) (hk0 : K a0 = 0) (hE : cE X n K L r none 0 0) (hd : 1 ≤ d + 1) (h : f_X0_takeFrom K L a0 v1 M = some r) : gW X 0 0 n K L M 0 [(0, va_rf (some a0)), (1, va_rf v1)] [] := by
  unfold f_X0_takeFrom at h
  refine g_aload_n o dX0_takeFrom_0 0 rfl ?_
  refine g_aload_n o dX0_takeFrom_1 1 rfl ?_
  obtain ⟨a1, e2, h⟩ := ob h
  refine g_getI o fl_X0_25 e2 (by decide) rfl dX0_takeFrom_2 ?_
  refine g_aload_n o dX0_takeFrom_5 1 rfl ?_
  refine g_getI o fl_X0_28 e2 (by decide) rfl dX0_takeFrom_6 ?_
  refine g_aload_n o dX0_takeFrom_9 1 rfl ?_
  refine g_getI o fl_X0_31 e2 (by decide) rfl dX0_takeFrom_10 ?_
  refine g_aload_n o dX0_takeFrom_13 1 rfl ?_
  refine g_getI o fl_X0_34 e2 (by decide) rfl dX0_takeFrom_14 ?_
  obtain ⟨x3, e4, h⟩ := ob h
  refine g_invV0 o (rc_self hk0) (by decide) ml_X0_9 kb_X0_set kv_X0_set rfl (c_X0_set (cq X) (cD X) (cY X) (cB X) (d := d) (by omega) (rc_at (rc_self hk0)).2 e4) rfl rfl (by simp [cat_i, cat_l, cat_rf]) dX0_takeFrom_17 ?_
  refine g_aload_n o dX0_takeFrom_20 0 rfl ?_
  refine g_aload_n o dX0_takeFrom_21 1 rfl ?_
  refine g_getI o fl_X0_15 e2 (by decide) rfl dX0_takeFrom_22 ?_
  refine g_putI o hz fl_X0_15 (rc_self hk0) (by decide) rfl rfl rfl  dX0_takeFrom_25 ?_
  obtain ⟨M5, e6, h⟩ := bn_at h
  refine g_mem e6 ?_
  refine g_aload_n o dX0_takeFrom_28 0 rfl ?_
  refine g_aload_n o dX0_takeFrom_29 1 rfl ?_
  refine g_getI o fl_X0_19 e2 (by decide) rfl dX0_takeFrom_30 ?_
  refine g_putI o hz fl_X0_19 (rc_self hk0) (by decide) rfl rfl rfl  dX0_takeFrom_33 ?_
  obtain ⟨M7, e8, h⟩ := bn_at h
  refine g_mem e8 ?_
  refine g_aload_n o dX0_takeFrom_36 0 rfl ?_
  refine g_aload_n o dX0_takeFrom_37 1 rfl ?_
  refine g_getI o fl_X0_22 e2 (by decide) rfl dX0_takeFrom_38 ?_
  refine g_putI o hz fl_X0_22 (rc_self hk0) (by decide) rfl rfl rfl  dX0_takeFrom_41 ?_
  obtain ⟨M9, e10, h⟩ := bn_at h
  refine g_mem e10 ?_
  cases h
  exact g_vret o hr hE dX0_takeFrom_44
theorem c_X0_takeFrom (l : Launch) (D : va_G) (Y : Nat → ClassId) (B : Nat) {d : Nat} {n : Nat} {K L : Nat → Nat} {M : Mm} {a0 : Nat} {v1 : (Option Nat)} {r : Mm} (hd : 1 ≤ d) (hk0 : K a0 = 0) (h : f_X0_takeFrom K L a0 v1 M = some r) : mC l D Y B d yX0_takeFrom cX0_takeFrom 2 (none) [va_rf (some a0), va_rf v1] n K L M n K L r none 0 0 := by
  obtain ⟨d, rfl⟩ : ∃ e, d = e + 1 := ⟨d - 1, by omega⟩
  refine mk_met (by decide) (by simp [lgs_r, lgs_i, lgs_l, lgs_n]) (fun X e1 e2 e3 e4 o hL hr hnm hz hc hs hE => ?_)
  subst e1 e2 e3 e4
  rw [show lv_args 0 [va_rf (some a0), va_rf v1] = [(0, va_rf (some a0)), (1, va_rf v1)] by simp [lva_r, lva_i, lva_l, lva_n]]
  exact w_X0_takeFrom_0 o hL hr hz hk0 hE hd h
def f_X0_windowStart (K L : Nat → Nat) (M : Mm) (a0 : Nat) (v1 : Int32) : Option Int32 :=
  some (if (0 : Int32) < ((v1 - (mm_I M (32 * 0 + 0) a0)) + (1 : Int32)) then ((v1 - (mm_I M (32 * 0 + 0) a0)) + (1 : Int32)) else (0 : Int32))
set_option maxHeartbeats 4000000 in
theorem w_X0_windowStart_0 {X : Cx} {d n : Nat} {K L : Nat → Nat} {M : Mm} {a0 : Nat} {r : Int32} {v1 : Int32} (o : cOk X cX0_windowStart RX0 d) (hL : cL X = 2) (hr : (ch X).sig.returnType = some .int) (hk0 : K a0 = 0) (hE : cE X n K L M (some (.int r)) 0 0) (hd : 1 ≤ d) (h : f_X0_windowStart K L M a0 v1 = some r) : gW X 0 0 n K L M 0 [(0, va_rf (some a0)), (1, .int v1)] [] := by
  unfold f_X0_windowStart at h
  refine g_iconst (v := (0 : Int32)) o dX0_windowStart_0 (by decide) ?_
  refine g_iload_n o dX0_windowStart_1 1 rfl ?_
  refine g_aload_n o dX0_windowStart_2 0 rfl ?_
  refine g_getI o fl_X0_25 (rc_self hk0) (by decide) rfl dX0_windowStart_3 ?_
  refine g_isub o dX0_windowStart_6 ?_
  refine g_iconst (v := (1 : Int32)) o dX0_windowStart_7 (by decide) ?_
  refine g_iadd o dX0_windowStart_8 ?_
  refine g_mmax o ml_X0_38 (by omega) (by simp [cat_i, cat_l, cat_rf]) dX0_windowStart_9 ?_
  cases h
  exact g_iret o hr hE dX0_windowStart_12
theorem c_X0_windowStart (l : Launch) (D : va_G) (Y : Nat → ClassId) (B : Nat) {d : Nat} {n : Nat} {K L : Nat → Nat} {M : Mm} {a0 : Nat} {v1 : Int32} {r : Int32} (hd : 1 ≤ d) (hk0 : K a0 = 0) (h : f_X0_windowStart K L M a0 v1 = some r) : mC l D Y B d yX0_windowStart cX0_windowStart 2 (some .int) [va_rf (some a0), .int v1] n K L M n K L M (some (.int r)) 0 0 := by
  refine mk_met (by decide) (by simp [lgs_r, lgs_i, lgs_l, lgs_n]) (fun X e1 e2 e3 e4 o hL hr hnm hz hc hs hE => ?_)
  subst e1 e2 e3 e4
  rw [show lv_args 0 [va_rf (some a0), .int v1] = [(0, va_rf (some a0)), (1, .int v1)] by simp [lva_r, lva_i, lva_l, lva_n]]
  exact w_X0_windowStart_0 o hL hr hk0 hE hd h
def f_X2_isTold (K L : Nat → Nat) (M : Mm) (a0 : Nat) (v1 : Int32) : Option Int32 :=
  if v1 < 0 then
    some (0 : Int32)
  else
    if (mm_I M (32 * 2 + 1) a0) ≤ v1 then
      some (0 : Int32)
    else
      Option.bind (rx K L (mm_R M (32 * 2 + 2) a0) 13 v1) (fun a1 =>
      if (mm_A M a1 v1.toNatClampNeg) = (-1 : Int32) then
        some (0 : Int32)
      else
        some (1 : Int32))
set_option maxHeartbeats 4000000 in
theorem w_X2_isTold_0 {X : Cx} {d n : Nat} {K L : Nat → Nat} {M : Mm} {a0 : Nat} {r : Int32} {v1 : Int32} (o : cOk X cX2_isTold RX2 d) (hL : cL X = 2) (hr : (ch X).sig.returnType = some .boolean) (hk0 : K a0 = 2) (hE : cE X n K L M (some (.int r)) 0 0) (h : f_X2_isTold K L M a0 v1 = some r) : gW X 0 0 n K L M 0 [(0, va_rf (some a0)), (1, .int v1)] [] := by
  unfold f_X2_isTold at h
  refine g_iload_n o dX2_isTold_0 1 rfl ?_
  refine g_if_lt (tgt := 26) o dX2_isTold_1 (by decide) (fun z => ?_) (fun z => ?_)
  · have h := (if_pos z).symm.trans h
    refine g_iconst (v := (0 : Int32)) o dX2_isTold_26 (by decide) ?_
    cases h
    exact g_zret o hr (by decide) hE dX2_isTold_27
  · have h := (if_neg z).symm.trans h
    refine g_iload_n o dX2_isTold_4 1 rfl ?_
    refine g_aload_n o dX2_isTold_5 0 rfl ?_
    refine g_getI o fl_X2_25 (rc_self hk0) (by decide) rfl dX2_isTold_6 ?_
    refine g_icmp_ge (tgt := 26) o dX2_isTold_9 (by decide) (fun z => ?_) (fun z => ?_)
    · have h := (if_pos z).symm.trans h
      refine g_iconst (v := (0 : Int32)) o dX2_isTold_26 (by decide) ?_
      cases h
      exact g_zret o hr (by decide) hE dX2_isTold_27
    · have h := (if_neg z).symm.trans h
      refine g_aload_n o dX2_isTold_12 0 rfl ?_
      refine g_getR o fl_X2_9 (rc_self hk0) (by decide) rfl dX2_isTold_13 ?_
      refine g_iload_n o dX2_isTold_16 1 rfl ?_
      obtain ⟨a1, e2, h⟩ := ob h
      refine g_iald o e2 dX2_isTold_17 ?_
      refine g_iconst (v := (-1 : Int32)) o dX2_isTold_18 (by decide) ?_
      refine g_icmp_eq (tgt := 26) o dX2_isTold_19 (by decide) (fun z => ?_) (fun z => ?_)
      · have h := (if_pos z).symm.trans h
        refine g_iconst (v := (0 : Int32)) o dX2_isTold_26 (by decide) ?_
        cases h
        exact g_zret o hr (by decide) hE dX2_isTold_27
      · have h := (if_neg z).symm.trans h
        refine g_iconst (v := (1 : Int32)) o dX2_isTold_22 (by decide) ?_
        refine g_goto (tgt := 27) o dX2_isTold_23 (by decide) ?_
        cases h
        exact g_zret o hr (by decide) hE dX2_isTold_27
theorem c_X2_isTold (l : Launch) (D : va_G) (Y : Nat → ClassId) (B : Nat) {d : Nat} {n : Nat} {K L : Nat → Nat} {M : Mm} {a0 : Nat} {v1 : Int32} {r : Int32} (hd : 0 ≤ d) (hk0 : K a0 = 2) (h : f_X2_isTold K L M a0 v1 = some r) : mC l D Y B d yX2_isTold cX2_isTold 2 (some .boolean) [va_rf (some a0), .int v1] n K L M n K L M (some (.int r)) 0 0 := by
  refine mk_met (by decide) (by simp [lgs_r, lgs_i, lgs_l, lgs_n]) (fun X e1 e2 e3 e4 o hL hr hnm hz hc hs hE => ?_)
  subst e1 e2 e3 e4
  rw [show lv_args 0 [va_rf (some a0), .int v1] = [(0, va_rf (some a0)), (1, .int v1)] by simp [lva_r, lva_i, lva_l, lva_n]]
  exact w_X2_isTold_0 o hL hr hk0 hE h
def f_X2_areTold_2b (K L : Nat → Nat) (fu : Nat) (k2 : Int32 → Int32 → Option Int32) (M : Mm) (a0 : Nat) (v2 : Int32) (v3 : Int32) : Option Int32 :=
  if v2 < v3 then
    some (1 : Int32)
  else
    Option.bind (f_X2_isTold K L M a0 v3) (fun x1 =>
    if x1 = 0 then
      some (0 : Int32)
    else
      k2 v2 (v3 + 1))
def f_X2_areTold_2 (K L : Nat → Nat) (fu : Nat) (M : Mm) (a0 : Nat) : Nat → Int32 → Int32 → Option Int32
  | 0, _, _ => none
  | g + 1, v2, v3 => f_X2_areTold_2b K L fu (f_X2_areTold_2 K L fu M a0 g) M a0 v2 v3
set_option maxHeartbeats 4000000 in
theorem w_X2_areTold_2b {X : Cx} {d n : Nat} {K L : Nat → Nat} {fu : Nat} {M : Mm} {a0 : Nat} {r : Int32} {k2 : Int32 → Int32 → Option Int32} {v2 : Int32} {v3 : Int32} (o : cOk X cX2_areTold RX2 (d + 1)) (hL : cL X = 4) (hr : (ch X).sig.returnType = some .boolean) (hk0 : K a0 = 2) (hE : cE X n K L M (some (.int r)) 0 0) (hk2 : ∀ (v2 : Int32) (v3 : Int32), k2 v2 v3 = some r → gW X 0 0 n K L M 2 [(0, va_rf (some a0)), (2, .int v2), (3, .int v3)] []) (hd : 1 ≤ d + 1) (h : f_X2_areTold_2b K L fu k2 M a0 v2 v3 = some r) : gW X 0 0 n K L M 2 [(0, va_rf (some a0)), (2, .int v2), (3, .int v3)] [] := by
  unfold f_X2_areTold_2b at h
  refine g_iload_n o dX2_areTold_2 2 rfl ?_
  refine g_iload_n o dX2_areTold_3 1 rfl ?_
  refine g_icmp_gt (tgt := 23) o dX2_areTold_4 (by decide) (fun z => ?_) (fun z => ?_)
  · have h := (if_pos z).symm.trans h
    refine g_iconst (v := (1 : Int32)) o dX2_areTold_23 (by decide) ?_
    cases h
    exact g_zret o hr (by decide) hE dX2_areTold_24
  · have h := (if_neg z).symm.trans h
    refine g_aload_n o dX2_areTold_7 0 rfl ?_
    refine g_iload_n o dX2_areTold_8 2 rfl ?_
    obtain ⟨x1, e2, h⟩ := ob h
    refine g_invV0 o (rc_self hk0) (by decide) ml_X2_35 kb_X2_isTold kv_X2_isTold rfl (c_X2_isTold (cq X) (cD X) (cY X) (cB X) (d := d) (by omega) (rc_at (rc_self hk0)).2 e2) rfl rfl (by simp [cat_i, cat_l, cat_rf]) dX2_areTold_9 ?_
    refine g_if_ne (tgt := 17) o dX2_areTold_12 (by decide) (fun z => ?_) (fun z => ?_)
    · have h := (if_neg z).symm.trans h
      refine g_iinc (i := 3) (v := v3 + 1) (ls' := [(3, .int (v3 + 1)), (0, va_rf (some a0)), (2, .int v2)]) o dX2_areTold_17 2 rfl (by first | rfl | (congr 1)) (ltL hL (by decide)) rfl ?_
      refine g_goto (tgt := 2) o dX2_areTold_20 (by decide) ?_
      refine gsub [1, 2, 0] rfl ?_
      exact hk2 _ _ h
    · have h := (if_pos z).symm.trans h
      refine g_iconst (v := (0 : Int32)) o dX2_areTold_15 (by decide) ?_
      cases h
      exact g_zret o hr (by decide) hE dX2_areTold_16
theorem w_X2_areTold_2_n {X : Cx} {d n : Nat} {K L : Nat → Nat} {fu : Nat} {M : Mm} {a0 : Nat} {r : Int32} (o : cOk X cX2_areTold RX2 (d + 1)) (hL : cL X = 4) (hr : (ch X).sig.returnType = some .boolean) (hk0 : K a0 = 2) (hE : cE X n K L M (some (.int r)) 0 0) (hd : 1 ≤ d + 1) : ∀ (g : Nat) (v2 : Int32) (v3 : Int32), f_X2_areTold_2 K L fu M a0 g v2 v3 = some r → gW X 0 0 n K L M 2 [(0, va_rf (some a0)), (2, .int v2), (3, .int v3)] []
  | 0, _, _, h => by cases h
  | g + 1, v2, v3, h => w_X2_areTold_2b o hL hr hk0 hE (w_X2_areTold_2_n o hL hr hk0 hE hd g) hd h
theorem w_X2_areTold_2 {X : Cx} {d n : Nat} {K L : Nat → Nat} {fu : Nat} {M : Mm} {a0 : Nat} {r : Int32} {v2 : Int32} {v3 : Int32} (o : cOk X cX2_areTold RX2 (d + 1)) (hL : cL X = 4) (hr : (ch X).sig.returnType = some .boolean) (hk0 : K a0 = 2) (hE : cE X n K L M (some (.int r)) 0 0) (hd : 1 ≤ d + 1) (h : f_X2_areTold_2 K L fu M a0 fu v2 v3 = some r) : gW X 0 0 n K L M 2 [(0, va_rf (some a0)), (2, .int v2), (3, .int v3)] [] := w_X2_areTold_2_n o hL hr hk0 hE hd fu v2 v3 h
def f_X2_areTold (K L : Nat → Nat) (fu : Nat) (M : Mm) (a0 : Nat) (v1 : Int32) (v2 : Int32) : Option Int32 :=
  f_X2_areTold_2 K L fu M a0 fu v2 v1
set_option maxHeartbeats 4000000 in
theorem w_X2_areTold_0 {X : Cx} {d n : Nat} {K L : Nat → Nat} {fu : Nat} {M : Mm} {a0 : Nat} {r : Int32} {v1 : Int32} {v2 : Int32} (o : cOk X cX2_areTold RX2 (d + 1)) (hL : cL X = 4) (hr : (ch X).sig.returnType = some .boolean) (hk0 : K a0 = 2) (hE : cE X n K L M (some (.int r)) 0 0) (hd : 1 ≤ d + 1) (h : f_X2_areTold K L fu M a0 v1 v2 = some r) : gW X 0 0 n K L M 0 [(0, va_rf (some a0)), (1, .int v1), (2, .int v2)] [] := by
  unfold f_X2_areTold at h
  refine g_iload_n o dX2_areTold_0 1 rfl ?_
  refine g_istore_n (i := 3) (ls' := [(3, .int v1), (0, va_rf (some a0)), (1, .int v1), (2, .int v2)]) o dX2_areTold_1 rfl (ltL hL (by decide)) rfl ?_
  refine gsub [1, 3, 0] rfl ?_
  exact w_X2_areTold_2 o hL hr hk0 hE hd h
theorem c_X2_areTold (l : Launch) (D : va_G) (Y : Nat → ClassId) (B : Nat) {d : Nat} {n : Nat} {K L : Nat → Nat} {fu : Nat} {M : Mm} {a0 : Nat} {v1 : Int32} {v2 : Int32} {r : Int32} (hd : 1 ≤ d) (hk0 : K a0 = 2) (h : f_X2_areTold K L fu M a0 v1 v2 = some r) : mC l D Y B d yX2_areTold cX2_areTold 4 (some .boolean) [va_rf (some a0), .int v1, .int v2] n K L M n K L M (some (.int r)) 0 0 := by
  obtain ⟨d, rfl⟩ : ∃ e, d = e + 1 := ⟨d - 1, by omega⟩
  refine mk_met (by decide) (by simp [lgs_r, lgs_i, lgs_l, lgs_n]) (fun X e1 e2 e3 e4 o hL hr hnm hz hc hs hE => ?_)
  subst e1 e2 e3 e4
  rw [show lv_args 0 [va_rf (some a0), .int v1, .int v2] = [(0, va_rf (some a0)), (1, .int v1), (2, .int v2)] by simp [lva_r, lva_i, lva_l, lva_n]]
  exact w_X2_areTold_0 o hL hr hk0 hE hd h
def f_X2_callsAt (K L : Nat → Nat) (M : Mm) (a0 : Nat) (v1 : Int32) : Option Int32 :=
  Option.bind (f_X2_isTold K L M a0 v1) (fun x1 =>
  if x1 = 0 then
    some (0 : Int32)
  else
    Option.bind (rx K L (mm_R M (32 * 2 + 2) a0) 13 v1) (fun a3 =>
    some (mm_A M a3 v1.toNatClampNeg)))
set_option maxHeartbeats 4000000 in
theorem w_X2_callsAt_0 {X : Cx} {d n : Nat} {K L : Nat → Nat} {M : Mm} {a0 : Nat} {r : Int32} {v1 : Int32} (o : cOk X cX2_callsAt RX2 (d + 1)) (hL : cL X = 2) (hr : (ch X).sig.returnType = some .int) (hk0 : K a0 = 2) (hE : cE X n K L M (some (.int r)) 0 0) (hd : 1 ≤ d + 1) (h : f_X2_callsAt K L M a0 v1 = some r) : gW X 0 0 n K L M 0 [(0, va_rf (some a0)), (1, .int v1)] [] := by
  unfold f_X2_callsAt at h
  refine g_aload_n o dX2_callsAt_0 0 rfl ?_
  refine g_iload_n o dX2_callsAt_1 1 rfl ?_
  obtain ⟨x1, e2, h⟩ := ob h
  refine g_invV0 o (rc_self hk0) (by decide) ml_X2_35 kb_X2_isTold kv_X2_isTold rfl (c_X2_isTold (cq X) (cD X) (cY X) (cB X) (d := d) (by omega) (rc_at (rc_self hk0)).2 e2) rfl rfl (by simp [cat_i, cat_l, cat_rf]) dX2_callsAt_2 ?_
  refine g_if_eq (tgt := 17) o dX2_callsAt_5 (by decide) (fun z => ?_) (fun z => ?_)
  · have h := (if_pos z).symm.trans h
    refine g_iconst (v := (0 : Int32)) o dX2_callsAt_17 (by decide) ?_
    cases h
    exact g_iret o hr hE dX2_callsAt_18
  · have h := (if_neg z).symm.trans h
    refine g_aload_n o dX2_callsAt_8 0 rfl ?_
    refine g_getR o fl_X2_9 (rc_self hk0) (by decide) rfl dX2_callsAt_9 ?_
    refine g_iload_n o dX2_callsAt_12 1 rfl ?_
    obtain ⟨a3, e4, h⟩ := ob h
    refine g_iald o e4 dX2_callsAt_13 ?_
    refine g_goto (tgt := 18) o dX2_callsAt_14 (by decide) ?_
    cases h
    exact g_iret o hr hE dX2_callsAt_18
theorem c_X2_callsAt (l : Launch) (D : va_G) (Y : Nat → ClassId) (B : Nat) {d : Nat} {n : Nat} {K L : Nat → Nat} {M : Mm} {a0 : Nat} {v1 : Int32} {r : Int32} (hd : 1 ≤ d) (hk0 : K a0 = 2) (h : f_X2_callsAt K L M a0 v1 = some r) : mC l D Y B d yX2_callsAt cX2_callsAt 2 (some .int) [va_rf (some a0), .int v1] n K L M n K L M (some (.int r)) 0 0 := by
  obtain ⟨d, rfl⟩ : ∃ e, d = e + 1 := ⟨d - 1, by omega⟩
  refine mk_met (by decide) (by simp [lgs_r, lgs_i, lgs_l, lgs_n]) (fun X e1 e2 e3 e4 o hL hr hnm hz hc hs hE => ?_)
  subst e1 e2 e3 e4
  rw [show lv_args 0 [va_rf (some a0), .int v1] = [(0, va_rf (some a0)), (1, .int v1)] by simp [lva_r, lva_i, lva_l, lva_n]]
  exact w_X2_callsAt_0 o hL hr hk0 hE hd h
def f_X2_callsIn_5b (K L : Nat → Nat) (fu : Nat) (k5 : Int32 → Int64 → Int32 → Option Int64) (M : Mm) (a0 : Nat) (v2 : Int32) (v3 : Int64) (v5 : Int32) : Option Int64 :=
  if v2 < v5 then
    some v3
  else
    Option.bind (f_X2_callsAt K L M a0 v5) (fun x1 =>
    bn (v3 + (x1.toInt64)) (fun x3 =>
    k5 v2 x3 (v5 + 1)))
def f_X2_callsIn_5 (K L : Nat → Nat) (fu : Nat) (M : Mm) (a0 : Nat) : Nat → Int32 → Int64 → Int32 → Option Int64
  | 0, _, _, _ => none
  | g + 1, v2, v3, v5 => f_X2_callsIn_5b K L fu (f_X2_callsIn_5 K L fu M a0 g) M a0 v2 v3 v5
set_option maxHeartbeats 4000000 in
theorem w_X2_callsIn_5b {X : Cx} {d n : Nat} {K L : Nat → Nat} {fu : Nat} {M : Mm} {a0 : Nat} {r : Int64} {k5 : Int32 → Int64 → Int32 → Option Int64} {v2 : Int32} {v3 : Int64} {v5 : Int32} (o : cOk X cX2_callsIn RX2 (d + 1)) (hL : cL X = 6) (hr : (ch X).sig.returnType = some .long) (hk0 : K a0 = 2) (hE : cE X n K L M (some (.long r)) 0 0) (hk5 : ∀ (v2 : Int32) (v3 : Int64) (v5 : Int32), k5 v2 v3 v5 = some r → gW X 0 0 n K L M 5 [(0, va_rf (some a0)), (2, .int v2), (3, .long v3), (5, .int v5)] []) (hd : 2 ≤ d + 1) (h : f_X2_callsIn_5b K L fu k5 M a0 v2 v3 v5 = some r) : gW X 0 0 n K L M 5 [(0, va_rf (some a0)), (2, .int v2), (3, .long v3), (5, .int v5)] [] := by
  unfold f_X2_callsIn_5b at h
  refine g_iload o dX2_callsIn_5 3 rfl ?_
  refine g_iload_n o dX2_callsIn_7 1 rfl ?_
  refine g_icmp_gt (tgt := 27) o dX2_callsIn_8 (by decide) (fun z => ?_) (fun z => ?_)
  · have h := (if_pos z).symm.trans h
    refine g_lload_n o dX2_callsIn_27 2 rfl ?_
    cases h
    exact g_lret o hr hE dX2_callsIn_28
  · have h := (if_neg z).symm.trans h
    refine g_lload_n o dX2_callsIn_11 2 rfl ?_
    refine g_aload_n o dX2_callsIn_12 0 rfl ?_
    refine g_iload o dX2_callsIn_13 3 rfl ?_
    obtain ⟨x1, e2, h⟩ := ob h
    refine g_invV0 o (rc_self hk0) (by decide) ml_X2_49 kb_X2_callsAt kv_X2_callsAt rfl (c_X2_callsAt (cq X) (cD X) (cY X) (cB X) (d := d) (by omega) (rc_at (rc_self hk0)).2 e2) rfl rfl (by simp [cat_i, cat_l, cat_rf]) dX2_callsIn_15 ?_
    refine g_i2l o dX2_callsIn_18 ?_
    refine g_ladd o dX2_callsIn_19 ?_
    obtain ⟨x3, e4, h⟩ := bn_at h
    refine g_topJ e4 ?_
    refine g_lstore_n (i := 3) (ls' := [(3, .long x3), (0, va_rf (some a0)), (2, .int v2), (5, .int v5)]) o dX2_callsIn_20 rfl (ltL hL (by decide)) rfl ?_
    refine g_iinc (i := 5) (v := v5 + 1) (ls' := [(5, .int (v5 + 1)), (3, .long x3), (0, va_rf (some a0)), (2, .int v2)]) o dX2_callsIn_21 3 rfl (by first | rfl | (congr 1)) (ltL hL (by decide)) rfl ?_
    refine g_goto (tgt := 5) o dX2_callsIn_24 (by decide) ?_
    refine gsub [2, 3, 1, 0] rfl ?_
    exact hk5 _ _ _ h
theorem w_X2_callsIn_5_n {X : Cx} {d n : Nat} {K L : Nat → Nat} {fu : Nat} {M : Mm} {a0 : Nat} {r : Int64} (o : cOk X cX2_callsIn RX2 (d + 1)) (hL : cL X = 6) (hr : (ch X).sig.returnType = some .long) (hk0 : K a0 = 2) (hE : cE X n K L M (some (.long r)) 0 0) (hd : 2 ≤ d + 1) : ∀ (g : Nat) (v2 : Int32) (v3 : Int64) (v5 : Int32), f_X2_callsIn_5 K L fu M a0 g v2 v3 v5 = some r → gW X 0 0 n K L M 5 [(0, va_rf (some a0)), (2, .int v2), (3, .long v3), (5, .int v5)] []
  | 0, _, _, _, h => by cases h
  | g + 1, v2, v3, v5, h => w_X2_callsIn_5b o hL hr hk0 hE (w_X2_callsIn_5_n o hL hr hk0 hE hd g) hd h
theorem w_X2_callsIn_5 {X : Cx} {d n : Nat} {K L : Nat → Nat} {fu : Nat} {M : Mm} {a0 : Nat} {r : Int64} {v2 : Int32} {v3 : Int64} {v5 : Int32} (o : cOk X cX2_callsIn RX2 (d + 1)) (hL : cL X = 6) (hr : (ch X).sig.returnType = some .long) (hk0 : K a0 = 2) (hE : cE X n K L M (some (.long r)) 0 0) (hd : 2 ≤ d + 1) (h : f_X2_callsIn_5 K L fu M a0 fu v2 v3 v5 = some r) : gW X 0 0 n K L M 5 [(0, va_rf (some a0)), (2, .int v2), (3, .long v3), (5, .int v5)] [] := w_X2_callsIn_5_n o hL hr hk0 hE hd fu v2 v3 v5 h
def f_X2_callsIn (K L : Nat → Nat) (fu : Nat) (M : Mm) (a0 : Nat) (v1 : Int32) (v2 : Int32) : Option Int64 :=
  f_X2_callsIn_5 K L fu M a0 fu v2 (0 : Int64) v1
set_option maxHeartbeats 4000000 in
theorem w_X2_callsIn_0 {X : Cx} {d n : Nat} {K L : Nat → Nat} {fu : Nat} {M : Mm} {a0 : Nat} {r : Int64} {v1 : Int32} {v2 : Int32} (o : cOk X cX2_callsIn RX2 (d + 1)) (hL : cL X = 6) (hr : (ch X).sig.returnType = some .long) (hk0 : K a0 = 2) (hE : cE X n K L M (some (.long r)) 0 0) (hd : 2 ≤ d + 1) (h : f_X2_callsIn K L fu M a0 v1 v2 = some r) : gW X 0 0 n K L M 0 [(0, va_rf (some a0)), (1, .int v1), (2, .int v2)] [] := by
  unfold f_X2_callsIn at h
  refine g_lconst (v := (0 : Int64)) o dX2_callsIn_0 (by decide) ?_
  refine g_lstore_n (i := 3) (ls' := [(3, .long (0 : Int64)), (0, va_rf (some a0)), (1, .int v1), (2, .int v2)]) o dX2_callsIn_1 rfl (ltL hL (by decide)) rfl ?_
  refine g_iload_n o dX2_callsIn_2 2 rfl ?_
  refine g_istore (i := 5) (ls' := [(5, .int v1), (3, .long (0 : Int64)), (0, va_rf (some a0)), (1, .int v1), (2, .int v2)]) o dX2_callsIn_3 (ltL hL (by decide)) rfl ?_
  refine gsub [2, 4, 1, 0] rfl ?_
  exact w_X2_callsIn_5 o hL hr hk0 hE hd h
theorem c_X2_callsIn (l : Launch) (D : va_G) (Y : Nat → ClassId) (B : Nat) {d : Nat} {n : Nat} {K L : Nat → Nat} {fu : Nat} {M : Mm} {a0 : Nat} {v1 : Int32} {v2 : Int32} {r : Int64} (hd : 2 ≤ d) (hk0 : K a0 = 2) (h : f_X2_callsIn K L fu M a0 v1 v2 = some r) : mC l D Y B d yX2_callsIn cX2_callsIn 6 (some .long) [va_rf (some a0), .int v1, .int v2] n K L M n K L M (some (.long r)) 0 0 := by
  obtain ⟨d, rfl⟩ : ∃ e, d = e + 1 := ⟨d - 1, by omega⟩
  refine mk_met (by decide) (by simp [lgs_r, lgs_i, lgs_l, lgs_n]) (fun X e1 e2 e3 e4 o hL hr hnm hz hc hs hE => ?_)
  subst e1 e2 e3 e4
  rw [show lv_args 0 [va_rf (some a0), .int v1, .int v2] = [(0, va_rf (some a0)), (1, .int v1), (2, .int v2)] by simp [lva_r, lva_i, lva_l, lva_n]]
  exact w_X2_callsIn_0 o hL hr hk0 hE hd h
def f_X2_faultsAt (K L : Nat → Nat) (M : Mm) (a0 : Nat) (v1 : Int32) : Option Int32 :=
  Option.bind (f_X2_isTold K L M a0 v1) (fun x1 =>
  if x1 = 0 then
    some (0 : Int32)
  else
    Option.bind (rx K L (mm_R M (32 * 2 + 3) a0) 13 v1) (fun a3 =>
    some (mm_A M a3 v1.toNatClampNeg)))
set_option maxHeartbeats 4000000 in
theorem w_X2_faultsAt_0 {X : Cx} {d n : Nat} {K L : Nat → Nat} {M : Mm} {a0 : Nat} {r : Int32} {v1 : Int32} (o : cOk X cX2_faultsAt RX2 (d + 1)) (hL : cL X = 2) (hr : (ch X).sig.returnType = some .int) (hk0 : K a0 = 2) (hE : cE X n K L M (some (.int r)) 0 0) (hd : 1 ≤ d + 1) (h : f_X2_faultsAt K L M a0 v1 = some r) : gW X 0 0 n K L M 0 [(0, va_rf (some a0)), (1, .int v1)] [] := by
  unfold f_X2_faultsAt at h
  refine g_aload_n o dX2_faultsAt_0 0 rfl ?_
  refine g_iload_n o dX2_faultsAt_1 1 rfl ?_
  obtain ⟨x1, e2, h⟩ := ob h
  refine g_invV0 o (rc_self hk0) (by decide) ml_X2_35 kb_X2_isTold kv_X2_isTold rfl (c_X2_isTold (cq X) (cD X) (cY X) (cB X) (d := d) (by omega) (rc_at (rc_self hk0)).2 e2) rfl rfl (by simp [cat_i, cat_l, cat_rf]) dX2_faultsAt_2 ?_
  refine g_if_eq (tgt := 17) o dX2_faultsAt_5 (by decide) (fun z => ?_) (fun z => ?_)
  · have h := (if_pos z).symm.trans h
    refine g_iconst (v := (0 : Int32)) o dX2_faultsAt_17 (by decide) ?_
    cases h
    exact g_iret o hr hE dX2_faultsAt_18
  · have h := (if_neg z).symm.trans h
    refine g_aload_n o dX2_faultsAt_8 0 rfl ?_
    refine g_getR o fl_X2_15 (rc_self hk0) (by decide) rfl dX2_faultsAt_9 ?_
    refine g_iload_n o dX2_faultsAt_12 1 rfl ?_
    obtain ⟨a3, e4, h⟩ := ob h
    refine g_iald o e4 dX2_faultsAt_13 ?_
    refine g_goto (tgt := 18) o dX2_faultsAt_14 (by decide) ?_
    cases h
    exact g_iret o hr hE dX2_faultsAt_18
theorem c_X2_faultsAt (l : Launch) (D : va_G) (Y : Nat → ClassId) (B : Nat) {d : Nat} {n : Nat} {K L : Nat → Nat} {M : Mm} {a0 : Nat} {v1 : Int32} {r : Int32} (hd : 1 ≤ d) (hk0 : K a0 = 2) (h : f_X2_faultsAt K L M a0 v1 = some r) : mC l D Y B d yX2_faultsAt cX2_faultsAt 2 (some .int) [va_rf (some a0), .int v1] n K L M n K L M (some (.int r)) 0 0 := by
  obtain ⟨d, rfl⟩ : ∃ e, d = e + 1 := ⟨d - 1, by omega⟩
  refine mk_met (by decide) (by simp [lgs_r, lgs_i, lgs_l, lgs_n]) (fun X e1 e2 e3 e4 o hL hr hnm hz hc hs hE => ?_)
  subst e1 e2 e3 e4
  rw [show lv_args 0 [va_rf (some a0), .int v1] = [(0, va_rf (some a0)), (1, .int v1)] by simp [lva_r, lva_i, lva_l, lva_n]]
  exact w_X2_faultsAt_0 o hL hr hk0 hE hd h
def f_X2_faultsIn_5b (K L : Nat → Nat) (fu : Nat) (k5 : Int32 → Int64 → Int32 → Option Int64) (M : Mm) (a0 : Nat) (v2 : Int32) (v3 : Int64) (v5 : Int32) : Option Int64 :=
  if v2 < v5 then
    some v3
  else
    Option.bind (f_X2_faultsAt K L M a0 v5) (fun x1 =>
    bn (v3 + (x1.toInt64)) (fun x3 =>
    k5 v2 x3 (v5 + 1)))
def f_X2_faultsIn_5 (K L : Nat → Nat) (fu : Nat) (M : Mm) (a0 : Nat) : Nat → Int32 → Int64 → Int32 → Option Int64
  | 0, _, _, _ => none
  | g + 1, v2, v3, v5 => f_X2_faultsIn_5b K L fu (f_X2_faultsIn_5 K L fu M a0 g) M a0 v2 v3 v5
set_option maxHeartbeats 4000000 in
theorem w_X2_faultsIn_5b {X : Cx} {d n : Nat} {K L : Nat → Nat} {fu : Nat} {M : Mm} {a0 : Nat} {r : Int64} {k5 : Int32 → Int64 → Int32 → Option Int64} {v2 : Int32} {v3 : Int64} {v5 : Int32} (o : cOk X cX2_faultsIn RX2 (d + 1)) (hL : cL X = 6) (hr : (ch X).sig.returnType = some .long) (hk0 : K a0 = 2) (hE : cE X n K L M (some (.long r)) 0 0) (hk5 : ∀ (v2 : Int32) (v3 : Int64) (v5 : Int32), k5 v2 v3 v5 = some r → gW X 0 0 n K L M 5 [(0, va_rf (some a0)), (2, .int v2), (3, .long v3), (5, .int v5)] []) (hd : 2 ≤ d + 1) (h : f_X2_faultsIn_5b K L fu k5 M a0 v2 v3 v5 = some r) : gW X 0 0 n K L M 5 [(0, va_rf (some a0)), (2, .int v2), (3, .long v3), (5, .int v5)] [] := by
  unfold f_X2_faultsIn_5b at h
  refine g_iload o dX2_faultsIn_5 3 rfl ?_
  refine g_iload_n o dX2_faultsIn_7 1 rfl ?_
  refine g_icmp_gt (tgt := 27) o dX2_faultsIn_8 (by decide) (fun z => ?_) (fun z => ?_)
  · have h := (if_pos z).symm.trans h
    refine g_lload_n o dX2_faultsIn_27 2 rfl ?_
    cases h
    exact g_lret o hr hE dX2_faultsIn_28
  · have h := (if_neg z).symm.trans h
    refine g_lload_n o dX2_faultsIn_11 2 rfl ?_
    refine g_aload_n o dX2_faultsIn_12 0 rfl ?_
    refine g_iload o dX2_faultsIn_13 3 rfl ?_
    obtain ⟨x1, e2, h⟩ := ob h
    refine g_invV0 o (rc_self hk0) (by decide) ml_X2_53 kb_X2_faultsAt kv_X2_faultsAt rfl (c_X2_faultsAt (cq X) (cD X) (cY X) (cB X) (d := d) (by omega) (rc_at (rc_self hk0)).2 e2) rfl rfl (by simp [cat_i, cat_l, cat_rf]) dX2_faultsIn_15 ?_
    refine g_i2l o dX2_faultsIn_18 ?_
    refine g_ladd o dX2_faultsIn_19 ?_
    obtain ⟨x3, e4, h⟩ := bn_at h
    refine g_topJ e4 ?_
    refine g_lstore_n (i := 3) (ls' := [(3, .long x3), (0, va_rf (some a0)), (2, .int v2), (5, .int v5)]) o dX2_faultsIn_20 rfl (ltL hL (by decide)) rfl ?_
    refine g_iinc (i := 5) (v := v5 + 1) (ls' := [(5, .int (v5 + 1)), (3, .long x3), (0, va_rf (some a0)), (2, .int v2)]) o dX2_faultsIn_21 3 rfl (by first | rfl | (congr 1)) (ltL hL (by decide)) rfl ?_
    refine g_goto (tgt := 5) o dX2_faultsIn_24 (by decide) ?_
    refine gsub [2, 3, 1, 0] rfl ?_
    exact hk5 _ _ _ h
theorem w_X2_faultsIn_5_n {X : Cx} {d n : Nat} {K L : Nat → Nat} {fu : Nat} {M : Mm} {a0 : Nat} {r : Int64} (o : cOk X cX2_faultsIn RX2 (d + 1)) (hL : cL X = 6) (hr : (ch X).sig.returnType = some .long) (hk0 : K a0 = 2) (hE : cE X n K L M (some (.long r)) 0 0) (hd : 2 ≤ d + 1) : ∀ (g : Nat) (v2 : Int32) (v3 : Int64) (v5 : Int32), f_X2_faultsIn_5 K L fu M a0 g v2 v3 v5 = some r → gW X 0 0 n K L M 5 [(0, va_rf (some a0)), (2, .int v2), (3, .long v3), (5, .int v5)] []
  | 0, _, _, _, h => by cases h
  | g + 1, v2, v3, v5, h => w_X2_faultsIn_5b o hL hr hk0 hE (w_X2_faultsIn_5_n o hL hr hk0 hE hd g) hd h
theorem w_X2_faultsIn_5 {X : Cx} {d n : Nat} {K L : Nat → Nat} {fu : Nat} {M : Mm} {a0 : Nat} {r : Int64} {v2 : Int32} {v3 : Int64} {v5 : Int32} (o : cOk X cX2_faultsIn RX2 (d + 1)) (hL : cL X = 6) (hr : (ch X).sig.returnType = some .long) (hk0 : K a0 = 2) (hE : cE X n K L M (some (.long r)) 0 0) (hd : 2 ≤ d + 1) (h : f_X2_faultsIn_5 K L fu M a0 fu v2 v3 v5 = some r) : gW X 0 0 n K L M 5 [(0, va_rf (some a0)), (2, .int v2), (3, .long v3), (5, .int v5)] [] := w_X2_faultsIn_5_n o hL hr hk0 hE hd fu v2 v3 v5 h
def f_X2_faultsIn (K L : Nat → Nat) (fu : Nat) (M : Mm) (a0 : Nat) (v1 : Int32) (v2 : Int32) : Option Int64 :=
  f_X2_faultsIn_5 K L fu M a0 fu v2 (0 : Int64) v1
set_option maxHeartbeats 4000000 in
theorem w_X2_faultsIn_0 {X : Cx} {d n : Nat} {K L : Nat → Nat} {fu : Nat} {M : Mm} {a0 : Nat} {r : Int64} {v1 : Int32} {v2 : Int32} (o : cOk X cX2_faultsIn RX2 (d + 1)) (hL : cL X = 6) (hr : (ch X).sig.returnType = some .long) (hk0 : K a0 = 2) (hE : cE X n K L M (some (.long r)) 0 0) (hd : 2 ≤ d + 1) (h : f_X2_faultsIn K L fu M a0 v1 v2 = some r) : gW X 0 0 n K L M 0 [(0, va_rf (some a0)), (1, .int v1), (2, .int v2)] [] := by
  unfold f_X2_faultsIn at h
  refine g_lconst (v := (0 : Int64)) o dX2_faultsIn_0 (by decide) ?_
  refine g_lstore_n (i := 3) (ls' := [(3, .long (0 : Int64)), (0, va_rf (some a0)), (1, .int v1), (2, .int v2)]) o dX2_faultsIn_1 rfl (ltL hL (by decide)) rfl ?_
  refine g_iload_n o dX2_faultsIn_2 2 rfl ?_
  refine g_istore (i := 5) (ls' := [(5, .int v1), (3, .long (0 : Int64)), (0, va_rf (some a0)), (1, .int v1), (2, .int v2)]) o dX2_faultsIn_3 (ltL hL (by decide)) rfl ?_
  refine gsub [2, 4, 1, 0] rfl ?_
  exact w_X2_faultsIn_5 o hL hr hk0 hE hd h
theorem c_X2_faultsIn (l : Launch) (D : va_G) (Y : Nat → ClassId) (B : Nat) {d : Nat} {n : Nat} {K L : Nat → Nat} {fu : Nat} {M : Mm} {a0 : Nat} {v1 : Int32} {v2 : Int32} {r : Int64} (hd : 2 ≤ d) (hk0 : K a0 = 2) (h : f_X2_faultsIn K L fu M a0 v1 v2 = some r) : mC l D Y B d yX2_faultsIn cX2_faultsIn 6 (some .long) [va_rf (some a0), .int v1, .int v2] n K L M n K L M (some (.long r)) 0 0 := by
  obtain ⟨d, rfl⟩ : ∃ e, d = e + 1 := ⟨d - 1, by omega⟩
  refine mk_met (by decide) (by simp [lgs_r, lgs_i, lgs_l, lgs_n]) (fun X e1 e2 e3 e4 o hL hr hnm hz hc hs hE => ?_)
  subst e1 e2 e3 e4
  rw [show lv_args 0 [va_rf (some a0), .int v1, .int v2] = [(0, va_rf (some a0)), (1, .int v1), (2, .int v2)] by simp [lva_r, lva_i, lva_l, lva_n]]
  exact w_X2_faultsIn_0 o hL hr hk0 hE hd h
def f_X0_faultOf (K L : Nat → Nat) (fu : Nat) (M : Mm) (a0 : Nat) (v1 : (Option Nat)) (v2 : Int32) : Option Int32 :=
  Option.bind (f_X0_windowStart K L M a0 v2) (fun x1 =>
  if v1 = none then
    some (-8 : Int32)
  else
    Option.bind (rc K v1 2) (fun a3 =>
    Option.bind (f_X2_areTold K L fu M a3 x1 v2) (fun x5 =>
    if x5 = 0 then
      some (-8 : Int32)
    else
      Option.bind (f_X2_callsIn K L fu M a3 x1 v2) (fun x7 =>
      if 0 ≤ (lg_cmp x7 ((mm_I M (32 * 0 + 1) a0).toInt64)) then
        Option.bind (f_X2_faultsIn K L fu M a3 x1 v2) (fun x9 =>
        if (lg_cmp x7 (0 : Int64)) ≤ 0 then
          some (0 : Int32)
        else
          if (lg_cmp (x9 * (10000 : Int64)) (((mm_I M (32 * 0 + 2) a0).toInt64) * x7)) ≤ 0 then
            some (0 : Int32)
          else
            some (-10 : Int32))
      else
        some (-9 : Int32)))))
set_option maxHeartbeats 4000000 in
theorem w_X0_faultOf_0 {X : Cx} {d n : Nat} {K L : Nat → Nat} {fu : Nat} {M : Mm} {a0 : Nat} {r : Int32} {v1 : (Option Nat)} {v2 : Int32} (o : cOk X cX0_faultOf RX0 (d + 1)) (hL : cL X = 8) (hr : (ch X).sig.returnType = some .int) (hk0 : K a0 = 0) (hE : cE X n K L M (some (.int r)) 0 0) (hd : 3 ≤ d + 1) (h : f_X0_faultOf K L fu M a0 v1 v2 = some r) : gW X 0 0 n K L M 0 [(0, va_rf (some a0)), (1, va_rf v1), (2, .int v2)] [] := by
  unfold f_X0_faultOf at h
  refine g_aload_n o dX0_faultOf_0 0 rfl ?_
  refine g_iload_n o dX0_faultOf_1 2 rfl ?_
  obtain ⟨x1, e2, h⟩ := ob h
  refine g_invV0 o (rc_self hk0) (by decide) ml_X0_44 kb_X0_windowStart kv_X0_windowStart rfl (c_X0_windowStart (cq X) (cD X) (cY X) (cB X) (d := d) (by omega) (rc_at (rc_self hk0)).2 e2) rfl rfl (by simp [cat_i, cat_l, cat_rf]) dX0_faultOf_2 ?_
  refine g_istore_n (i := 3) (ls' := [(3, .int x1), (0, va_rf (some a0)), (1, va_rf v1), (2, .int v2)]) o dX0_faultOf_5 rfl (ltL hL (by decide)) rfl ?_
  refine g_aload_n o dX0_faultOf_6 2 rfl ?_
  refine g_ifnull (tgt := 19) o dX0_faultOf_7 (by decide) (fun z => ?_) (fun z => ?_)
  · have h := (if_pos z).symm.trans h
    refine g_bipush (v := (-8 : Int32)) o dX0_faultOf_19 (by decide) ?_
    cases h
    exact g_iret o hr hE dX0_faultOf_21
  · have h := (if_neg z).symm.trans h
    refine g_aload_n o dX0_faultOf_10 2 rfl ?_
    refine g_iload_n o dX0_faultOf_11 0 rfl ?_
    refine g_iload_n o dX0_faultOf_12 3 rfl ?_
    obtain ⟨a3, e4, h⟩ := ob h
    obtain ⟨x5, e6, h⟩ := ob h
    refine g_invV0 o e4 (by decide) ml_X0_48 kb_X2_areTold kv_X2_areTold rfl (c_X2_areTold (cq X) (cD X) (cY X) (cB X) (d := d) (by omega) (rc_at e4).2 e6) rfl rfl (by simp [cat_i, cat_l, cat_rf]) dX0_faultOf_13 ?_
    refine g_if_ne (tgt := 22) o dX0_faultOf_16 (by decide) (fun z => ?_) (fun z => ?_)
    · have h := (if_neg z).symm.trans h
      refine g_aload_n o dX0_faultOf_22 2 rfl ?_
      refine g_iload_n o dX0_faultOf_23 0 rfl ?_
      refine g_iload_n o dX0_faultOf_24 3 rfl ?_
      obtain ⟨x7, e8, h⟩ := ob h
      refine g_invV0 o e4 (by decide) ml_X0_54 kb_X2_callsIn kv_X2_callsIn rfl (c_X2_callsIn (cq X) (cD X) (cY X) (cB X) (d := d) (by omega) (rc_at e4).2 e8) rfl rfl (by simp [cat_i, cat_l, cat_rf]) dX0_faultOf_25 ?_
      refine g_lstore (i := 4) (ls' := [(4, .long x7), (3, .int x1), (0, va_rf (some a0)), (1, va_rf v1), (2, .int v2)]) o dX0_faultOf_28 (ltL hL (by decide)) rfl ?_
      refine g_lload o dX0_faultOf_30 0 rfl ?_
      refine g_aload_n o dX0_faultOf_32 2 rfl ?_
      refine g_getI o fl_X0_28 (rc_self hk0) (by decide) rfl dX0_faultOf_33 ?_
      refine g_i2l o dX0_faultOf_36 ?_
      refine g_lcmp o dX0_faultOf_37 ?_
      refine g_if_ge (tgt := 44) o dX0_faultOf_38 (by decide) (fun z => ?_) (fun z => ?_)
      · have h := (if_pos z).symm.trans h
        refine g_aload_n o dX0_faultOf_44 3 rfl ?_
        refine g_iload_n o dX0_faultOf_45 1 rfl ?_
        refine g_iload_n o dX0_faultOf_46 4 rfl ?_
        obtain ⟨x9, e10, h⟩ := ob h
        refine g_invV0 o e4 (by decide) ml_X0_58 kb_X2_faultsIn kv_X2_faultsIn rfl (c_X2_faultsIn (cq X) (cD X) (cY X) (cB X) (d := d) (by omega) (rc_at e4).2 e10) rfl rfl (by simp [cat_i, cat_l, cat_rf]) dX0_faultOf_47 ?_
        refine g_lstore (i := 6) (ls' := [(6, .long x9), (4, .long x7), (3, .int x1), (0, va_rf (some a0)), (1, va_rf v1), (2, .int v2)]) o dX0_faultOf_50 (ltL hL (by decide)) rfl ?_
        refine g_lload o dX0_faultOf_52 1 rfl ?_
        refine g_lconst (v := (0 : Int64)) o dX0_faultOf_54 (by decide) ?_
        refine g_lcmp o dX0_faultOf_55 ?_
        refine g_if_le (tgt := 82) o dX0_faultOf_56 (by decide) (fun z => ?_) (fun z => ?_)
        · have h := (if_pos z).symm.trans h
          refine g_iconst (v := (0 : Int32)) o dX0_faultOf_82 (by decide) ?_
          cases h
          exact g_iret o hr hE dX0_faultOf_83
        · have h := (if_neg z).symm.trans h
          refine g_lload o dX0_faultOf_59 0 rfl ?_
          refine g_ldc2 (v := (10000 : Int64)) o kc_X0_61 dX0_faultOf_61 ?_
          refine g_lmul o dX0_faultOf_64 ?_
          refine g_aload_n o dX0_faultOf_65 3 rfl ?_
          refine g_getI o fl_X0_31 (rc_self hk0) (by decide) rfl dX0_faultOf_66 ?_
          refine g_i2l o dX0_faultOf_69 ?_
          refine g_lload o dX0_faultOf_70 1 rfl ?_
          refine g_lmul o dX0_faultOf_72 ?_
          refine g_lcmp o dX0_faultOf_73 ?_
          refine g_if_le (tgt := 82) o dX0_faultOf_74 (by decide) (fun z => ?_) (fun z => ?_)
          · have h := (if_pos z).symm.trans h
            refine g_iconst (v := (0 : Int32)) o dX0_faultOf_82 (by decide) ?_
            cases h
            exact g_iret o hr hE dX0_faultOf_83
          · have h := (if_neg z).symm.trans h
            refine g_bipush (v := (-10 : Int32)) o dX0_faultOf_77 (by decide) ?_
            refine g_goto (tgt := 83) o dX0_faultOf_79 (by decide) ?_
            cases h
            exact g_iret o hr hE dX0_faultOf_83
      · have h := (if_neg z).symm.trans h
        refine g_bipush (v := (-9 : Int32)) o dX0_faultOf_41 (by decide) ?_
        cases h
        exact g_iret o hr hE dX0_faultOf_43
    · have h := (if_pos z).symm.trans h
      refine g_bipush (v := (-8 : Int32)) o dX0_faultOf_19 (by decide) ?_
      cases h
      exact g_iret o hr hE dX0_faultOf_21
theorem c_X0_faultOf (l : Launch) (D : va_G) (Y : Nat → ClassId) (B : Nat) {d : Nat} {n : Nat} {K L : Nat → Nat} {fu : Nat} {M : Mm} {a0 : Nat} {v1 : (Option Nat)} {v2 : Int32} {r : Int32} (hd : 3 ≤ d) (hk0 : K a0 = 0) (h : f_X0_faultOf K L fu M a0 v1 v2 = some r) : mC l D Y B d yX0_faultOf cX0_faultOf 8 (some .int) [va_rf (some a0), va_rf v1, .int v2] n K L M n K L M (some (.int r)) 0 0 := by
  obtain ⟨d, rfl⟩ : ∃ e, d = e + 1 := ⟨d - 1, by omega⟩
  refine mk_met (by decide) (by simp [lgs_r, lgs_i, lgs_l, lgs_n]) (fun X e1 e2 e3 e4 o hL hr hnm hz hc hs hE => ?_)
  subst e1 e2 e3 e4
  rw [show lv_args 0 [va_rf (some a0), va_rf v1, .int v2] = [(0, va_rf (some a0)), (1, va_rf v1), (2, .int v2)] by simp [lva_r, lva_i, lva_l, lva_n]]
  exact w_X0_faultOf_0 o hL hr hk0 hE hd h
def f_X0_faultsLeft (K L : Nat → Nat) (fu : Nat) (M : Mm) (a0 : Nat) (v1 : (Option Nat)) (v2 : Int32) : Option Int32 :=
  Option.bind (f_X0_windowStart K L M a0 v2) (fun x1 =>
  Option.bind (rc K v1 2) (fun a3 =>
  Option.bind (f_X2_callsIn K L fu M a3 x1 v2) (fun x5 =>
  bn ((((mm_I M (32 * 0 + 2) a0).toInt64) * x5) / (10000 : Int64)) (fun x7 =>
  Option.bind (f_X2_faultsIn K L fu M a3 x1 v2) (fun x9 =>
  some ((x7 - x9).toInt32))))))
set_option maxHeartbeats 4000000 in
theorem w_X0_faultsLeft_0 {X : Cx} {d n : Nat} {K L : Nat → Nat} {fu : Nat} {M : Mm} {a0 : Nat} {r : Int32} {v1 : (Option Nat)} {v2 : Int32} (o : cOk X cX0_faultsLeft RX0 (d + 1)) (hL : cL X = 6) (hr : (ch X).sig.returnType = some .int) (hk0 : K a0 = 0) (hE : cE X n K L M (some (.int r)) 0 0) (hd : 3 ≤ d + 1) (h : f_X0_faultsLeft K L fu M a0 v1 v2 = some r) : gW X 0 0 n K L M 0 [(0, va_rf (some a0)), (1, va_rf v1), (2, .int v2)] [] := by
  unfold f_X0_faultsLeft at h
  refine g_aload_n o dX0_faultsLeft_0 0 rfl ?_
  refine g_iload_n o dX0_faultsLeft_1 2 rfl ?_
  obtain ⟨x1, e2, h⟩ := ob h
  refine g_invV0 o (rc_self hk0) (by decide) ml_X0_44 kb_X0_windowStart kv_X0_windowStart rfl (c_X0_windowStart (cq X) (cD X) (cY X) (cB X) (d := d) (by omega) (rc_at (rc_self hk0)).2 e2) rfl rfl (by simp [cat_i, cat_l, cat_rf]) dX0_faultsLeft_2 ?_
  refine g_istore_n (i := 3) (ls' := [(3, .int x1), (0, va_rf (some a0)), (1, va_rf v1), (2, .int v2)]) o dX0_faultsLeft_5 rfl (ltL hL (by decide)) rfl ?_
  refine g_aload_n o dX0_faultsLeft_6 1 rfl ?_
  refine g_getI o fl_X0_31 (rc_self hk0) (by decide) rfl dX0_faultsLeft_7 ?_
  refine g_i2l o dX0_faultsLeft_10 ?_
  refine g_aload_n o dX0_faultsLeft_11 2 rfl ?_
  refine g_iload_n o dX0_faultsLeft_12 0 rfl ?_
  refine g_iload_n o dX0_faultsLeft_13 3 rfl ?_
  obtain ⟨a3, e4, h⟩ := ob h
  obtain ⟨x5, e6, h⟩ := ob h
  refine g_invV0 o e4 (by decide) ml_X0_54 kb_X2_callsIn kv_X2_callsIn rfl (c_X2_callsIn (cq X) (cD X) (cY X) (cB X) (d := d) (by omega) (rc_at e4).2 e6) rfl rfl (by simp [cat_i, cat_l, cat_rf]) dX0_faultsLeft_14 ?_
  refine g_lmul o dX0_faultsLeft_17 ?_
  refine g_ldc2 (v := (10000 : Int64)) o kc_X0_61 dX0_faultsLeft_18 ?_
  refine g_ldiv o dX0_faultsLeft_21 (by decide) ?_
  obtain ⟨x7, e8, h⟩ := bn_at h
  refine g_topJ e8 ?_
  refine g_lstore (i := 4) (ls' := [(4, .long x7), (3, .int x1), (0, va_rf (some a0)), (1, va_rf v1), (2, .int v2)]) o dX0_faultsLeft_22 (ltL hL (by decide)) rfl ?_
  refine g_lload o dX0_faultsLeft_24 0 rfl ?_
  refine g_aload_n o dX0_faultsLeft_26 3 rfl ?_
  refine g_iload_n o dX0_faultsLeft_27 1 rfl ?_
  refine g_iload_n o dX0_faultsLeft_28 4 rfl ?_
  obtain ⟨x9, e10, h⟩ := ob h
  refine g_invV0 o e4 (by decide) ml_X0_58 kb_X2_faultsIn kv_X2_faultsIn rfl (c_X2_faultsIn (cq X) (cD X) (cY X) (cB X) (d := d) (by omega) (rc_at e4).2 e10) rfl rfl (by simp [cat_i, cat_l, cat_rf]) dX0_faultsLeft_29 ?_
  refine g_lsub o dX0_faultsLeft_32 ?_
  refine g_l2i o dX0_faultsLeft_33 ?_
  cases h
  exact g_iret o hr hE dX0_faultsLeft_34
theorem c_X0_faultsLeft (l : Launch) (D : va_G) (Y : Nat → ClassId) (B : Nat) {d : Nat} {n : Nat} {K L : Nat → Nat} {fu : Nat} {M : Mm} {a0 : Nat} {v1 : (Option Nat)} {v2 : Int32} {r : Int32} (hd : 3 ≤ d) (hk0 : K a0 = 0) (h : f_X0_faultsLeft K L fu M a0 v1 v2 = some r) : mC l D Y B d yX0_faultsLeft cX0_faultsLeft 6 (some .int) [va_rf (some a0), va_rf v1, .int v2] n K L M n K L M (some (.int r)) 0 0 := by
  obtain ⟨d, rfl⟩ : ∃ e, d = e + 1 := ⟨d - 1, by omega⟩
  refine mk_met (by decide) (by simp [lgs_r, lgs_i, lgs_l, lgs_n]) (fun X e1 e2 e3 e4 o hL hr hnm hz hc hs hE => ?_)
  subst e1 e2 e3 e4
  rw [show lv_args 0 [va_rf (some a0), va_rf v1, .int v2] = [(0, va_rf (some a0)), (1, va_rf v1), (2, .int v2)] by simp [lva_r, lva_i, lva_l, lva_n]]
  exact w_X0_faultsLeft_0 o hL hr hk0 hE hd h
def f_X0_noteSpent (K L : Nat → Nat) (a0 : Nat) (v1 : Int32) (M : Mm) : Option Mm :=
  bn (ms_I M (32 * 0 + 5) a0 ((v1 + (mm_I M (32 * 0 + 4) a0)) + (1 : Int32))) (fun M1 =>
  bn (ms_I M1 (32 * 0 + 6) a0 ((mm_I M1 (32 * 0 + 6) a0) + (1 : Int32))) (fun M3 =>
  some M3))
set_option maxHeartbeats 4000000 in
theorem w_X0_noteSpent_0 {X : Cx} {d n : Nat} {K L : Nat → Nat} {a0 : Nat} {r : Mm} {v1 : Int32} {M : Mm} (o : cOk X cX0_noteSpent RX0 d) (hL : cL X = 2) (hr : (ch X).sig.returnType = none) (hz : (cs X).heap.size + 0 = cB X + n) (hk0 : K a0 = 0) (hE : cE X n K L r none 0 0) (h : f_X0_noteSpent K L a0 v1 M = some r) : gW X 0 0 n K L M 0 [(0, va_rf (some a0)), (1, .int v1)] [] := by
  unfold f_X0_noteSpent at h
  refine g_aload_n o dX0_noteSpent_0 0 rfl ?_
  refine g_iload_n o dX0_noteSpent_1 1 rfl ?_
  refine g_aload_n o dX0_noteSpent_2 0 rfl ?_
  refine g_getI o fl_X0_15 (rc_self hk0) (by decide) rfl dX0_noteSpent_3 ?_
  refine g_iadd o dX0_noteSpent_6 ?_
  refine g_iconst (v := (1 : Int32)) o dX0_noteSpent_7 (by decide) ?_
  refine g_iadd o dX0_noteSpent_8 ?_
  refine g_putI o hz fl_X0_19 (rc_self hk0) (by decide) rfl rfl rfl  dX0_noteSpent_9 ?_
  obtain ⟨M1, e2, h⟩ := bn_at h
  refine g_mem e2 ?_
  refine g_aload_n o dX0_noteSpent_12 0 rfl ?_
  refine g_dup o dX0_noteSpent_13 (cat_rf _) ?_
  refine g_getI o fl_X0_22 (rc_self hk0) (by decide) rfl dX0_noteSpent_14 ?_
  refine g_iconst (v := (1 : Int32)) o dX0_noteSpent_17 (by decide) ?_
  refine g_iadd o dX0_noteSpent_18 ?_
  refine g_putI o hz fl_X0_22 (rc_self hk0) (by decide) rfl rfl rfl  dX0_noteSpent_19 ?_
  obtain ⟨M3, e4, h⟩ := bn_at h
  refine g_mem e4 ?_
  cases h
  exact g_vret o hr hE dX0_noteSpent_22
theorem c_X0_noteSpent (l : Launch) (D : va_G) (Y : Nat → ClassId) (B : Nat) {d : Nat} {n : Nat} {K L : Nat → Nat} {M : Mm} {a0 : Nat} {v1 : Int32} {r : Mm} (hd : 0 ≤ d) (hk0 : K a0 = 0) (h : f_X0_noteSpent K L a0 v1 M = some r) : mC l D Y B d yX0_noteSpent cX0_noteSpent 2 (none) [va_rf (some a0), .int v1] n K L M n K L r none 0 0 := by
  refine mk_met (by decide) (by simp [lgs_r, lgs_i, lgs_l, lgs_n]) (fun X e1 e2 e3 e4 o hL hr hnm hz hc hs hE => ?_)
  subst e1 e2 e3 e4
  rw [show lv_args 0 [va_rf (some a0), .int v1] = [(0, va_rf (some a0)), (1, .int v1)] by simp [lva_r, lva_i, lva_l, lva_n]]
  exact w_X0_noteSpent_0 o hL hr hz hk0 hE h
def f_X1_become (K L : Nat → Nat) (a0 : Nat) (v1 : Int32) (v2 : Int32) (v3 : Int32) (v4 : Int32) (M : Mm) : Option Mm :=
  bn (ms_I M (32 * 1 + 0) a0 v1) (fun M1 =>
  bn (ms_I M1 (32 * 1 + 1) a0 v2) (fun M3 =>
  bn (ms_I M3 (32 * 1 + 2) a0 v3) (fun M5 =>
  bn (ms_I M5 (32 * 1 + 3) a0 v4) (fun M7 =>
  some M7))))
set_option maxHeartbeats 4000000 in
theorem w_X1_become_0 {X : Cx} {d n : Nat} {K L : Nat → Nat} {a0 : Nat} {r : Mm} {v1 : Int32} {v2 : Int32} {v3 : Int32} {v4 : Int32} {M : Mm} (o : cOk X cX1_become RX1 d) (hL : cL X = 5) (hr : (ch X).sig.returnType = none) (hz : (cs X).heap.size + 0 = cB X + n) (hk0 : K a0 = 1) (hE : cE X n K L r none 0 0) (h : f_X1_become K L a0 v1 v2 v3 v4 M = some r) : gW X 0 0 n K L M 0 [(0, va_rf (some a0)), (1, .int v1), (2, .int v2), (3, .int v3), (4, .int v4)] [] := by
  unfold f_X1_become at h
  refine g_aload_n o dX1_become_0 0 rfl ?_
  refine g_iload_n o dX1_become_1 1 rfl ?_
  refine g_putI o hz fl_X1_15 (rc_self hk0) (by decide) rfl rfl rfl  dX1_become_2 ?_
  obtain ⟨M1, e2, h⟩ := bn_at h
  refine g_mem e2 ?_
  refine g_aload_n o dX1_become_5 0 rfl ?_
  refine g_iload_n o dX1_become_6 2 rfl ?_
  refine g_putI o hz fl_X1_19 (rc_self hk0) (by decide) rfl rfl rfl  dX1_become_7 ?_
  obtain ⟨M3, e4, h⟩ := bn_at h
  refine g_mem e4 ?_
  refine g_aload_n o dX1_become_10 0 rfl ?_
  refine g_iload_n o dX1_become_11 3 rfl ?_
  refine g_putI o hz fl_X1_22 (rc_self hk0) (by decide) rfl rfl rfl  dX1_become_12 ?_
  obtain ⟨M5, e6, h⟩ := bn_at h
  refine g_mem e6 ?_
  refine g_aload_n o dX1_become_15 0 rfl ?_
  refine g_iload o dX1_become_16 4 rfl ?_
  refine g_putI o hz fl_X1_25 (rc_self hk0) (by decide) rfl rfl rfl  dX1_become_18 ?_
  obtain ⟨M7, e8, h⟩ := bn_at h
  refine g_mem e8 ?_
  cases h
  exact g_vret o hr hE dX1_become_21
theorem c_X1_become (l : Launch) (D : va_G) (Y : Nat → ClassId) (B : Nat) {d : Nat} {n : Nat} {K L : Nat → Nat} {M : Mm} {a0 : Nat} {v1 : Int32} {v2 : Int32} {v3 : Int32} {v4 : Int32} {r : Mm} (hd : 0 ≤ d) (hk0 : K a0 = 1) (h : f_X1_become K L a0 v1 v2 v3 v4 M = some r) : mC l D Y B d yX1_become cX1_become 5 (none) [va_rf (some a0), .int v1, .int v2, .int v3, .int v4] n K L M n K L r none 0 0 := by
  refine mk_met (by decide) (by simp [lgs_r, lgs_i, lgs_l, lgs_n]) (fun X e1 e2 e3 e4 o hL hr hnm hz hc hs hE => ?_)
  subst e1 e2 e3 e4
  rw [show lv_args 0 [va_rf (some a0), .int v1, .int v2, .int v3, .int v4] = [(0, va_rf (some a0)), (1, .int v1), (2, .int v2), (3, .int v3), (4, .int v4)] by simp [lva_r, lva_i, lva_l, lva_n]]
  exact w_X1_become_0 o hL hr hz hk0 hE h
def f_X1_markOf (K L : Nat → Nat) (M : Mm) (a0 : Nat) (v1 : Int32) : Option Int32 :=
  if v1 = (0 : Int32) then
    some (mm_I M (32 * 1 + 1) a0)
  else
    if v1 = (1 : Int32) then
      some (mm_I M (32 * 1 + 2) a0)
    else
      some (mm_I M (32 * 1 + 3) a0)
set_option maxHeartbeats 4000000 in
theorem w_X1_markOf_0 {X : Cx} {d n : Nat} {K L : Nat → Nat} {M : Mm} {a0 : Nat} {r : Int32} {v1 : Int32} (o : cOk X cX1_markOf RX1 d) (hL : cL X = 2) (hr : (ch X).sig.returnType = some .int) (hk0 : K a0 = 1) (hE : cE X n K L M (some (.int r)) 0 0) (h : f_X1_markOf K L M a0 v1 = some r) : gW X 0 0 n K L M 0 [(0, va_rf (some a0)), (1, .int v1)] [] := by
  unfold f_X1_markOf at h
  refine g_iload_n o dX1_markOf_0 1 rfl ?_
  by_cases z0 : v1 = (0 : Int32)
  · have h := (if_pos z0).symm.trans h
    refine g_lookup (tgt := 28) o dX1_markOf_1 (by decide) (by first | (rw [z0]; done) | (rw [z0]; rfl)) (by decide) ?_
    refine g_aload_n o dX1_markOf_28 0 rfl ?_
    refine g_getI o fl_X1_19 (rc_self hk0) (by decide) rfl dX1_markOf_29 ?_
    cases h
    exact g_iret o hr hE dX1_markOf_32
  · have h := (if_neg z0).symm.trans h
    by_cases z1 : v1 = (1 : Int32)
    · have h := (if_pos z1).symm.trans h
      refine g_lookup (tgt := 33) o dX1_markOf_1 (by decide) (by first | (rw [z1]; done) | (rw [z1]; rfl)) (by decide) ?_
      refine g_aload_n o dX1_markOf_33 0 rfl ?_
      refine g_getI o fl_X1_22 (rc_self hk0) (by decide) rfl dX1_markOf_34 ?_
      cases h
      exact g_iret o hr hE dX1_markOf_37
    · have h := (if_neg z1).symm.trans h
      refine g_lookup (tgt := 38) o dX1_markOf_1 (by decide) (ls_d2 z0 z1) (by decide) ?_
      refine g_aload_n o dX1_markOf_38 0 rfl ?_
      refine g_getI o fl_X1_25 (rc_self hk0) (by decide) rfl dX1_markOf_39 ?_
      cases h
      exact g_iret o hr hE dX1_markOf_42
theorem c_X1_markOf (l : Launch) (D : va_G) (Y : Nat → ClassId) (B : Nat) {d : Nat} {n : Nat} {K L : Nat → Nat} {M : Mm} {a0 : Nat} {v1 : Int32} {r : Int32} (hd : 0 ≤ d) (hk0 : K a0 = 1) (h : f_X1_markOf K L M a0 v1 = some r) : mC l D Y B d yX1_markOf cX1_markOf 2 (some .int) [va_rf (some a0), .int v1] n K L M n K L M (some (.int r)) 0 0 := by
  refine mk_met (by decide) (by simp [lgs_r, lgs_i, lgs_l, lgs_n]) (fun X e1 e2 e3 e4 o hL hr hnm hz hc hs hE => ?_)
  subst e1 e2 e3 e4
  rw [show lv_args 0 [va_rf (some a0), .int v1] = [(0, va_rf (some a0)), (1, .int v1)] by simp [lva_r, lva_i, lva_l, lva_n]]
  exact w_X1_markOf_0 o hL hr hk0 hE h
def f_X11_within  (v0 : Int32) (v1 : Int32) : Option Int32 :=
  if v0 < 0 then
    some (0 : Int32)
  else
    if v1 < v0 then
      some (0 : Int32)
    else
      some (1 : Int32)
set_option maxHeartbeats 4000000 in
theorem w_X11_within_0 {X : Cx} {d n : Nat} {K L : Nat → Nat} {M : Mm} {r : Int32} {v0 : Int32} {v1 : Int32} (o : cOk X cX11_within RX11 d) (hL : cL X = 2) (hr : (ch X).sig.returnType = some .boolean) (hE : cE X n K L M (some (.int r)) 0 0) (h : f_X11_within  v0 v1 = some r) : gW X 0 0 n K L M 0 [(0, .int v0), (1, .int v1)] [] := by
  unfold f_X11_within at h
  refine g_iload_n o dX11_within_0 0 rfl ?_
  refine g_if_lt (tgt := 13) o dX11_within_1 (by decide) (fun z => ?_) (fun z => ?_)
  · have h := (if_pos z).symm.trans h
    refine g_iconst (v := (0 : Int32)) o dX11_within_13 (by decide) ?_
    cases h
    exact g_zret o hr (by decide) hE dX11_within_14
  · have h := (if_neg z).symm.trans h
    refine g_iload_n o dX11_within_4 0 rfl ?_
    refine g_iload_n o dX11_within_5 1 rfl ?_
    refine g_icmp_gt (tgt := 13) o dX11_within_6 (by decide) (fun z => ?_) (fun z => ?_)
    · have h := (if_pos z).symm.trans h
      refine g_iconst (v := (0 : Int32)) o dX11_within_13 (by decide) ?_
      cases h
      exact g_zret o hr (by decide) hE dX11_within_14
    · have h := (if_neg z).symm.trans h
      refine g_iconst (v := (1 : Int32)) o dX11_within_9 (by decide) ?_
      refine g_goto (tgt := 14) o dX11_within_10 (by decide) ?_
      cases h
      exact g_zret o hr (by decide) hE dX11_within_14
theorem c_X11_within (l : Launch) (D : va_G) (Y : Nat → ClassId) (B : Nat) {d : Nat} {n : Nat} {K L : Nat → Nat} {M : Mm} {v0 : Int32} {v1 : Int32} {r : Int32} (hd : 0 ≤ d) (h : f_X11_within  v0 v1 = some r) : mC l D Y B d yX11_within cX11_within 2 (some .boolean) [.int v0, .int v1] n K L M n K L M (some (.int r)) 0 0 := by
  refine mk_met (by decide) (by simp [lgs_r, lgs_i, lgs_l, lgs_n]) (fun X e1 e2 e3 e4 o hL hr hnm hz hc hs hE => ?_)
  subst e1 e2 e3 e4
  rw [show lv_args 0 [.int v0, .int v1] = [(0, .int v0), (1, .int v1)] by simp [lva_r, lva_i, lva_l, lva_n]]
  exact w_X11_within_0 o hL hr hE h
def f_X8_placeAt (K L : Nat → Nat) (M : Mm) (a0 : Nat) (v1 : Int32) : Option (Option Nat) :=
  Option.bind (f_X11_within v1 (15 : Int32)) (fun x1 =>
  if x1 = 0 then
    some none
  else
    Option.bind (rx K L (mm_R M (32 * 8 + 0) a0) 17 v1) (fun a3 =>
    some (mm_C M a3 v1.toNatClampNeg)))
set_option maxHeartbeats 4000000 in
theorem w_X8_placeAt_0 {X : Cx} {d n : Nat} {K L : Nat → Nat} {M : Mm} {a0 : Nat} {r : (Option Nat)} {v1 : Int32} (o : cOk X cX8_placeAt RX8 (d + 1)) (hL : cL X = 2) (hr : (ch X).sig.returnType = some (.object RX4)) (hk0 : K a0 = 8) (hE : cE X n K L M (some (va_rf r)) 0 0) (hd : 1 ≤ d + 1) (h : f_X8_placeAt K L M a0 v1 = some r) : gW X 0 0 n K L M 0 [(0, va_rf (some a0)), (1, .int v1)] [] := by
  unfold f_X8_placeAt at h
  refine g_iload_n o dX8_placeAt_0 1 rfl ?_
  refine g_bipush (v := (15 : Int32)) o dX8_placeAt_1 (by decide) ?_
  obtain ⟨x1, e2, h⟩ := ob h
  refine g_invSN0 o mn_X8_18 kb_X11_within ks_X11_within (c_X11_within (cq X) (cD X) (cY X) (cB X) (d := d) (by omega) e2) rfl rfl (by simp [cat_i, cat_l, cat_rf]) dX8_placeAt_3 ?_
  refine g_if_eq (tgt := 18) o dX8_placeAt_6 (by decide) (fun z => ?_) (fun z => ?_)
  · have h := (if_pos z).symm.trans h
    refine g_null o dX8_placeAt_18 ?_
    cases h
    exact g_aret o hr hE dX8_placeAt_19
  · have h := (if_neg z).symm.trans h
    refine g_aload_n o dX8_placeAt_9 0 rfl ?_
    refine g_getR o fl_X8_11 (rc_self hk0) (by decide) rfl dX8_placeAt_10 ?_
    refine g_iload_n o dX8_placeAt_13 1 rfl ?_
    obtain ⟨a3, e4, h⟩ := ob h
    refine g_aald o (by decide) e4 dX8_placeAt_14 ?_
    refine g_goto (tgt := 19) o dX8_placeAt_15 (by decide) ?_
    cases h
    exact g_aret o hr hE dX8_placeAt_19
theorem c_X8_placeAt (l : Launch) (D : va_G) (Y : Nat → ClassId) (B : Nat) {d : Nat} {n : Nat} {K L : Nat → Nat} {M : Mm} {a0 : Nat} {v1 : Int32} {r : (Option Nat)} (hd : 1 ≤ d) (hk0 : K a0 = 8) (h : f_X8_placeAt K L M a0 v1 = some r) : mC l D Y B d yX8_placeAt cX8_placeAt 2 (some (.object RX4)) [va_rf (some a0), .int v1] n K L M n K L M (some (va_rf r)) 0 0 := by
  obtain ⟨d, rfl⟩ : ∃ e, d = e + 1 := ⟨d - 1, by omega⟩
  refine mk_met (by decide) (by simp [lgs_r, lgs_i, lgs_l, lgs_n]) (fun X e1 e2 e3 e4 o hL hr hnm hz hc hs hE => ?_)
  subst e1 e2 e3 e4
  rw [show lv_args 0 [va_rf (some a0), .int v1] = [(0, va_rf (some a0)), (1, .int v1)] by simp [lva_r, lva_i, lva_l, lva_n]]
  exact w_X8_placeAt_0 o hL hr hk0 hE hd h
def f_X8_switchAt (K L : Nat → Nat) (M : Mm) (a0 : Nat) (v1 : Int32) : Option (Option Nat) :=
  Option.bind (f_X8_placeAt K L M a0 v1) (fun x1 =>
  if x1 = none then
    some none
  else
    Option.bind (rc K x1 4) (fun a3 =>
    some (mm_R M (32 * 4 + 0) a3)))
set_option maxHeartbeats 4000000 in
theorem w_X8_switchAt_0 {X : Cx} {d n : Nat} {K L : Nat → Nat} {M : Mm} {a0 : Nat} {r : (Option Nat)} {v1 : Int32} (o : cOk X cX8_switchAt RX8 (d + 1)) (hL : cL X = 3) (hr : (ch X).sig.returnType = some (.object RX9)) (hk0 : K a0 = 8) (hE : cE X n K L M (some (va_rf r)) 0 0) (hd : 2 ≤ d + 1) (h : f_X8_switchAt K L M a0 v1 = some r) : gW X 0 0 n K L M 0 [(0, va_rf (some a0)), (1, .int v1)] [] := by
  unfold f_X8_switchAt at h
  refine g_aload_n o dX8_switchAt_0 0 rfl ?_
  refine g_iload_n o dX8_switchAt_1 1 rfl ?_
  obtain ⟨x1, e2, h⟩ := ob h
  refine g_invV0 o (rc_self hk0) (by decide) ml_X8_22 kb_X8_placeAt kv_X8_placeAt rfl (c_X8_placeAt (cq X) (cD X) (cY X) (cB X) (d := d) (by omega) (rc_at (rc_self hk0)).2 e2) rfl rfl (by simp [cat_i, cat_l, cat_rf]) dX8_switchAt_2 ?_
  refine g_astore_n (i := 2) (ls' := [(2, va_rf x1), (0, va_rf (some a0)), (1, .int v1)]) o dX8_switchAt_5 rfl (ltL hL (by decide)) rfl ?_
  refine g_aload_n o dX8_switchAt_6 0 rfl ?_
  refine g_ifnonnull (tgt := 14) o dX8_switchAt_7 (by decide) (fun z => ?_) (fun z => ?_)
  · have h := (if_neg z).symm.trans h
    refine g_aload_n o dX8_switchAt_14 0 rfl ?_
    obtain ⟨a3, e4, h⟩ := ob h
    refine g_getR o fl_X8_26 e4 (by decide) rfl dX8_switchAt_15 ?_
    cases h
    exact g_aret o hr hE dX8_switchAt_18
  · have h := (if_pos z).symm.trans h
    refine g_null o dX8_switchAt_10 ?_
    refine g_goto (tgt := 18) o dX8_switchAt_11 (by decide) ?_
    cases h
    exact g_aret o hr hE dX8_switchAt_18
theorem c_X8_switchAt (l : Launch) (D : va_G) (Y : Nat → ClassId) (B : Nat) {d : Nat} {n : Nat} {K L : Nat → Nat} {M : Mm} {a0 : Nat} {v1 : Int32} {r : (Option Nat)} (hd : 2 ≤ d) (hk0 : K a0 = 8) (h : f_X8_switchAt K L M a0 v1 = some r) : mC l D Y B d yX8_switchAt cX8_switchAt 3 (some (.object RX9)) [va_rf (some a0), .int v1] n K L M n K L M (some (va_rf r)) 0 0 := by
  obtain ⟨d, rfl⟩ : ∃ e, d = e + 1 := ⟨d - 1, by omega⟩
  refine mk_met (by decide) (by simp [lgs_r, lgs_i, lgs_l, lgs_n]) (fun X e1 e2 e3 e4 o hL hr hnm hz hc hs hE => ?_)
  subst e1 e2 e3 e4
  rw [show lv_args 0 [va_rf (some a0), .int v1] = [(0, va_rf (some a0)), (1, .int v1)] by simp [lva_r, lva_i, lva_l, lva_n]]
  exact w_X8_switchAt_0 o hL hr hk0 hE hd h
def f_X1_begin_7b (K L : Nat → Nat) (fu : Nat) (k7 : (Option Nat) → Int32 → Mm → Option Mm) (a0 : Nat) (v1 : (Option Nat)) (v2 : Int32) (M : Mm) : Option Mm :=
  if (16 : Int32) ≤ v2 then
    some M
  else
    Option.bind (rc K v1 8) (fun a1 =>
    Option.bind (f_X8_switchAt K L M a1 v2) (fun x3 =>
    if x3 = none then
      k7 v1 (v2 + 1) M
    else
      Option.bind (rc K x3 9) (fun a5 =>
      if (mm_I M (32 * 9 + 0) a5) = (4 : Int32) then
        if (mm_I M (32 * 9 + 8) a5) = 0 then
          k7 v1 (v2 + 1) M
        else
          bn (ms_I M (32 * 1 + 5) a0 ((mm_I M (32 * 1 + 5) a0) ||| ((1 : Int32) <<< (v2 &&& 31)))) (fun M7 =>
          k7 v1 (v2 + 1) M7)
      else
        k7 v1 (v2 + 1) M)))
def f_X1_begin_7 (K L : Nat → Nat) (fu : Nat) (a0 : Nat) : Nat → (Option Nat) → Int32 → Mm → Option Mm
  | 0, _, _, _ => none
  | g + 1, v1, v2, M => f_X1_begin_7b K L fu (f_X1_begin_7 K L fu a0 g) a0 v1 v2 M
set_option maxHeartbeats 4000000 in
theorem w_X1_begin_7b {X : Cx} {d n : Nat} {K L : Nat → Nat} {fu : Nat} {a0 : Nat} {r : Mm} {k7 : (Option Nat) → Int32 → Mm → Option Mm} {v1 : (Option Nat)} {v2 : Int32} {M : Mm} (o : cOk X cX1_begin RX1 (d + 1)) (hL : cL X = 4) (hr : (ch X).sig.returnType = none) (hz : (cs X).heap.size + 0 = cB X + n) (hk0 : K a0 = 1) (hE : cE X n K L r none 0 0) (hk7 : ∀ (v1 : (Option Nat)) (v2 : Int32) (M : Mm), k7 v1 v2 M = some r → gW X 0 0 n K L M 7 [(0, va_rf (some a0)), (1, va_rf v1), (2, .int v2)] []) (hd : 3 ≤ d + 1) (h : f_X1_begin_7b K L fu k7 a0 v1 v2 M = some r) : gW X 0 0 n K L M 7 [(0, va_rf (some a0)), (1, va_rf v1), (2, .int v2)] [] := by
  unfold f_X1_begin_7b at h
  refine g_iload_n o dX1_begin_7 2 rfl ?_
  refine g_bipush (v := (16 : Int32)) o dX1_begin_8 (by decide) ?_
  refine g_icmp_ge (tgt := 56) o dX1_begin_10 (by decide) (fun z => ?_) (fun z => ?_)
  · have h := (if_pos z).symm.trans h
    cases h
    exact g_vret o hr hE dX1_begin_56
  · have h := (if_neg z).symm.trans h
    refine g_aload_n o dX1_begin_13 1 rfl ?_
    refine g_iload_n o dX1_begin_14 2 rfl ?_
    obtain ⟨a1, e2, h⟩ := ob h
    obtain ⟨x3, e4, h⟩ := ob h
    refine g_invV0 o e2 (by decide) ml_X1_31 kb_X8_switchAt kv_X8_switchAt rfl (c_X8_switchAt (cq X) (cD X) (cY X) (cB X) (d := d) (by omega) (rc_at e2).2 e4) rfl rfl (by simp [cat_i, cat_l, cat_rf]) dX1_begin_15 ?_
    refine g_astore_n (i := 3) (ls' := [(3, va_rf x3), (0, va_rf (some a0)), (1, va_rf v1), (2, .int v2)]) o dX1_begin_18 rfl (ltL hL (by decide)) rfl ?_
    refine g_aload_n o dX1_begin_19 0 rfl ?_
    refine g_ifnull (tgt := 50) o dX1_begin_20 (by decide) (fun z => ?_) (fun z => ?_)
    · have h := (if_pos z).symm.trans h
      refine g_iinc (i := 2) (v := v2 + 1) (ls' := [(2, .int (v2 + 1)), (3, va_rf x3), (0, va_rf (some a0)), (1, va_rf v1)]) o dX1_begin_50 3 rfl (by first | rfl | (congr 1)) (ltL hL (by decide)) (by simp [cat_rf]) ?_
      refine g_goto (tgt := 7) o dX1_begin_53 (by decide) ?_
      refine gsub [2, 3, 0] rfl ?_
      exact hk7 _ _ _ h
    · have h := (if_neg z).symm.trans h
      refine g_aload_n o dX1_begin_23 0 rfl ?_
      obtain ⟨a5, e6, h⟩ := ob h
      refine g_getI o fl_X1_37 e6 (by decide) rfl dX1_begin_24 ?_
      refine g_iconst (v := (4 : Int32)) o dX1_begin_27 (by decide) ?_
      refine g_icmp_ne (tgt := 50) o dX1_begin_28 (by decide) (fun z => ?_) (fun z => ?_)
      · have h := (if_neg z).symm.trans h
        refine g_iinc (i := 2) (v := v2 + 1) (ls' := [(2, .int (v2 + 1)), (3, va_rf x3), (0, va_rf (some a0)), (1, va_rf v1)]) o dX1_begin_50 3 rfl (by first | rfl | (congr 1)) (ltL hL (by decide)) (by simp [cat_rf]) ?_
        refine g_goto (tgt := 7) o dX1_begin_53 (by decide) ?_
        refine gsub [2, 3, 0] rfl ?_
        exact hk7 _ _ _ h
      · have h := (if_pos z).symm.trans h
        refine g_aload_n o dX1_begin_31 0 rfl ?_
        refine g_getI o fl_X1_42 e6 (by decide) rfl dX1_begin_32 ?_
        refine g_if_eq (tgt := 50) o dX1_begin_35 (by decide) (fun z => ?_) (fun z => ?_)
        · have h := (if_pos z).symm.trans h
          refine g_iinc (i := 2) (v := v2 + 1) (ls' := [(2, .int (v2 + 1)), (3, va_rf x3), (0, va_rf (some a0)), (1, va_rf v1)]) o dX1_begin_50 3 rfl (by first | rfl | (congr 1)) (ltL hL (by decide)) (by simp [cat_rf]) ?_
          refine g_goto (tgt := 7) o dX1_begin_53 (by decide) ?_
          refine gsub [2, 3, 0] rfl ?_
          exact hk7 _ _ _ h
        · have h := (if_neg z).symm.trans h
          refine g_aload_n o dX1_begin_38 1 rfl ?_
          refine g_dup o dX1_begin_39 (cat_rf _) ?_
          refine g_getI o fl_X1_28 (rc_self hk0) (by decide) rfl dX1_begin_40 ?_
          refine g_iconst (v := (1 : Int32)) o dX1_begin_43 (by decide) ?_
          refine g_iload_n o dX1_begin_44 3 rfl ?_
          refine g_ishl o dX1_begin_45 ?_
          refine g_ior o dX1_begin_46 ?_
          refine g_putI o hz fl_X1_28 (rc_self hk0) (by decide) rfl rfl rfl  dX1_begin_47 ?_
          obtain ⟨M7, e8, h⟩ := bn_at h
          refine g_mem e8 ?_
          refine g_iinc (i := 2) (v := v2 + 1) (ls' := [(2, .int (v2 + 1)), (3, va_rf x3), (0, va_rf (some a0)), (1, va_rf v1)]) o dX1_begin_50 3 rfl (by first | rfl | (congr 1)) (ltL hL (by decide)) (by simp [cat_rf]) ?_
          refine g_goto (tgt := 7) o dX1_begin_53 (by decide) ?_
          refine gsub [2, 3, 0] rfl ?_
          exact hk7 _ _ _ h
theorem w_X1_begin_7_n {X : Cx} {d n : Nat} {K L : Nat → Nat} {fu : Nat} {a0 : Nat} {r : Mm} (o : cOk X cX1_begin RX1 (d + 1)) (hL : cL X = 4) (hr : (ch X).sig.returnType = none) (hz : (cs X).heap.size + 0 = cB X + n) (hk0 : K a0 = 1) (hE : cE X n K L r none 0 0) (hd : 3 ≤ d + 1) : ∀ (g : Nat) (v1 : (Option Nat)) (v2 : Int32) (M : Mm), f_X1_begin_7 K L fu a0 g v1 v2 M = some r → gW X 0 0 n K L M 7 [(0, va_rf (some a0)), (1, va_rf v1), (2, .int v2)] []
  | 0, _, _, _, h => by cases h
  | g + 1, v1, v2, M, h => w_X1_begin_7b o hL hr hz hk0 hE (w_X1_begin_7_n o hL hr hz hk0 hE hd g) hd h
theorem w_X1_begin_7 {X : Cx} {d n : Nat} {K L : Nat → Nat} {fu : Nat} {a0 : Nat} {r : Mm} {v1 : (Option Nat)} {v2 : Int32} {M : Mm} (o : cOk X cX1_begin RX1 (d + 1)) (hL : cL X = 4) (hr : (ch X).sig.returnType = none) (hz : (cs X).heap.size + 0 = cB X + n) (hk0 : K a0 = 1) (hE : cE X n K L r none 0 0) (hd : 3 ≤ d + 1) (h : f_X1_begin_7 K L fu a0 fu v1 v2 M = some r) : gW X 0 0 n K L M 7 [(0, va_rf (some a0)), (1, va_rf v1), (2, .int v2)] [] := w_X1_begin_7_n o hL hr hz hk0 hE hd fu v1 v2 M h
def f_X1_begin (K L : Nat → Nat) (fu : Nat) (a0 : Nat) (v1 : (Option Nat)) (M : Mm) : Option Mm :=
  bn (ms_I M (32 * 1 + 5) a0 (0 : Int32)) (fun M1 =>
  f_X1_begin_7 K L fu a0 fu v1 (0 : Int32) M1)
set_option maxHeartbeats 4000000 in
theorem w_X1_begin_0 {X : Cx} {d n : Nat} {K L : Nat → Nat} {fu : Nat} {a0 : Nat} {r : Mm} {v1 : (Option Nat)} {M : Mm} (o : cOk X cX1_begin RX1 (d + 1)) (hL : cL X = 4) (hr : (ch X).sig.returnType = none) (hz : (cs X).heap.size + 0 = cB X + n) (hk0 : K a0 = 1) (hE : cE X n K L r none 0 0) (hd : 3 ≤ d + 1) (h : f_X1_begin K L fu a0 v1 M = some r) : gW X 0 0 n K L M 0 [(0, va_rf (some a0)), (1, va_rf v1)] [] := by
  unfold f_X1_begin at h
  refine g_aload_n o dX1_begin_0 0 rfl ?_
  refine g_iconst (v := (0 : Int32)) o dX1_begin_1 (by decide) ?_
  refine g_putI o hz fl_X1_28 (rc_self hk0) (by decide) rfl rfl rfl  dX1_begin_2 ?_
  obtain ⟨M1, e2, h⟩ := bn_at h
  refine g_mem e2 ?_
  refine g_iconst (v := (0 : Int32)) o dX1_begin_5 (by decide) ?_
  refine g_istore_n (i := 2) (ls' := [(2, .int (0 : Int32)), (0, va_rf (some a0)), (1, va_rf v1)]) o dX1_begin_6 rfl (ltL hL (by decide)) (by simp [cat_rf]) ?_
  refine gsub [1, 2, 0] rfl ?_
  exact w_X1_begin_7 o hL hr hz hk0 hE hd h
theorem c_X1_begin (l : Launch) (D : va_G) (Y : Nat → ClassId) (B : Nat) {d : Nat} {n : Nat} {K L : Nat → Nat} {fu : Nat} {M : Mm} {a0 : Nat} {v1 : (Option Nat)} {r : Mm} (hd : 3 ≤ d) (hk0 : K a0 = 1) (h : f_X1_begin K L fu a0 v1 M = some r) : mC l D Y B d yX1_begin cX1_begin 4 (none) [va_rf (some a0), va_rf v1] n K L M n K L r none 0 0 := by
  obtain ⟨d, rfl⟩ : ∃ e, d = e + 1 := ⟨d - 1, by omega⟩
  refine mk_met (by decide) (by simp [lgs_r, lgs_i, lgs_l, lgs_n]) (fun X e1 e2 e3 e4 o hL hr hnm hz hc hs hE => ?_)
  subst e1 e2 e3 e4
  rw [show lv_args 0 [va_rf (some a0), va_rf v1] = [(0, va_rf (some a0)), (1, va_rf v1)] by simp [lva_r, lva_i, lva_l, lva_n]]
  exact w_X1_begin_0 o hL hr hz hk0 hE hd h
def f_X1_ask (K L : Nat → Nat) (a0 : Nat) (v1 : Int32) (M : Mm) : Option Mm :=
  bn (ms_I M (32 * 1 + 4) a0 v1) (fun M1 =>
  bn (ms_I M1 (32 * 1 + 6) a0 (0 : Int32)) (fun M3 =>
  some M3))
set_option maxHeartbeats 4000000 in
theorem w_X1_ask_0 {X : Cx} {d n : Nat} {K L : Nat → Nat} {a0 : Nat} {r : Mm} {v1 : Int32} {M : Mm} (o : cOk X cX1_ask RX1 d) (hL : cL X = 2) (hr : (ch X).sig.returnType = none) (hz : (cs X).heap.size + 0 = cB X + n) (hk0 : K a0 = 1) (hE : cE X n K L r none 0 0) (h : f_X1_ask K L a0 v1 M = some r) : gW X 0 0 n K L M 0 [(0, va_rf (some a0)), (1, .int v1)] [] := by
  unfold f_X1_ask at h
  refine g_aload_n o dX1_ask_0 0 rfl ?_
  refine g_iload_n o dX1_ask_1 1 rfl ?_
  refine g_putI o hz fl_X1_46 (rc_self hk0) (by decide) rfl rfl rfl  dX1_ask_2 ?_
  obtain ⟨M1, e2, h⟩ := bn_at h
  refine g_mem e2 ?_
  refine g_aload_n o dX1_ask_5 0 rfl ?_
  refine g_iconst (v := (0 : Int32)) o dX1_ask_6 (by decide) ?_
  refine g_putI o hz fl_X1_49 (rc_self hk0) (by decide) rfl rfl rfl  dX1_ask_7 ?_
  obtain ⟨M3, e4, h⟩ := bn_at h
  refine g_mem e4 ?_
  cases h
  exact g_vret o hr hE dX1_ask_10
theorem c_X1_ask (l : Launch) (D : va_G) (Y : Nat → ClassId) (B : Nat) {d : Nat} {n : Nat} {K L : Nat → Nat} {M : Mm} {a0 : Nat} {v1 : Int32} {r : Mm} (hd : 0 ≤ d) (hk0 : K a0 = 1) (h : f_X1_ask K L a0 v1 M = some r) : mC l D Y B d yX1_ask cX1_ask 2 (none) [va_rf (some a0), .int v1] n K L M n K L r none 0 0 := by
  refine mk_met (by decide) (by simp [lgs_r, lgs_i, lgs_l, lgs_n]) (fun X e1 e2 e3 e4 o hL hr hnm hz hc hs hE => ?_)
  subst e1 e2 e3 e4
  rw [show lv_args 0 [va_rf (some a0), .int v1] = [(0, va_rf (some a0)), (1, .int v1)] by simp [lva_r, lva_i, lva_l, lva_n]]
  exact w_X1_ask_0 o hL hr hz hk0 hE h
def f_X11_hasBit  (v0 : Int32) (v1 : Int32) : Option Int32 :=
  if (((v0.toUInt32 >>> (v1.toUInt32 &&& Int32.toUInt32 31)).toInt32) &&& (1 : Int32)) = 0 then
    some (0 : Int32)
  else
    some (1 : Int32)
set_option maxHeartbeats 4000000 in
theorem w_X11_hasBit_0 {X : Cx} {d n : Nat} {K L : Nat → Nat} {M : Mm} {r : Int32} {v0 : Int32} {v1 : Int32} (o : cOk X cX11_hasBit RX11 d) (hL : cL X = 2) (hr : (ch X).sig.returnType = some .boolean) (hE : cE X n K L M (some (.int r)) 0 0) (h : f_X11_hasBit  v0 v1 = some r) : gW X 0 0 n K L M 0 [(0, .int v0), (1, .int v1)] [] := by
  unfold f_X11_hasBit at h
  refine g_iload_n o dX11_hasBit_0 0 rfl ?_
  refine g_iload_n o dX11_hasBit_1 1 rfl ?_
  refine g_iushr o dX11_hasBit_2 ?_
  refine g_iconst (v := (1 : Int32)) o dX11_hasBit_3 (by decide) ?_
  refine g_iand o dX11_hasBit_4 ?_
  refine g_if_eq (tgt := 12) o dX11_hasBit_5 (by decide) (fun z => ?_) (fun z => ?_)
  · have h := (if_pos z).symm.trans h
    refine g_iconst (v := (0 : Int32)) o dX11_hasBit_12 (by decide) ?_
    cases h
    exact g_zret o hr (by decide) hE dX11_hasBit_13
  · have h := (if_neg z).symm.trans h
    refine g_iconst (v := (1 : Int32)) o dX11_hasBit_8 (by decide) ?_
    refine g_goto (tgt := 13) o dX11_hasBit_9 (by decide) ?_
    cases h
    exact g_zret o hr (by decide) hE dX11_hasBit_13
theorem c_X11_hasBit (l : Launch) (D : va_G) (Y : Nat → ClassId) (B : Nat) {d : Nat} {n : Nat} {K L : Nat → Nat} {M : Mm} {v0 : Int32} {v1 : Int32} {r : Int32} (hd : 0 ≤ d) (h : f_X11_hasBit  v0 v1 = some r) : mC l D Y B d yX11_hasBit cX11_hasBit 2 (some .boolean) [.int v0, .int v1] n K L M n K L M (some (.int r)) 0 0 := by
  refine mk_met (by decide) (by simp [lgs_r, lgs_i, lgs_l, lgs_n]) (fun X e1 e2 e3 e4 o hL hr hnm hz hc hs hE => ?_)
  subst e1 e2 e3 e4
  rw [show lv_args 0 [.int v0, .int v1] = [(0, .int v0), (1, .int v1)] by simp [lva_r, lva_i, lva_l, lva_n]]
  exact w_X11_hasBit_0 o hL hr hE h
def f_X9_isStopOf (K L : Nat → Nat) (M : Mm) (a0 : Nat) (v1 : Int32) : Option Int32 :=
  if (mm_I M (32 * 9 + 0) a0) = (4 : Int32) then
    Option.bind (f_X11_hasBit (mm_I M (32 * 9 + 7) a0) v1) (fun x1 =>
    if x1 = 0 then
      some (0 : Int32)
    else
      some (1 : Int32))
  else
    some (0 : Int32)
set_option maxHeartbeats 4000000 in
theorem w_X9_isStopOf_0 {X : Cx} {d n : Nat} {K L : Nat → Nat} {M : Mm} {a0 : Nat} {r : Int32} {v1 : Int32} (o : cOk X cX9_isStopOf RX9 (d + 1)) (hL : cL X = 2) (hr : (ch X).sig.returnType = some .boolean) (hk0 : K a0 = 9) (hE : cE X n K L M (some (.int r)) 0 0) (hd : 1 ≤ d + 1) (h : f_X9_isStopOf K L M a0 v1 = some r) : gW X 0 0 n K L M 0 [(0, va_rf (some a0)), (1, .int v1)] [] := by
  unfold f_X9_isStopOf at h
  refine g_aload_n o dX9_isStopOf_0 0 rfl ?_
  refine g_getI o fl_X9_53 (rc_self hk0) (by decide) rfl dX9_isStopOf_1 ?_
  refine g_iconst (v := (4 : Int32)) o dX9_isStopOf_4 (by decide) ?_
  refine g_icmp_ne (tgt := 23) o dX9_isStopOf_5 (by decide) (fun z => ?_) (fun z => ?_)
  · have h := (if_neg z).symm.trans h
    refine g_iconst (v := (0 : Int32)) o dX9_isStopOf_23 (by decide) ?_
    cases h
    exact g_zret o hr (by decide) hE dX9_isStopOf_24
  · have h := (if_pos z).symm.trans h
    refine g_aload_n o dX9_isStopOf_8 0 rfl ?_
    refine g_getI o fl_X9_71 (rc_self hk0) (by decide) rfl dX9_isStopOf_9 ?_
    refine g_iload_n o dX9_isStopOf_12 1 rfl ?_
    obtain ⟨x1, e2, h⟩ := ob h
    refine g_invSN0 o mn_X9_113 kb_X11_hasBit ks_X11_hasBit (c_X11_hasBit (cq X) (cD X) (cY X) (cB X) (d := d) (by omega) e2) rfl rfl (by simp [cat_i, cat_l, cat_rf]) dX9_isStopOf_13 ?_
    refine g_if_eq (tgt := 23) o dX9_isStopOf_16 (by decide) (fun z => ?_) (fun z => ?_)
    · have h := (if_pos z).symm.trans h
      refine g_iconst (v := (0 : Int32)) o dX9_isStopOf_23 (by decide) ?_
      cases h
      exact g_zret o hr (by decide) hE dX9_isStopOf_24
    · have h := (if_neg z).symm.trans h
      refine g_iconst (v := (1 : Int32)) o dX9_isStopOf_19 (by decide) ?_
      refine g_goto (tgt := 24) o dX9_isStopOf_20 (by decide) ?_
      cases h
      exact g_zret o hr (by decide) hE dX9_isStopOf_24
theorem c_X9_isStopOf (l : Launch) (D : va_G) (Y : Nat → ClassId) (B : Nat) {d : Nat} {n : Nat} {K L : Nat → Nat} {M : Mm} {a0 : Nat} {v1 : Int32} {r : Int32} (hd : 1 ≤ d) (hk0 : K a0 = 9) (h : f_X9_isStopOf K L M a0 v1 = some r) : mC l D Y B d yX9_isStopOf cX9_isStopOf 2 (some .boolean) [va_rf (some a0), .int v1] n K L M n K L M (some (.int r)) 0 0 := by
  obtain ⟨d, rfl⟩ : ∃ e, d = e + 1 := ⟨d - 1, by omega⟩
  refine mk_met (by decide) (by simp [lgs_r, lgs_i, lgs_l, lgs_n]) (fun X e1 e2 e3 e4 o hL hr hnm hz hc hs hE => ?_)
  subst e1 e2 e3 e4
  rw [show lv_args 0 [va_rf (some a0), .int v1] = [(0, va_rf (some a0)), (1, .int v1)] by simp [lva_r, lva_i, lva_l, lva_n]]
  exact w_X9_isStopOf_0 o hL hr hk0 hE hd h
def f_X1_hangHolds (K L : Nat → Nat) (fu : Nat) (wf : Nat → Option Nat → Int32 → Int32 → Mm → Option (Int32 × Mm)) (a0 : Nat) (v1 : (Option Nat)) (v2 : (Option Nat)) (v3 : Int32) (M : Mm) : Option (Int32 × Mm) :=
  Option.bind (rc K v2 9) (fun a1 =>
  Option.bind (rc K v1 8) (fun a3 =>
  Option.bind (f_X8_switchAt K L M a3 (mm_I M (32 * 9 + 5) a1)) (fun x5 =>
  if x5 = none then
    some ((1 : Int32), M)
  else
    Option.bind (wf a0 v1 (mm_I M (32 * 9 + 5) a1) (v3 + (1 : Int32)) M) (fun x7 =>
    if (x7.1) = (mm_I x7.2 (32 * 9 + 6) a1) then
      some ((1 : Int32), x7.2)
    else
      some ((0 : Int32), x7.2)))))
set_option maxHeartbeats 4000000 in
theorem w_X1_hangHolds_0 {X : Cx} {d n : Nat} {K L : Nat → Nat} {fu : Nat} {a0 : Nat} {r : (Int32 × Mm)} {wf : Nat → Option Nat → Int32 → Int32 → Mm → Option (Int32 × Mm)} {D0 : Nat} {v1 : (Option Nat)} {v2 : (Option Nat)} {v3 : Int32} {M : Mm} (o : cOk X cX1_hangHolds RX1 (d + 1)) (hL : cL X = 4) (hr : (ch X).sig.returnType = some .boolean) (hz : (cs X).heap.size + 0 = cB X + n) (hk0 : K a0 = 1) (hE : cE X n K L r.2 (some (.int r.1)) 0 0) (hwf : ∀ (e : Nat), D0 ≤ e → ∀ {M : Mm} {a0 : Nat} {v1 : Option Nat} {v2 v3 : Int32} {r : Int32 × Mm}, K a0 = 1 → wf a0 v1 v2 v3 M = some r → mC (cq X) (cD X) (cY X) (cB X) e yX1_wayAt cX1_wayAt 5 (some .int) [va_rf (some a0), va_rf v1, .int v2, .int v3] n K L M n K L r.2 (some (.int r.1)) 0 0) (hD : 12 ≤ D0) (hd : D0 + 1 ≤ d + 1) (h : f_X1_hangHolds K L fu wf a0 v1 v2 v3 M = some r) : gW X 0 0 n K L M 0 [(0, va_rf (some a0)), (1, va_rf v1), (2, va_rf v2), (3, .int v3)] [] := by
  unfold f_X1_hangHolds at h
  refine g_aload_n o dX1_hangHolds_0 1 rfl ?_
  refine g_aload_n o dX1_hangHolds_1 2 rfl ?_
  obtain ⟨a1, e2, h⟩ := ob h
  refine g_getI o fl_X1_101 e2 (by decide) rfl dX1_hangHolds_2 ?_
  obtain ⟨a3, e4, h⟩ := ob h
  obtain ⟨x5, e6, h⟩ := ob h
  refine g_invV0 o e4 (by decide) ml_X1_31 kb_X8_switchAt kv_X8_switchAt rfl (c_X8_switchAt (cq X) (cD X) (cY X) (cB X) (d := d) (by omega) (rc_at e4).2 e6) rfl rfl (by simp [cat_i, cat_l, cat_rf]) dX1_hangHolds_5 ?_
  refine g_ifnonnull (tgt := 13) o dX1_hangHolds_8 (by decide) (fun z => ?_) (fun z => ?_)
  · have h := (if_neg z).symm.trans h
    refine g_aload_n o dX1_hangHolds_13 0 rfl ?_
    refine g_aload_n o dX1_hangHolds_14 1 rfl ?_
    refine g_aload_n o dX1_hangHolds_15 2 rfl ?_
    refine g_getI o fl_X1_101 e2 (by decide) rfl dX1_hangHolds_16 ?_
    refine g_iload_n o dX1_hangHolds_19 3 rfl ?_
    refine g_iconst (v := (1 : Int32)) o dX1_hangHolds_20 (by decide) ?_
    refine g_iadd o dX1_hangHolds_21 ?_
    obtain ⟨x7, e8, h⟩ := ob h
    refine g_invV0 o (rc_self hk0) (by decide) ml_X1_104 kb_X1_wayAt kv_X1_wayAt rfl (hwf _ (by omega) (rc_at (rc_self hk0)).2 e8) rfl rfl (by simp [cat_i, cat_l, cat_rf]) dX1_hangHolds_22 ?_
    refine g_aload_n o dX1_hangHolds_25 2 rfl ?_
    refine g_getI o fl_X1_107 e2 (by decide) rfl dX1_hangHolds_26 ?_
    refine g_icmp_ne (tgt := 36) o dX1_hangHolds_29 (by decide) (fun z => ?_) (fun z => ?_)
    · have h := (if_neg z).symm.trans h
      refine g_iconst (v := (0 : Int32)) o dX1_hangHolds_36 (by decide) ?_
      cases h
      exact g_zret o hr (by decide) hE dX1_hangHolds_37
    · have h := (if_pos z).symm.trans h
      refine g_iconst (v := (1 : Int32)) o dX1_hangHolds_32 (by decide) ?_
      refine g_goto (tgt := 37) o dX1_hangHolds_33 (by decide) ?_
      cases h
      exact g_zret o hr (by decide) hE dX1_hangHolds_37
  · have h := (if_pos z).symm.trans h
    refine g_iconst (v := (1 : Int32)) o dX1_hangHolds_11 (by decide) ?_
    cases h
    exact g_zret o hr (by decide) hE dX1_hangHolds_12
theorem c_X1_hangHolds (l : Launch) (D : va_G) (Y : Nat → ClassId) (B : Nat) {d : Nat} {n : Nat} {K L : Nat → Nat} {fu : Nat} {M : Mm} {a0 : Nat} {v1 : (Option Nat)} {v2 : (Option Nat)} {v3 : Int32} {r : (Int32 × Mm)} {wf : Nat → Option Nat → Int32 → Int32 → Mm → Option (Int32 × Mm)} {D0 : Nat} (hwf : ∀ (e : Nat), D0 ≤ e → ∀ {M : Mm} {a0 : Nat} {v1 : Option Nat} {v2 v3 : Int32} {r : Int32 × Mm}, K a0 = 1 → wf a0 v1 v2 v3 M = some r → mC l D Y B e yX1_wayAt cX1_wayAt 5 (some .int) [va_rf (some a0), va_rf v1, .int v2, .int v3] n K L M n K L r.2 (some (.int r.1)) 0 0) (hD : 12 ≤ D0) (hd : D0 + 1 ≤ d) (hk0 : K a0 = 1) (h : f_X1_hangHolds K L fu wf a0 v1 v2 v3 M = some r) : mC l D Y B d yX1_hangHolds cX1_hangHolds 4 (some .boolean) [va_rf (some a0), va_rf v1, va_rf v2, .int v3] n K L M n K L r.2 (some (.int r.1)) 0 0 := by
  obtain ⟨d, rfl⟩ : ∃ e, d = e + 1 := ⟨d - 1, by omega⟩
  refine mk_met (by decide) (by simp [lgs_r, lgs_i, lgs_l, lgs_n]) (fun X e1 e2 e3 e4 o hL hr hnm hz hc hs hE => ?_)
  subst e1 e2 e3 e4
  rw [show lv_args 0 [va_rf (some a0), va_rf v1, va_rf v2, .int v3] = [(0, va_rf (some a0)), (1, va_rf v1), (2, va_rf v2), (3, .int v3)] by simp [lva_r, lva_i, lva_l, lva_n]]
  exact w_X1_hangHolds_0 o hL hr hz hk0 hE hwf hD hd h
def f_X1_stopOf_41 (K L : Nat → Nat) (fu : Nat) (wf : Nat → Option Nat → Int32 → Int32 → Mm → Option (Int32 × Mm)) (k12 : (Option Nat) → Int32 → Int32 → Int32 → Mm → Option (Int32 × Mm)) (a0 : Nat) (v1 : (Option Nat)) (v2 : Int32) (v3 : Int32) (v4 : Int32) (s0 : (Option Nat)) (M : Mm) : Option (Int32 × Mm) :=
  if s0 = none then
    k12 v1 v2 v3 (v4 + 1) M
  else
    Option.bind (rc K s0 9) (fun a1 =>
    Option.bind (f_X9_isStopOf K L M a1 v2) (fun x3 =>
    if x3 = 0 then
      k12 v1 v2 v3 (v4 + 1) M
    else
      Option.bind (f_X1_hangHolds K L fu wf a0 v1 s0 v3 M) (fun x5 =>
      if (x5.1) = 0 then
        k12 v1 v2 v3 (v4 + 1) (x5.2)
      else
        some (v4, x5.2))))
set_option maxHeartbeats 4000000 in
theorem w_X1_stopOf_41 {X : Cx} {d n : Nat} {K L : Nat → Nat} {fu : Nat} {a0 : Nat} {r : (Int32 × Mm)} {wf : Nat → Option Nat → Int32 → Int32 → Mm → Option (Int32 × Mm)} {D0 : Nat} {k12 : (Option Nat) → Int32 → Int32 → Int32 → Mm → Option (Int32 × Mm)} {v1 : (Option Nat)} {v2 : Int32} {v3 : Int32} {v4 : Int32} {s0 : (Option Nat)} {M : Mm} (o : cOk X cX1_stopOf RX1 (d + 1)) (hL : cL X = 6) (hr : (ch X).sig.returnType = some .int) (hz : (cs X).heap.size + 0 = cB X + n) (hk0 : K a0 = 1) (hE : cE X n K L r.2 (some (.int r.1)) 0 0) (hk12 : ∀ (v1 : (Option Nat)) (v2 : Int32) (v3 : Int32) (v4 : Int32) (M : Mm), k12 v1 v2 v3 v4 M = some r → gW X 0 0 n K L M 12 [(0, va_rf (some a0)), (1, va_rf v1), (2, .int v2), (3, .int v3), (4, .int v4)] []) (hwf : ∀ (e : Nat), D0 ≤ e → ∀ {M : Mm} {a0 : Nat} {v1 : Option Nat} {v2 v3 : Int32} {r : Int32 × Mm}, K a0 = 1 → wf a0 v1 v2 v3 M = some r → mC (cq X) (cD X) (cY X) (cB X) e yX1_wayAt cX1_wayAt 5 (some .int) [va_rf (some a0), va_rf v1, .int v2, .int v3] n K L M n K L r.2 (some (.int r.1)) 0 0) (hD : 12 ≤ D0) (hd : D0 + 2 ≤ d + 1) (h : f_X1_stopOf_41 K L fu wf k12 a0 v1 v2 v3 v4 s0 M = some r) : gW X 0 0 n K L M 41 [(0, va_rf (some a0)), (1, va_rf v1), (2, .int v2), (3, .int v3), (4, .int v4)] [va_rf s0] := by
  unfold f_X1_stopOf_41 at h
  refine g_astore (i := 5) (ls' := [(5, va_rf s0), (0, va_rf (some a0)), (1, va_rf v1), (2, .int v2), (3, .int v3), (4, .int v4)]) o dX1_stopOf_41 (ltL hL (by decide)) rfl ?_
  refine g_aload o dX1_stopOf_43 0 rfl ?_
  refine g_ifnull (tgt := 71) o dX1_stopOf_45 (by decide) (fun z => ?_) (fun z => ?_)
  · have h := (if_pos z).symm.trans h
    refine g_iinc (i := 4) (v := v4 + 1) (ls' := [(4, .int (v4 + 1)), (5, va_rf s0), (0, va_rf (some a0)), (1, va_rf v1), (2, .int v2), (3, .int v3)]) o dX1_stopOf_71 5 rfl (by first | rfl | (congr 1)) (ltL hL (by decide)) rfl ?_
    refine g_goto (tgt := 12) o dX1_stopOf_74 (by decide) ?_
    refine gsub [2, 3, 4, 5, 0] rfl ?_
    exact hk12 _ _ _ _ _ h
  · have h := (if_neg z).symm.trans h
    refine g_aload o dX1_stopOf_48 0 rfl ?_
    refine g_iload_n o dX1_stopOf_50 3 rfl ?_
    obtain ⟨a1, e2, h⟩ := ob h
    obtain ⟨x3, e4, h⟩ := ob h
    refine g_invV0 o e2 (by decide) ml_X1_97 kb_X9_isStopOf kv_X9_isStopOf rfl (c_X9_isStopOf (cq X) (cD X) (cY X) (cB X) (d := d) (by omega) (rc_at e2).2 e4) rfl rfl (by simp [cat_i, cat_l, cat_rf]) dX1_stopOf_51 ?_
    refine g_if_eq (tgt := 71) o dX1_stopOf_54 (by decide) (fun z => ?_) (fun z => ?_)
    · have h := (if_pos z).symm.trans h
      refine g_iinc (i := 4) (v := v4 + 1) (ls' := [(4, .int (v4 + 1)), (5, va_rf s0), (0, va_rf (some a0)), (1, va_rf v1), (2, .int v2), (3, .int v3)]) o dX1_stopOf_71 5 rfl (by first | rfl | (congr 1)) (ltL hL (by decide)) rfl ?_
      refine g_goto (tgt := 12) o dX1_stopOf_74 (by decide) ?_
      refine gsub [2, 3, 4, 5, 0] rfl ?_
      exact hk12 _ _ _ _ _ h
    · have h := (if_neg z).symm.trans h
      refine g_aload_n o dX1_stopOf_57 1 rfl ?_
      refine g_aload_n o dX1_stopOf_58 2 rfl ?_
      refine g_aload o dX1_stopOf_59 0 rfl ?_
      refine g_iload_n o dX1_stopOf_61 4 rfl ?_
      obtain ⟨x5, e6, h⟩ := ob h
      refine g_invV0 o (rc_self hk0) (by decide) ml_X1_67 kb_X1_hangHolds kv_X1_hangHolds rfl (c_X1_hangHolds (cq X) (cD X) (cY X) (cB X) (d := d) hwf hD (by omega) (rc_at (rc_self hk0)).2 e6) rfl rfl (by simp [cat_i, cat_l, cat_rf]) dX1_stopOf_62 ?_
      refine g_if_eq (tgt := 71) o dX1_stopOf_65 (by decide) (fun z => ?_) (fun z => ?_)
      · have h := (if_pos z).symm.trans h
        refine g_iinc (i := 4) (v := v4 + 1) (ls' := [(4, .int (v4 + 1)), (5, va_rf s0), (0, va_rf (some a0)), (1, va_rf v1), (2, .int v2), (3, .int v3)]) o dX1_stopOf_71 5 rfl (by first | rfl | (congr 1)) (ltL hL (by decide)) rfl ?_
        refine g_goto (tgt := 12) o dX1_stopOf_74 (by decide) ?_
        refine gsub [2, 3, 4, 5, 0] rfl ?_
        exact hk12 _ _ _ _ _ h
      · have h := (if_neg z).symm.trans h
        refine g_iload o dX1_stopOf_68 5 rfl ?_
        cases h
        exact g_iret o hr hE dX1_stopOf_70
def f_X1_stopOf_12b (K L : Nat → Nat) (fu : Nat) (wf : Nat → Option Nat → Int32 → Int32 → Mm → Option (Int32 × Mm)) (k12 : (Option Nat) → Int32 → Int32 → Int32 → Mm → Option (Int32 × Mm)) (a0 : Nat) (v1 : (Option Nat)) (v2 : Int32) (v3 : Int32) (v4 : Int32) (M : Mm) : Option (Int32 × Mm) :=
  if (16 : Int32) ≤ v4 then
    some ((-1 : Int32), M)
  else
    Option.bind (f_X11_hasBit (mm_I M (32 * 1 + 5) a0) v4) (fun x1 =>
    if x1 = 0 then
      f_X1_stopOf_41 K L fu wf k12 a0 v1 v2 v3 v4 none M
    else
      Option.bind (rc K v1 8) (fun a3 =>
      Option.bind (f_X8_switchAt K L M a3 v4) (fun x5 =>
      f_X1_stopOf_41 K L fu wf k12 a0 v1 v2 v3 v4 x5 M)))
def f_X1_stopOf_12 (K L : Nat → Nat) (fu : Nat) (wf : Nat → Option Nat → Int32 → Int32 → Mm → Option (Int32 × Mm)) (a0 : Nat) : Nat → (Option Nat) → Int32 → Int32 → Int32 → Mm → Option (Int32 × Mm)
  | 0, _, _, _, _, _ => none
  | g + 1, v1, v2, v3, v4, M => f_X1_stopOf_12b K L fu wf (f_X1_stopOf_12 K L fu wf a0 g) a0 v1 v2 v3 v4 M
set_option maxHeartbeats 4000000 in
theorem w_X1_stopOf_12b {X : Cx} {d n : Nat} {K L : Nat → Nat} {fu : Nat} {a0 : Nat} {r : (Int32 × Mm)} {wf : Nat → Option Nat → Int32 → Int32 → Mm → Option (Int32 × Mm)} {D0 : Nat} {k12 : (Option Nat) → Int32 → Int32 → Int32 → Mm → Option (Int32 × Mm)} {v1 : (Option Nat)} {v2 : Int32} {v3 : Int32} {v4 : Int32} {M : Mm} (o : cOk X cX1_stopOf RX1 (d + 1)) (hL : cL X = 6) (hr : (ch X).sig.returnType = some .int) (hz : (cs X).heap.size + 0 = cB X + n) (hk0 : K a0 = 1) (hE : cE X n K L r.2 (some (.int r.1)) 0 0) (hk12 : ∀ (v1 : (Option Nat)) (v2 : Int32) (v3 : Int32) (v4 : Int32) (M : Mm), k12 v1 v2 v3 v4 M = some r → gW X 0 0 n K L M 12 [(0, va_rf (some a0)), (1, va_rf v1), (2, .int v2), (3, .int v3), (4, .int v4)] []) (hwf : ∀ (e : Nat), D0 ≤ e → ∀ {M : Mm} {a0 : Nat} {v1 : Option Nat} {v2 v3 : Int32} {r : Int32 × Mm}, K a0 = 1 → wf a0 v1 v2 v3 M = some r → mC (cq X) (cD X) (cY X) (cB X) e yX1_wayAt cX1_wayAt 5 (some .int) [va_rf (some a0), va_rf v1, .int v2, .int v3] n K L M n K L r.2 (some (.int r.1)) 0 0) (hD : 12 ≤ D0) (hd : D0 + 2 ≤ d + 1) (h : f_X1_stopOf_12b K L fu wf k12 a0 v1 v2 v3 v4 M = some r) : gW X 0 0 n K L M 12 [(0, va_rf (some a0)), (1, va_rf v1), (2, .int v2), (3, .int v3), (4, .int v4)] [] := by
  unfold f_X1_stopOf_12b at h
  refine g_iload o dX1_stopOf_12 4 rfl ?_
  refine g_bipush (v := (16 : Int32)) o dX1_stopOf_14 (by decide) ?_
  refine g_icmp_ge (tgt := 77) o dX1_stopOf_16 (by decide) (fun z => ?_) (fun z => ?_)
  · have h := (if_pos z).symm.trans h
    refine g_iconst (v := (-1 : Int32)) o dX1_stopOf_77 (by decide) ?_
    cases h
    exact g_iret o hr hE dX1_stopOf_78
  · have h := (if_neg z).symm.trans h
    refine g_aload_n o dX1_stopOf_19 0 rfl ?_
    refine g_getI o fl_X1_28 (rc_self hk0) (by decide) rfl dX1_stopOf_20 ?_
    refine g_iload o dX1_stopOf_23 4 rfl ?_
    obtain ⟨x1, e2, h⟩ := ob h
    refine g_invSN0 o mn_X1_52 kb_X11_hasBit ks_X11_hasBit (c_X11_hasBit (cq X) (cD X) (cY X) (cB X) (d := d) (by omega) e2) rfl rfl (by simp [cat_i, cat_l, cat_rf]) dX1_stopOf_25 ?_
    refine g_if_eq (tgt := 40) o dX1_stopOf_28 (by decide) (fun z => ?_) (fun z => ?_)
    · have h := (if_pos z).symm.trans h
      refine g_null o dX1_stopOf_40 ?_
      exact w_X1_stopOf_41 o hL hr hz hk0 hE hk12 hwf hD hd h
    · have h := (if_neg z).symm.trans h
      refine g_aload_n o dX1_stopOf_31 1 rfl ?_
      refine g_iload o dX1_stopOf_32 4 rfl ?_
      obtain ⟨a3, e4, h⟩ := ob h
      obtain ⟨x5, e6, h⟩ := ob h
      refine g_invV0 o e4 (by decide) ml_X1_31 kb_X8_switchAt kv_X8_switchAt rfl (c_X8_switchAt (cq X) (cD X) (cY X) (cB X) (d := d) (by omega) (rc_at e4).2 e6) rfl rfl (by simp [cat_i, cat_l, cat_rf]) dX1_stopOf_34 ?_
      refine g_goto (tgt := 41) o dX1_stopOf_37 (by decide) ?_
      exact w_X1_stopOf_41 o hL hr hz hk0 hE hk12 hwf hD hd h
theorem w_X1_stopOf_12_n {X : Cx} {d n : Nat} {K L : Nat → Nat} {fu : Nat} {a0 : Nat} {r : (Int32 × Mm)} {wf : Nat → Option Nat → Int32 → Int32 → Mm → Option (Int32 × Mm)} {D0 : Nat} (o : cOk X cX1_stopOf RX1 (d + 1)) (hL : cL X = 6) (hr : (ch X).sig.returnType = some .int) (hz : (cs X).heap.size + 0 = cB X + n) (hk0 : K a0 = 1) (hE : cE X n K L r.2 (some (.int r.1)) 0 0) (hwf : ∀ (e : Nat), D0 ≤ e → ∀ {M : Mm} {a0 : Nat} {v1 : Option Nat} {v2 v3 : Int32} {r : Int32 × Mm}, K a0 = 1 → wf a0 v1 v2 v3 M = some r → mC (cq X) (cD X) (cY X) (cB X) e yX1_wayAt cX1_wayAt 5 (some .int) [va_rf (some a0), va_rf v1, .int v2, .int v3] n K L M n K L r.2 (some (.int r.1)) 0 0) (hD : 12 ≤ D0) (hd : D0 + 2 ≤ d + 1) : ∀ (g : Nat) (v1 : (Option Nat)) (v2 : Int32) (v3 : Int32) (v4 : Int32) (M : Mm), f_X1_stopOf_12 K L fu wf a0 g v1 v2 v3 v4 M = some r → gW X 0 0 n K L M 12 [(0, va_rf (some a0)), (1, va_rf v1), (2, .int v2), (3, .int v3), (4, .int v4)] []
  | 0, _, _, _, _, _, h => by cases h
  | g + 1, v1, v2, v3, v4, M, h => w_X1_stopOf_12b o hL hr hz hk0 hE (w_X1_stopOf_12_n o hL hr hz hk0 hE hwf hD hd g) hwf hD hd h
theorem w_X1_stopOf_12 {X : Cx} {d n : Nat} {K L : Nat → Nat} {fu : Nat} {a0 : Nat} {r : (Int32 × Mm)} {wf : Nat → Option Nat → Int32 → Int32 → Mm → Option (Int32 × Mm)} {D0 : Nat} {v1 : (Option Nat)} {v2 : Int32} {v3 : Int32} {v4 : Int32} {M : Mm} (o : cOk X cX1_stopOf RX1 (d + 1)) (hL : cL X = 6) (hr : (ch X).sig.returnType = some .int) (hz : (cs X).heap.size + 0 = cB X + n) (hk0 : K a0 = 1) (hE : cE X n K L r.2 (some (.int r.1)) 0 0) (hwf : ∀ (e : Nat), D0 ≤ e → ∀ {M : Mm} {a0 : Nat} {v1 : Option Nat} {v2 v3 : Int32} {r : Int32 × Mm}, K a0 = 1 → wf a0 v1 v2 v3 M = some r → mC (cq X) (cD X) (cY X) (cB X) e yX1_wayAt cX1_wayAt 5 (some .int) [va_rf (some a0), va_rf v1, .int v2, .int v3] n K L M n K L r.2 (some (.int r.1)) 0 0) (hD : 12 ≤ D0) (hd : D0 + 2 ≤ d + 1) (h : f_X1_stopOf_12 K L fu wf a0 fu v1 v2 v3 v4 M = some r) : gW X 0 0 n K L M 12 [(0, va_rf (some a0)), (1, va_rf v1), (2, .int v2), (3, .int v3), (4, .int v4)] [] := w_X1_stopOf_12_n o hL hr hz hk0 hE hwf hD hd fu v1 v2 v3 v4 M h
def f_X1_stopOf (K L : Nat → Nat) (fu : Nat) (wf : Nat → Option Nat → Int32 → Int32 → Mm → Option (Int32 × Mm)) (a0 : Nat) (v1 : (Option Nat)) (v2 : Int32) (v3 : Int32) (M : Mm) : Option (Int32 × Mm) :=
  if (mm_I M (32 * 1 + 5) a0) = 0 then
    some ((-1 : Int32), M)
  else
    f_X1_stopOf_12 K L fu wf a0 fu v1 v2 v3 (0 : Int32) M
set_option maxHeartbeats 4000000 in
theorem w_X1_stopOf_0 {X : Cx} {d n : Nat} {K L : Nat → Nat} {fu : Nat} {a0 : Nat} {r : (Int32 × Mm)} {wf : Nat → Option Nat → Int32 → Int32 → Mm → Option (Int32 × Mm)} {D0 : Nat} {v1 : (Option Nat)} {v2 : Int32} {v3 : Int32} {M : Mm} (o : cOk X cX1_stopOf RX1 (d + 1)) (hL : cL X = 6) (hr : (ch X).sig.returnType = some .int) (hz : (cs X).heap.size + 0 = cB X + n) (hk0 : K a0 = 1) (hE : cE X n K L r.2 (some (.int r.1)) 0 0) (hwf : ∀ (e : Nat), D0 ≤ e → ∀ {M : Mm} {a0 : Nat} {v1 : Option Nat} {v2 v3 : Int32} {r : Int32 × Mm}, K a0 = 1 → wf a0 v1 v2 v3 M = some r → mC (cq X) (cD X) (cY X) (cB X) e yX1_wayAt cX1_wayAt 5 (some .int) [va_rf (some a0), va_rf v1, .int v2, .int v3] n K L M n K L r.2 (some (.int r.1)) 0 0) (hD : 12 ≤ D0) (hd : D0 + 2 ≤ d + 1) (h : f_X1_stopOf K L fu wf a0 v1 v2 v3 M = some r) : gW X 0 0 n K L M 0 [(0, va_rf (some a0)), (1, va_rf v1), (2, .int v2), (3, .int v3)] [] := by
  unfold f_X1_stopOf at h
  refine g_aload_n o dX1_stopOf_0 0 rfl ?_
  refine g_getI o fl_X1_28 (rc_self hk0) (by decide) rfl dX1_stopOf_1 ?_
  refine g_if_ne (tgt := 9) o dX1_stopOf_4 (by decide) (fun z => ?_) (fun z => ?_)
  · have h := (if_neg z).symm.trans h
    refine g_iconst (v := (0 : Int32)) o dX1_stopOf_9 (by decide) ?_
    refine g_istore (i := 4) (ls' := [(4, .int (0 : Int32)), (0, va_rf (some a0)), (1, va_rf v1), (2, .int v2), (3, .int v3)]) o dX1_stopOf_10 (ltL hL (by decide)) rfl ?_
    refine gsub [1, 2, 3, 4, 0] rfl ?_
    exact w_X1_stopOf_12 o hL hr hz hk0 hE hwf hD hd h
  · have h := (if_pos z).symm.trans h
    refine g_iconst (v := (-1 : Int32)) o dX1_stopOf_7 (by decide) ?_
    cases h
    exact g_iret o hr hE dX1_stopOf_8
theorem c_X1_stopOf (l : Launch) (D : va_G) (Y : Nat → ClassId) (B : Nat) {d : Nat} {n : Nat} {K L : Nat → Nat} {fu : Nat} {M : Mm} {a0 : Nat} {v1 : (Option Nat)} {v2 : Int32} {v3 : Int32} {r : (Int32 × Mm)} {wf : Nat → Option Nat → Int32 → Int32 → Mm → Option (Int32 × Mm)} {D0 : Nat} (hwf : ∀ (e : Nat), D0 ≤ e → ∀ {M : Mm} {a0 : Nat} {v1 : Option Nat} {v2 v3 : Int32} {r : Int32 × Mm}, K a0 = 1 → wf a0 v1 v2 v3 M = some r → mC l D Y B e yX1_wayAt cX1_wayAt 5 (some .int) [va_rf (some a0), va_rf v1, .int v2, .int v3] n K L M n K L r.2 (some (.int r.1)) 0 0) (hD : 12 ≤ D0) (hd : D0 + 2 ≤ d) (hk0 : K a0 = 1) (h : f_X1_stopOf K L fu wf a0 v1 v2 v3 M = some r) : mC l D Y B d yX1_stopOf cX1_stopOf 6 (some .int) [va_rf (some a0), va_rf v1, .int v2, .int v3] n K L M n K L r.2 (some (.int r.1)) 0 0 := by
  obtain ⟨d, rfl⟩ : ∃ e, d = e + 1 := ⟨d - 1, by omega⟩
  refine mk_met (by decide) (by simp [lgs_r, lgs_i, lgs_l, lgs_n]) (fun X e1 e2 e3 e4 o hL hr hnm hz hc hs hE => ?_)
  subst e1 e2 e3 e4
  rw [show lv_args 0 [va_rf (some a0), va_rf v1, .int v2, .int v3] = [(0, va_rf (some a0)), (1, va_rf v1), (2, .int v2), (3, .int v3)] by simp [lva_r, lva_i, lva_l, lva_n]]
  exact w_X1_stopOf_0 o hL hr hz hk0 hE hwf hD hd h
def f_X6_firstFor_2b (K L : Nat → Nat) (fu : Nat) (k2 : (Option Nat) → Int32 → Option Int32) (M : Mm) (a0 : Nat) (v1 : (Option Nat)) (v2 : Int32) : Option Int32 :=
  if (mm_I M (32 * 6 + 0) a0) ≤ v2 then
    some (0 : Int32)
  else
    Option.bind (rx K L (mm_R M (32 * 6 + 1) a0) 13 v2) (fun a1 =>
    Option.bind (rc K v1 1) (fun a3 =>
    Option.bind (f_X1_markOf K L M a3 (mm_A M a1 v2.toNatClampNeg)) (fun x5 =>
    Option.bind (rx K L (mm_R M (32 * 6 + 2) a0) 13 v2) (fun a7 =>
    if x5 < (mm_A M a7 v2.toNatClampNeg) then
      k2 v1 (v2 + 1)
    else
      Option.bind (rx K L (mm_R M (32 * 6 + 3) a0) 13 v2) (fun a9 =>
      if (mm_A M a9 v2.toNatClampNeg) < x5 then
        k2 v1 (v2 + 1)
      else
        some (v2 + (1 : Int32)))))))
def f_X6_firstFor_2 (K L : Nat → Nat) (fu : Nat) (M : Mm) (a0 : Nat) : Nat → (Option Nat) → Int32 → Option Int32
  | 0, _, _ => none
  | g + 1, v1, v2 => f_X6_firstFor_2b K L fu (f_X6_firstFor_2 K L fu M a0 g) M a0 v1 v2
set_option maxHeartbeats 4000000 in
theorem w_X6_firstFor_2b {X : Cx} {d n : Nat} {K L : Nat → Nat} {fu : Nat} {M : Mm} {a0 : Nat} {r : Int32} {k2 : (Option Nat) → Int32 → Option Int32} {v1 : (Option Nat)} {v2 : Int32} (o : cOk X cX6_firstFor RX6 (d + 1)) (hL : cL X = 4) (hr : (ch X).sig.returnType = some .int) (hk0 : K a0 = 6) (hE : cE X n K L M (some (.int r)) 0 0) (hk2 : ∀ (v1 : (Option Nat)) (v2 : Int32), k2 v1 v2 = some r → gW X 0 0 n K L M 2 [(0, va_rf (some a0)), (1, va_rf v1), (2, .int v2)] []) (hd : 1 ≤ d + 1) (h : f_X6_firstFor_2b K L fu k2 M a0 v1 v2 = some r) : gW X 0 0 n K L M 2 [(0, va_rf (some a0)), (1, va_rf v1), (2, .int v2)] [] := by
  unfold f_X6_firstFor_2b at h
  refine g_iload_n o dX6_firstFor_2 2 rfl ?_
  refine g_aload_n o dX6_firstFor_3 0 rfl ?_
  refine g_getI o fl_X6_24 (rc_self hk0) (by decide) rfl dX6_firstFor_4 ?_
  refine g_icmp_ge (tgt := 51) o dX6_firstFor_7 (by decide) (fun z => ?_) (fun z => ?_)
  · have h := (if_pos z).symm.trans h
    refine g_iconst (v := (0 : Int32)) o dX6_firstFor_51 (by decide) ?_
    cases h
    exact g_iret o hr hE dX6_firstFor_52
  · have h := (if_neg z).symm.trans h
    refine g_aload_n o dX6_firstFor_10 1 rfl ?_
    refine g_aload_n o dX6_firstFor_11 0 rfl ?_
    refine g_getR o fl_X6_9 (rc_self hk0) (by decide) rfl dX6_firstFor_12 ?_
    refine g_iload_n o dX6_firstFor_15 2 rfl ?_
    obtain ⟨a1, e2, h⟩ := ob h
    refine g_iald o e2 dX6_firstFor_16 ?_
    obtain ⟨a3, e4, h⟩ := ob h
    obtain ⟨x5, e6, h⟩ := ob h
    refine g_invV0 o e4 (by decide) ml_X6_34 kb_X1_markOf kv_X1_markOf rfl (c_X1_markOf (cq X) (cD X) (cY X) (cB X) (d := d) (by omega) (rc_at e4).2 e6) rfl rfl (by simp [cat_i, cat_l, cat_rf]) dX6_firstFor_17 ?_
    refine g_istore_n (i := 3) (ls' := [(3, .int x5), (0, va_rf (some a0)), (1, va_rf v1), (2, .int v2)]) o dX6_firstFor_20 rfl (ltL hL (by decide)) rfl ?_
    refine g_iload_n o dX6_firstFor_21 0 rfl ?_
    refine g_aload_n o dX6_firstFor_22 1 rfl ?_
    refine g_getR o fl_X6_15 (rc_self hk0) (by decide) rfl dX6_firstFor_23 ?_
    refine g_iload_n o dX6_firstFor_26 3 rfl ?_
    obtain ⟨a7, e8, h⟩ := ob h
    refine g_iald o e8 dX6_firstFor_27 ?_
    refine g_icmp_lt (tgt := 45) o dX6_firstFor_28 (by decide) (fun z => ?_) (fun z => ?_)
    · have h := (if_pos z).symm.trans h
      refine g_iinc (i := 2) (v := v2 + 1) (ls' := [(2, .int (v2 + 1)), (3, .int x5), (0, va_rf (some a0)), (1, va_rf v1)]) o dX6_firstFor_45 3 rfl (by first | rfl | (congr 1)) (ltL hL (by decide)) (by simp [cat_rf]) ?_
      refine g_goto (tgt := 2) o dX6_firstFor_48 (by decide) ?_
      refine gsub [2, 3, 0] rfl ?_
      exact hk2 _ _ h
    · have h := (if_neg z).symm.trans h
      refine g_iload_n o dX6_firstFor_31 0 rfl ?_
      refine g_aload_n o dX6_firstFor_32 1 rfl ?_
      refine g_getR o fl_X6_18 (rc_self hk0) (by decide) rfl dX6_firstFor_33 ?_
      refine g_iload_n o dX6_firstFor_36 3 rfl ?_
      obtain ⟨a9, e10, h⟩ := ob h
      refine g_iald o e10 dX6_firstFor_37 ?_
      refine g_icmp_gt (tgt := 45) o dX6_firstFor_38 (by decide) (fun z => ?_) (fun z => ?_)
      · have h := (if_pos z).symm.trans h
        refine g_iinc (i := 2) (v := v2 + 1) (ls' := [(2, .int (v2 + 1)), (3, .int x5), (0, va_rf (some a0)), (1, va_rf v1)]) o dX6_firstFor_45 3 rfl (by first | rfl | (congr 1)) (ltL hL (by decide)) (by simp [cat_rf]) ?_
        refine g_goto (tgt := 2) o dX6_firstFor_48 (by decide) ?_
        refine gsub [2, 3, 0] rfl ?_
        exact hk2 _ _ h
      · have h := (if_neg z).symm.trans h
        refine g_iload_n o dX6_firstFor_41 3 rfl ?_
        refine g_iconst (v := (1 : Int32)) o dX6_firstFor_42 (by decide) ?_
        refine g_iadd o dX6_firstFor_43 ?_
        cases h
        exact g_iret o hr hE dX6_firstFor_44
theorem w_X6_firstFor_2_n {X : Cx} {d n : Nat} {K L : Nat → Nat} {fu : Nat} {M : Mm} {a0 : Nat} {r : Int32} (o : cOk X cX6_firstFor RX6 (d + 1)) (hL : cL X = 4) (hr : (ch X).sig.returnType = some .int) (hk0 : K a0 = 6) (hE : cE X n K L M (some (.int r)) 0 0) (hd : 1 ≤ d + 1) : ∀ (g : Nat) (v1 : (Option Nat)) (v2 : Int32), f_X6_firstFor_2 K L fu M a0 g v1 v2 = some r → gW X 0 0 n K L M 2 [(0, va_rf (some a0)), (1, va_rf v1), (2, .int v2)] []
  | 0, _, _, h => by cases h
  | g + 1, v1, v2, h => w_X6_firstFor_2b o hL hr hk0 hE (w_X6_firstFor_2_n o hL hr hk0 hE hd g) hd h
theorem w_X6_firstFor_2 {X : Cx} {d n : Nat} {K L : Nat → Nat} {fu : Nat} {M : Mm} {a0 : Nat} {r : Int32} {v1 : (Option Nat)} {v2 : Int32} (o : cOk X cX6_firstFor RX6 (d + 1)) (hL : cL X = 4) (hr : (ch X).sig.returnType = some .int) (hk0 : K a0 = 6) (hE : cE X n K L M (some (.int r)) 0 0) (hd : 1 ≤ d + 1) (h : f_X6_firstFor_2 K L fu M a0 fu v1 v2 = some r) : gW X 0 0 n K L M 2 [(0, va_rf (some a0)), (1, va_rf v1), (2, .int v2)] [] := w_X6_firstFor_2_n o hL hr hk0 hE hd fu v1 v2 h
def f_X6_firstFor (K L : Nat → Nat) (fu : Nat) (M : Mm) (a0 : Nat) (v1 : (Option Nat)) : Option Int32 :=
  f_X6_firstFor_2 K L fu M a0 fu v1 (0 : Int32)
set_option maxHeartbeats 4000000 in
theorem w_X6_firstFor_0 {X : Cx} {d n : Nat} {K L : Nat → Nat} {fu : Nat} {M : Mm} {a0 : Nat} {r : Int32} {v1 : (Option Nat)} (o : cOk X cX6_firstFor RX6 (d + 1)) (hL : cL X = 4) (hr : (ch X).sig.returnType = some .int) (hk0 : K a0 = 6) (hE : cE X n K L M (some (.int r)) 0 0) (hd : 1 ≤ d + 1) (h : f_X6_firstFor K L fu M a0 v1 = some r) : gW X 0 0 n K L M 0 [(0, va_rf (some a0)), (1, va_rf v1)] [] := by
  unfold f_X6_firstFor at h
  refine g_iconst (v := (0 : Int32)) o dX6_firstFor_0 (by decide) ?_
  refine g_istore_n (i := 2) (ls' := [(2, .int (0 : Int32)), (0, va_rf (some a0)), (1, va_rf v1)]) o dX6_firstFor_1 rfl (ltL hL (by decide)) (by simp [cat_rf]) ?_
  refine gsub [1, 2, 0] rfl ?_
  exact w_X6_firstFor_2 o hL hr hk0 hE hd h
theorem c_X6_firstFor (l : Launch) (D : va_G) (Y : Nat → ClassId) (B : Nat) {d : Nat} {n : Nat} {K L : Nat → Nat} {fu : Nat} {M : Mm} {a0 : Nat} {v1 : (Option Nat)} {r : Int32} (hd : 1 ≤ d) (hk0 : K a0 = 6) (h : f_X6_firstFor K L fu M a0 v1 = some r) : mC l D Y B d yX6_firstFor cX6_firstFor 4 (some .int) [va_rf (some a0), va_rf v1] n K L M n K L M (some (.int r)) 0 0 := by
  obtain ⟨d, rfl⟩ : ∃ e, d = e + 1 := ⟨d - 1, by omega⟩
  refine mk_met (by decide) (by simp [lgs_r, lgs_i, lgs_l, lgs_n]) (fun X e1 e2 e3 e4 o hL hr hnm hz hc hs hE => ?_)
  subst e1 e2 e3 e4
  rw [show lv_args 0 [va_rf (some a0), va_rf v1] = [(0, va_rf (some a0)), (1, va_rf v1)] by simp [lva_r, lva_i, lva_l, lva_n]]
  exact w_X6_firstFor_0 o hL hr hk0 hE hd h
def f_X1_whyAt (K L : Nat → Nat) (fu : Nat) (wf : Nat → Option Nat → Int32 → Int32 → Mm → Option (Int32 × Mm)) (a0 : Nat) (v1 : (Option Nat)) (v2 : Int32) (v3 : Int32) (M : Mm) : Option (Int32 × Mm) :=
  Option.bind (rc K v1 8) (fun a1 =>
  Option.bind (f_X8_switchAt K L M a1 v2) (fun x3 =>
  if x3 = none then
    some ((0 : Int32), M)
  else
    Option.bind (f_X1_stopOf K L fu wf a0 v1 v2 v3 M) (fun x5 =>
    bn (x5.1) (fun x7 =>
    if x7 = (-1 : Int32) then
      Option.bind (f_X1_hangHolds K L fu wf a0 v1 x3 v3 x5.2) (fun x9 =>
      if (x9.1) = 0 then
        some ((7 : Int32), x9.2)
      else
        Option.bind (rc K x3 9) (fun a11 =>
        Option.bind (rc K (mm_R x9.2 (32 * 9 + 3) a11) 6) (fun a13 =>
        Option.bind (f_X6_firstFor K L fu x9.2 a13 (some a0)) (fun x15 =>
        some (x15, x9.2)))))
    else
      some ((8 : Int32) + x7, x5.2)))))
set_option maxHeartbeats 4000000 in
theorem w_X1_whyAt_0 {X : Cx} {d n : Nat} {K L : Nat → Nat} {fu : Nat} {a0 : Nat} {r : (Int32 × Mm)} {wf : Nat → Option Nat → Int32 → Int32 → Mm → Option (Int32 × Mm)} {D0 : Nat} {v1 : (Option Nat)} {v2 : Int32} {v3 : Int32} {M : Mm} (o : cOk X cX1_whyAt RX1 (d + 1)) (hL : cL X = 6) (hr : (ch X).sig.returnType = some .int) (hz : (cs X).heap.size + 0 = cB X + n) (hk0 : K a0 = 1) (hE : cE X n K L r.2 (some (.int r.1)) 0 0) (hwf : ∀ (e : Nat), D0 ≤ e → ∀ {M : Mm} {a0 : Nat} {v1 : Option Nat} {v2 v3 : Int32} {r : Int32 × Mm}, K a0 = 1 → wf a0 v1 v2 v3 M = some r → mC (cq X) (cD X) (cY X) (cB X) e yX1_wayAt cX1_wayAt 5 (some .int) [va_rf (some a0), va_rf v1, .int v2, .int v3] n K L M n K L r.2 (some (.int r.1)) 0 0) (hD : 12 ≤ D0) (hd : D0 + 3 ≤ d + 1) (h : f_X1_whyAt K L fu wf a0 v1 v2 v3 M = some r) : gW X 0 0 n K L M 0 [(0, va_rf (some a0)), (1, va_rf v1), (2, .int v2), (3, .int v3)] [] := by
  unfold f_X1_whyAt at h
  refine g_aload_n o dX1_whyAt_0 1 rfl ?_
  refine g_iload_n o dX1_whyAt_1 2 rfl ?_
  obtain ⟨a1, e2, h⟩ := ob h
  obtain ⟨x3, e4, h⟩ := ob h
  refine g_invV0 o e2 (by decide) ml_X1_31 kb_X8_switchAt kv_X8_switchAt rfl (c_X8_switchAt (cq X) (cD X) (cY X) (cB X) (d := d) (by omega) (rc_at e2).2 e4) rfl rfl (by simp [cat_i, cat_l, cat_rf]) dX1_whyAt_2 ?_
  refine g_astore (i := 4) (ls' := [(4, va_rf x3), (0, va_rf (some a0)), (1, va_rf v1), (2, .int v2), (3, .int v3)]) o dX1_whyAt_5 (ltL hL (by decide)) rfl ?_
  refine g_aload o dX1_whyAt_7 0 rfl ?_
  refine g_ifnonnull (tgt := 14) o dX1_whyAt_9 (by decide) (fun z => ?_) (fun z => ?_)
  · have h := (if_neg z).symm.trans h
    refine g_aload_n o dX1_whyAt_14 1 rfl ?_
    refine g_aload_n o dX1_whyAt_15 2 rfl ?_
    refine g_iload_n o dX1_whyAt_16 3 rfl ?_
    refine g_iload_n o dX1_whyAt_17 4 rfl ?_
    obtain ⟨x5, e6, h⟩ := ob h
    refine g_invV0 o (rc_self hk0) (by decide) ml_X1_64 kb_X1_stopOf kv_X1_stopOf rfl (c_X1_stopOf (cq X) (cD X) (cY X) (cB X) (d := d) hwf hD (by omega) (rc_at (rc_self hk0)).2 e6) rfl rfl (by simp [cat_i, cat_l, cat_rf]) dX1_whyAt_18 ?_
    obtain ⟨x7, e8, h⟩ := bn_at h
    refine g_topI e8 ?_
    refine g_istore (i := 5) (ls' := [(5, .int x7), (4, va_rf x3), (0, va_rf (some a0)), (1, va_rf v1), (2, .int v2), (3, .int v3)]) o dX1_whyAt_21 (ltL hL (by decide)) (by simp [cat_rf]) ?_
    refine g_iload o dX1_whyAt_23 0 rfl ?_
    refine g_iconst (v := (-1 : Int32)) o dX1_whyAt_25 (by decide) ?_
    refine g_icmp_eq (tgt := 35) o dX1_whyAt_26 (by decide) (fun z => ?_) (fun z => ?_)
    · have h := (if_pos z).symm.trans h
      refine g_aload_n o dX1_whyAt_35 2 rfl ?_
      refine g_aload_n o dX1_whyAt_36 3 rfl ?_
      refine g_aload o dX1_whyAt_37 1 rfl ?_
      refine g_iload_n o dX1_whyAt_39 5 rfl ?_
      obtain ⟨x9, e10, h⟩ := ob h
      refine g_invV0 o (rc_self hk0) (by decide) ml_X1_67 kb_X1_hangHolds kv_X1_hangHolds rfl (c_X1_hangHolds (cq X) (cD X) (cY X) (cB X) (d := d) hwf hD (by omega) (rc_at (rc_self hk0)).2 e10) rfl rfl (by simp [cat_i, cat_l, cat_rf]) dX1_whyAt_40 ?_
      refine g_if_eq (tgt := 58) o dX1_whyAt_43 (by decide) (fun z => ?_) (fun z => ?_)
      · have h := (if_pos z).symm.trans h
        refine g_bipush (v := (7 : Int32)) o dX1_whyAt_58 (by decide) ?_
        cases h
        exact g_iret o hr hE dX1_whyAt_60
      · have h := (if_neg z).symm.trans h
        refine g_aload o dX1_whyAt_46 1 rfl ?_
        obtain ⟨a11, e12, h⟩ := ob h
        refine g_getR o fl_X1_71 e12 (by decide) rfl dX1_whyAt_48 ?_
        refine g_aload_n o dX1_whyAt_51 2 rfl ?_
        obtain ⟨a13, e14, h⟩ := ob h
        obtain ⟨x15, e16, h⟩ := ob h
        refine g_invV0 o e14 (by decide) ml_X1_75 kb_X6_firstFor kv_X6_firstFor rfl (c_X6_firstFor (cq X) (cD X) (cY X) (cB X) (d := d) (by omega) (rc_at e14).2 e16) rfl rfl (by simp [cat_i, cat_l, cat_rf]) dX1_whyAt_52 ?_
        refine g_goto (tgt := 60) o dX1_whyAt_55 (by decide) ?_
        cases h
        exact g_iret o hr hE dX1_whyAt_60
    · have h := (if_neg z).symm.trans h
      refine g_bipush (v := (8 : Int32)) o dX1_whyAt_29 (by decide) ?_
      refine g_iload o dX1_whyAt_31 0 rfl ?_
      refine g_iadd o dX1_whyAt_33 ?_
      cases h
      exact g_iret o hr hE dX1_whyAt_34
  · have h := (if_pos z).symm.trans h
    refine g_iconst (v := (0 : Int32)) o dX1_whyAt_12 (by decide) ?_
    cases h
    exact g_iret o hr hE dX1_whyAt_13
theorem c_X1_whyAt (l : Launch) (D : va_G) (Y : Nat → ClassId) (B : Nat) {d : Nat} {n : Nat} {K L : Nat → Nat} {fu : Nat} {M : Mm} {a0 : Nat} {v1 : (Option Nat)} {v2 : Int32} {v3 : Int32} {r : (Int32 × Mm)} {wf : Nat → Option Nat → Int32 → Int32 → Mm → Option (Int32 × Mm)} {D0 : Nat} (hwf : ∀ (e : Nat), D0 ≤ e → ∀ {M : Mm} {a0 : Nat} {v1 : Option Nat} {v2 v3 : Int32} {r : Int32 × Mm}, K a0 = 1 → wf a0 v1 v2 v3 M = some r → mC l D Y B e yX1_wayAt cX1_wayAt 5 (some .int) [va_rf (some a0), va_rf v1, .int v2, .int v3] n K L M n K L r.2 (some (.int r.1)) 0 0) (hD : 12 ≤ D0) (hd : D0 + 3 ≤ d) (hk0 : K a0 = 1) (h : f_X1_whyAt K L fu wf a0 v1 v2 v3 M = some r) : mC l D Y B d yX1_whyAt cX1_whyAt 6 (some .int) [va_rf (some a0), va_rf v1, .int v2, .int v3] n K L M n K L r.2 (some (.int r.1)) 0 0 := by
  obtain ⟨d, rfl⟩ : ∃ e, d = e + 1 := ⟨d - 1, by omega⟩
  refine mk_met (by decide) (by simp [lgs_r, lgs_i, lgs_l, lgs_n]) (fun X e1 e2 e3 e4 o hL hr hnm hz hc hs hE => ?_)
  subst e1 e2 e3 e4
  rw [show lv_args 0 [va_rf (some a0), va_rf v1, .int v2, .int v3] = [(0, va_rf (some a0)), (1, va_rf v1), (2, .int v2), (3, .int v3)] by simp [lva_r, lva_i, lva_l, lva_n]]
  exact w_X1_whyAt_0 o hL hr hz hk0 hE hwf hD hd h
def f_X9_seatOf (K L : Nat → Nat) (M : Mm) (a0 : Nat) (v1 : Int32) : Option Int32 :=
  some ((((((mm_I M (32 * 9 + 1) a0).toInt64) * (v1.toInt64)) + ((mm_I M (32 * 9 + 2) a0).toInt64)) - ((((mm_I M (32 * 9 + 1) a0).toInt64) * (v1.toInt64)) + ((mm_I M (32 * 9 + 2) a0).toInt64)) / (10000 : Int64) * (10000 : Int64)).toInt32)
set_option maxHeartbeats 4000000 in
theorem w_X9_seatOf_0 {X : Cx} {d n : Nat} {K L : Nat → Nat} {M : Mm} {a0 : Nat} {r : Int32} {v1 : Int32} (o : cOk X cX9_seatOf RX9 d) (hL : cL X = 2) (hr : (ch X).sig.returnType = some .int) (hk0 : K a0 = 9) (hE : cE X n K L M (some (.int r)) 0 0) (h : f_X9_seatOf K L M a0 v1 = some r) : gW X 0 0 n K L M 0 [(0, va_rf (some a0)), (1, .int v1)] [] := by
  unfold f_X9_seatOf at h
  refine g_aload_n o dX9_seatOf_0 0 rfl ?_
  refine g_getI o fl_X9_57 (rc_self hk0) (by decide) rfl dX9_seatOf_1 ?_
  refine g_i2l o dX9_seatOf_4 ?_
  refine g_iload_n o dX9_seatOf_5 1 rfl ?_
  refine g_i2l o dX9_seatOf_6 ?_
  refine g_lmul o dX9_seatOf_7 ?_
  refine g_aload_n o dX9_seatOf_8 0 rfl ?_
  refine g_getI o fl_X9_60 (rc_self hk0) (by decide) rfl dX9_seatOf_9 ?_
  refine g_i2l o dX9_seatOf_12 ?_
  refine g_ladd o dX9_seatOf_13 ?_
  refine g_ldc2 (v := (10000 : Int64)) o kc_X9_111 dX9_seatOf_14 ?_
  refine g_lrem o dX9_seatOf_17 (by decide) ?_
  refine g_l2i o dX9_seatOf_18 ?_
  cases h
  exact g_iret o hr hE dX9_seatOf_19
theorem c_X9_seatOf (l : Launch) (D : va_G) (Y : Nat → ClassId) (B : Nat) {d : Nat} {n : Nat} {K L : Nat → Nat} {M : Mm} {a0 : Nat} {v1 : Int32} {r : Int32} (hd : 0 ≤ d) (hk0 : K a0 = 9) (h : f_X9_seatOf K L M a0 v1 = some r) : mC l D Y B d yX9_seatOf cX9_seatOf 2 (some .int) [va_rf (some a0), .int v1] n K L M n K L M (some (.int r)) 0 0 := by
  refine mk_met (by decide) (by simp [lgs_r, lgs_i, lgs_l, lgs_n]) (fun X e1 e2 e3 e4 o hL hr hnm hz hc hs hE => ?_)
  subst e1 e2 e3 e4
  rw [show lv_args 0 [va_rf (some a0), .int v1] = [(0, va_rf (some a0)), (1, .int v1)] by simp [lva_r, lva_i, lva_l, lva_n]]
  exact w_X9_seatOf_0 o hL hr hk0 hE h
def f_X7_wayOfSeat_2b (K L : Nat → Nat) (fu : Nat) (k2 : Int32 → Int32 → Option Int32) (M : Mm) (a0 : Nat) (v1 : Int32) (v2 : Int32) : Option Int32 :=
  if (8 : Int32) ≤ v2 then
    some (0 : Int32)
  else
    Option.bind (rx K L (mm_R M (32 * 7 + 0) a0) 13 v2) (fun a1 =>
    if v1 < (mm_A M a1 v2.toNatClampNeg) then
      k2 v1 (v2 + 1)
    else
      Option.bind (rx K L (mm_R M (32 * 7 + 1) a0) 13 v2) (fun a3 =>
      if ((mm_A M a1 v2.toNatClampNeg) + (mm_A M a3 v2.toNatClampNeg)) ≤ v1 then
        k2 v1 (v2 + 1)
      else
        some v2))
def f_X7_wayOfSeat_2 (K L : Nat → Nat) (fu : Nat) (M : Mm) (a0 : Nat) : Nat → Int32 → Int32 → Option Int32
  | 0, _, _ => none
  | g + 1, v1, v2 => f_X7_wayOfSeat_2b K L fu (f_X7_wayOfSeat_2 K L fu M a0 g) M a0 v1 v2
set_option maxHeartbeats 4000000 in
theorem w_X7_wayOfSeat_2b {X : Cx} {d n : Nat} {K L : Nat → Nat} {fu : Nat} {M : Mm} {a0 : Nat} {r : Int32} {k2 : Int32 → Int32 → Option Int32} {v1 : Int32} {v2 : Int32} (o : cOk X cX7_wayOfSeat RX7 d) (hL : cL X = 3) (hr : (ch X).sig.returnType = some .int) (hk0 : K a0 = 7) (hE : cE X n K L M (some (.int r)) 0 0) (hk2 : ∀ (v1 : Int32) (v2 : Int32), k2 v1 v2 = some r → gW X 0 0 n K L M 2 [(0, va_rf (some a0)), (1, .int v1), (2, .int v2)] []) (h : f_X7_wayOfSeat_2b K L fu k2 M a0 v1 v2 = some r) : gW X 0 0 n K L M 2 [(0, va_rf (some a0)), (1, .int v1), (2, .int v2)] [] := by
  unfold f_X7_wayOfSeat_2b at h
  refine g_iload_n o dX7_wayOfSeat_2 2 rfl ?_
  refine g_bipush (v := (8 : Int32)) o dX7_wayOfSeat_3 (by decide) ?_
  refine g_icmp_ge (tgt := 43) o dX7_wayOfSeat_5 (by decide) (fun z => ?_) (fun z => ?_)
  · have h := (if_pos z).symm.trans h
    refine g_iconst (v := (0 : Int32)) o dX7_wayOfSeat_43 (by decide) ?_
    cases h
    exact g_iret o hr hE dX7_wayOfSeat_44
  · have h := (if_neg z).symm.trans h
    refine g_iload_n o dX7_wayOfSeat_8 1 rfl ?_
    refine g_aload_n o dX7_wayOfSeat_9 0 rfl ?_
    refine g_getR o fl_X7_9 (rc_self hk0) (by decide) rfl dX7_wayOfSeat_10 ?_
    refine g_iload_n o dX7_wayOfSeat_13 2 rfl ?_
    obtain ⟨a1, e2, h⟩ := ob h
    refine g_iald o e2 dX7_wayOfSeat_14 ?_
    refine g_icmp_lt (tgt := 37) o dX7_wayOfSeat_15 (by decide) (fun z => ?_) (fun z => ?_)
    · have h := (if_pos z).symm.trans h
      refine g_iinc (i := 2) (v := v2 + 1) (ls' := [(2, .int (v2 + 1)), (0, va_rf (some a0)), (1, .int v1)]) o dX7_wayOfSeat_37 2 rfl (by first | rfl | (congr 1)) (ltL hL (by decide)) rfl ?_
      refine g_goto (tgt := 2) o dX7_wayOfSeat_40 (by decide) ?_
      refine gsub [1, 2, 0] rfl ?_
      exact hk2 _ _ h
    · have h := (if_neg z).symm.trans h
      refine g_iload_n o dX7_wayOfSeat_18 1 rfl ?_
      refine g_aload_n o dX7_wayOfSeat_19 0 rfl ?_
      refine g_getR o fl_X7_9 (rc_self hk0) (by decide) rfl dX7_wayOfSeat_20 ?_
      refine g_iload_n o dX7_wayOfSeat_23 2 rfl ?_
      refine g_iald o e2 dX7_wayOfSeat_24 ?_
      refine g_aload_n o dX7_wayOfSeat_25 0 rfl ?_
      refine g_getR o fl_X7_15 (rc_self hk0) (by decide) rfl dX7_wayOfSeat_26 ?_
      refine g_iload_n o dX7_wayOfSeat_29 2 rfl ?_
      obtain ⟨a3, e4, h⟩ := ob h
      refine g_iald o e4 dX7_wayOfSeat_30 ?_
      refine g_iadd o dX7_wayOfSeat_31 ?_
      refine g_icmp_ge (tgt := 37) o dX7_wayOfSeat_32 (by decide) (fun z => ?_) (fun z => ?_)
      · have h := (if_pos z).symm.trans h
        refine g_iinc (i := 2) (v := v2 + 1) (ls' := [(2, .int (v2 + 1)), (0, va_rf (some a0)), (1, .int v1)]) o dX7_wayOfSeat_37 2 rfl (by first | rfl | (congr 1)) (ltL hL (by decide)) rfl ?_
        refine g_goto (tgt := 2) o dX7_wayOfSeat_40 (by decide) ?_
        refine gsub [1, 2, 0] rfl ?_
        exact hk2 _ _ h
      · have h := (if_neg z).symm.trans h
        refine g_iload_n o dX7_wayOfSeat_35 2 rfl ?_
        cases h
        exact g_iret o hr hE dX7_wayOfSeat_36
theorem w_X7_wayOfSeat_2_n {X : Cx} {d n : Nat} {K L : Nat → Nat} {fu : Nat} {M : Mm} {a0 : Nat} {r : Int32} (o : cOk X cX7_wayOfSeat RX7 d) (hL : cL X = 3) (hr : (ch X).sig.returnType = some .int) (hk0 : K a0 = 7) (hE : cE X n K L M (some (.int r)) 0 0) : ∀ (g : Nat) (v1 : Int32) (v2 : Int32), f_X7_wayOfSeat_2 K L fu M a0 g v1 v2 = some r → gW X 0 0 n K L M 2 [(0, va_rf (some a0)), (1, .int v1), (2, .int v2)] []
  | 0, _, _, h => by cases h
  | g + 1, v1, v2, h => w_X7_wayOfSeat_2b o hL hr hk0 hE (w_X7_wayOfSeat_2_n o hL hr hk0 hE g) h
theorem w_X7_wayOfSeat_2 {X : Cx} {d n : Nat} {K L : Nat → Nat} {fu : Nat} {M : Mm} {a0 : Nat} {r : Int32} {v1 : Int32} {v2 : Int32} (o : cOk X cX7_wayOfSeat RX7 d) (hL : cL X = 3) (hr : (ch X).sig.returnType = some .int) (hk0 : K a0 = 7) (hE : cE X n K L M (some (.int r)) 0 0) (h : f_X7_wayOfSeat_2 K L fu M a0 fu v1 v2 = some r) : gW X 0 0 n K L M 2 [(0, va_rf (some a0)), (1, .int v1), (2, .int v2)] [] := w_X7_wayOfSeat_2_n o hL hr hk0 hE fu v1 v2 h
def f_X7_wayOfSeat (K L : Nat → Nat) (fu : Nat) (M : Mm) (a0 : Nat) (v1 : Int32) : Option Int32 :=
  f_X7_wayOfSeat_2 K L fu M a0 fu v1 (1 : Int32)
set_option maxHeartbeats 4000000 in
theorem w_X7_wayOfSeat_0 {X : Cx} {d n : Nat} {K L : Nat → Nat} {fu : Nat} {M : Mm} {a0 : Nat} {r : Int32} {v1 : Int32} (o : cOk X cX7_wayOfSeat RX7 d) (hL : cL X = 3) (hr : (ch X).sig.returnType = some .int) (hk0 : K a0 = 7) (hE : cE X n K L M (some (.int r)) 0 0) (h : f_X7_wayOfSeat K L fu M a0 v1 = some r) : gW X 0 0 n K L M 0 [(0, va_rf (some a0)), (1, .int v1)] [] := by
  unfold f_X7_wayOfSeat at h
  refine g_iconst (v := (1 : Int32)) o dX7_wayOfSeat_0 (by decide) ?_
  refine g_istore_n (i := 2) (ls' := [(2, .int (1 : Int32)), (0, va_rf (some a0)), (1, .int v1)]) o dX7_wayOfSeat_1 rfl (ltL hL (by decide)) rfl ?_
  refine gsub [1, 2, 0] rfl ?_
  exact w_X7_wayOfSeat_2 o hL hr hk0 hE h
theorem c_X7_wayOfSeat (l : Launch) (D : va_G) (Y : Nat → ClassId) (B : Nat) {d : Nat} {n : Nat} {K L : Nat → Nat} {fu : Nat} {M : Mm} {a0 : Nat} {v1 : Int32} {r : Int32} (hd : 0 ≤ d) (hk0 : K a0 = 7) (h : f_X7_wayOfSeat K L fu M a0 v1 = some r) : mC l D Y B d yX7_wayOfSeat cX7_wayOfSeat 3 (some .int) [va_rf (some a0), .int v1] n K L M n K L M (some (.int r)) 0 0 := by
  refine mk_met (by decide) (by simp [lgs_r, lgs_i, lgs_l, lgs_n]) (fun X e1 e2 e3 e4 o hL hr hnm hz hc hs hE => ?_)
  subst e1 e2 e3 e4
  rw [show lv_args 0 [va_rf (some a0), .int v1] = [(0, va_rf (some a0)), (1, .int v1)] by simp [lva_r, lva_i, lva_l, lva_n]]
  exact w_X7_wayOfSeat_0 o hL hr hk0 hE h
def f_X6_wayOfRule (K L : Nat → Nat) (M : Mm) (a0 : Nat) (v1 : Int32) : Option Int32 :=
  if v1 < (1 : Int32) then
    some (0 : Int32)
  else
    if (mm_I M (32 * 6 + 0) a0) < v1 then
      some (0 : Int32)
    else
      Option.bind (rx K L (mm_R M (32 * 6 + 4) a0) 13 (v1 - (1 : Int32))) (fun a1 =>
      some (mm_A M a1 (v1 - (1 : Int32)).toNatClampNeg))
set_option maxHeartbeats 4000000 in
theorem w_X6_wayOfRule_0 {X : Cx} {d n : Nat} {K L : Nat → Nat} {M : Mm} {a0 : Nat} {r : Int32} {v1 : Int32} (o : cOk X cX6_wayOfRule RX6 d) (hL : cL X = 2) (hr : (ch X).sig.returnType = some .int) (hk0 : K a0 = 6) (hE : cE X n K L M (some (.int r)) 0 0) (h : f_X6_wayOfRule K L M a0 v1 = some r) : gW X 0 0 n K L M 0 [(0, va_rf (some a0)), (1, .int v1)] [] := by
  unfold f_X6_wayOfRule at h
  refine g_iload_n o dX6_wayOfRule_0 1 rfl ?_
  refine g_iconst (v := (1 : Int32)) o dX6_wayOfRule_1 (by decide) ?_
  refine g_icmp_lt (tgt := 24) o dX6_wayOfRule_2 (by decide) (fun z => ?_) (fun z => ?_)
  · have h := (if_pos z).symm.trans h
    refine g_iconst (v := (0 : Int32)) o dX6_wayOfRule_24 (by decide) ?_
    cases h
    exact g_iret o hr hE dX6_wayOfRule_25
  · have h := (if_neg z).symm.trans h
    refine g_iload_n o dX6_wayOfRule_5 1 rfl ?_
    refine g_aload_n o dX6_wayOfRule_6 0 rfl ?_
    refine g_getI o fl_X6_24 (rc_self hk0) (by decide) rfl dX6_wayOfRule_7 ?_
    refine g_icmp_gt (tgt := 24) o dX6_wayOfRule_10 (by decide) (fun z => ?_) (fun z => ?_)
    · have h := (if_pos z).symm.trans h
      refine g_iconst (v := (0 : Int32)) o dX6_wayOfRule_24 (by decide) ?_
      cases h
      exact g_iret o hr hE dX6_wayOfRule_25
    · have h := (if_neg z).symm.trans h
      refine g_aload_n o dX6_wayOfRule_13 0 rfl ?_
      refine g_getR o fl_X6_21 (rc_self hk0) (by decide) rfl dX6_wayOfRule_14 ?_
      refine g_iload_n o dX6_wayOfRule_17 1 rfl ?_
      refine g_iconst (v := (1 : Int32)) o dX6_wayOfRule_18 (by decide) ?_
      refine g_isub o dX6_wayOfRule_19 ?_
      obtain ⟨a1, e2, h⟩ := ob h
      refine g_iald o e2 dX6_wayOfRule_20 ?_
      refine g_goto (tgt := 25) o dX6_wayOfRule_21 (by decide) ?_
      cases h
      exact g_iret o hr hE dX6_wayOfRule_25
theorem c_X6_wayOfRule (l : Launch) (D : va_G) (Y : Nat → ClassId) (B : Nat) {d : Nat} {n : Nat} {K L : Nat → Nat} {M : Mm} {a0 : Nat} {v1 : Int32} {r : Int32} (hd : 0 ≤ d) (hk0 : K a0 = 6) (h : f_X6_wayOfRule K L M a0 v1 = some r) : mC l D Y B d yX6_wayOfRule cX6_wayOfRule 2 (some .int) [va_rf (some a0), .int v1] n K L M n K L M (some (.int r)) 0 0 := by
  refine mk_met (by decide) (by simp [lgs_r, lgs_i, lgs_l, lgs_n]) (fun X e1 e2 e3 e4 o hL hr hnm hz hc hs hE => ?_)
  subst e1 e2 e3 e4
  rw [show lv_args 0 [va_rf (some a0), .int v1] = [(0, va_rf (some a0)), (1, .int v1)] by simp [lva_r, lva_i, lva_l, lva_n]]
  exact w_X6_wayOfRule_0 o hL hr hk0 hE h
def f_X1_wayBy (K L : Nat → Nat) (fu : Nat) (M : Mm) (a0 : Nat) (v1 : (Option Nat)) (v2 : Int32) : Option Int32 :=
  if v2 < (7 : Int32) then
    if v2 = 0 then
      Option.bind (rc K v1 9) (fun a7 =>
      Option.bind (f_X9_seatOf K L M a7 (mm_I M (32 * 1 + 4) a0)) (fun x9 =>
      Option.bind (rc K (mm_R M (32 * 9 + 4) a7) 7) (fun a11 =>
      Option.bind (f_X7_wayOfSeat K L fu M a11 x9) (fun x13 =>
      some x13))))
    else
      Option.bind (rc K v1 9) (fun a1 =>
      Option.bind (rc K (mm_R M (32 * 9 + 3) a1) 6) (fun a3 =>
      Option.bind (f_X6_wayOfRule K L M a3 v2) (fun x5 =>
      some x5)))
  else
    some (0 : Int32)
set_option maxHeartbeats 4000000 in
theorem w_X1_wayBy_0 {X : Cx} {d n : Nat} {K L : Nat → Nat} {fu : Nat} {M : Mm} {a0 : Nat} {r : Int32} {v1 : (Option Nat)} {v2 : Int32} (o : cOk X cX1_wayBy RX1 (d + 1)) (hL : cL X = 3) (hr : (ch X).sig.returnType = some .int) (hk0 : K a0 = 1) (hE : cE X n K L M (some (.int r)) 0 0) (hd : 1 ≤ d + 1) (h : f_X1_wayBy K L fu M a0 v1 v2 = some r) : gW X 0 0 n K L M 0 [(0, va_rf (some a0)), (1, va_rf v1), (2, .int v2)] [] := by
  unfold f_X1_wayBy at h
  refine g_iload_n o dX1_wayBy_0 2 rfl ?_
  refine g_bipush (v := (7 : Int32)) o dX1_wayBy_1 (by decide) ?_
  refine g_icmp_lt (tgt := 8) o dX1_wayBy_3 (by decide) (fun z => ?_) (fun z => ?_)
  · have h := (if_pos z).symm.trans h
    refine g_iload_n o dX1_wayBy_8 2 rfl ?_
    refine g_if_ne (tgt := 30) o dX1_wayBy_9 (by decide) (fun z => ?_) (fun z => ?_)
    · have h := (if_neg z).symm.trans h
      refine g_aload_n o dX1_wayBy_30 1 rfl ?_
      obtain ⟨a1, e2, h⟩ := ob h
      refine g_getR o fl_X1_71 e2 (by decide) rfl dX1_wayBy_31 ?_
      refine g_iload_n o dX1_wayBy_34 2 rfl ?_
      obtain ⟨a3, e4, h⟩ := ob h
      obtain ⟨x5, e6, h⟩ := ob h
      refine g_invV0 o e4 (by decide) ml_X1_94 kb_X6_wayOfRule kv_X6_wayOfRule rfl (c_X6_wayOfRule (cq X) (cD X) (cY X) (cB X) (d := d) (by omega) (rc_at e4).2 e6) rfl rfl (by simp [cat_i, cat_l, cat_rf]) dX1_wayBy_35 ?_
      cases h
      exact g_iret o hr hE dX1_wayBy_38
    · have h := (if_pos z).symm.trans h
      refine g_aload_n o dX1_wayBy_12 1 rfl ?_
      obtain ⟨a7, e8, h⟩ := ob h
      refine g_getR o fl_X1_81 e8 (by decide) rfl dX1_wayBy_13 ?_
      refine g_aload_n o dX1_wayBy_16 1 rfl ?_
      refine g_aload_n o dX1_wayBy_17 0 rfl ?_
      refine g_getI o fl_X1_46 (rc_self hk0) (by decide) rfl dX1_wayBy_18 ?_
      obtain ⟨x9, e10, h⟩ := ob h
      refine g_invV0 o e8 (by decide) ml_X1_85 kb_X9_seatOf kv_X9_seatOf rfl (c_X9_seatOf (cq X) (cD X) (cY X) (cB X) (d := d) (by omega) (rc_at e8).2 e10) rfl rfl (by simp [cat_i, cat_l, cat_rf]) dX1_wayBy_21 ?_
      obtain ⟨a11, e12, h⟩ := ob h
      obtain ⟨x13, e14, h⟩ := ob h
      refine g_invV0 o e12 (by decide) ml_X1_89 kb_X7_wayOfSeat kv_X7_wayOfSeat rfl (c_X7_wayOfSeat (cq X) (cD X) (cY X) (cB X) (d := d) (by omega) (rc_at e12).2 e14) rfl rfl (by simp [cat_i, cat_l, cat_rf]) dX1_wayBy_24 ?_
      refine g_goto (tgt := 38) o dX1_wayBy_27 (by decide) ?_
      cases h
      exact g_iret o hr hE dX1_wayBy_38
  · have h := (if_neg z).symm.trans h
    refine g_iconst (v := (0 : Int32)) o dX1_wayBy_6 (by decide) ?_
    cases h
    exact g_iret o hr hE dX1_wayBy_7
theorem c_X1_wayBy (l : Launch) (D : va_G) (Y : Nat → ClassId) (B : Nat) {d : Nat} {n : Nat} {K L : Nat → Nat} {fu : Nat} {M : Mm} {a0 : Nat} {v1 : (Option Nat)} {v2 : Int32} {r : Int32} (hd : 1 ≤ d) (hk0 : K a0 = 1) (h : f_X1_wayBy K L fu M a0 v1 v2 = some r) : mC l D Y B d yX1_wayBy cX1_wayBy 3 (some .int) [va_rf (some a0), va_rf v1, .int v2] n K L M n K L M (some (.int r)) 0 0 := by
  obtain ⟨d, rfl⟩ : ∃ e, d = e + 1 := ⟨d - 1, by omega⟩
  refine mk_met (by decide) (by simp [lgs_r, lgs_i, lgs_l, lgs_n]) (fun X e1 e2 e3 e4 o hL hr hnm hz hc hs hE => ?_)
  subst e1 e2 e3 e4
  rw [show lv_args 0 [va_rf (some a0), va_rf v1, .int v2] = [(0, va_rf (some a0)), (1, va_rf v1), (2, .int v2)] by simp [lva_r, lva_i, lva_l, lva_n]]
  exact w_X1_wayBy_0 o hL hr hk0 hE hd h
def f_X1_wayAtb (K L : Nat → Nat) (fu : Nat) (wf : Nat → Option Nat → Int32 → Int32 → Mm → Option (Int32 × Mm)) (a0 : Nat) (v1 : (Option Nat)) (v2 : Int32) (v3 : Int32) (M : Mm) : Option (Int32 × Mm) :=
  Option.bind (rc K v1 8) (fun a1 =>
  Option.bind (f_X8_switchAt K L M a1 v2) (fun x3 =>
  if x3 = none then
    some ((0 : Int32), M)
  else
    if v3 ≤ (16 : Int32) then
      Option.bind (f_X11_hasBit (mm_I M (32 * 1 + 6) a0) v2) (fun x5 =>
      if x5 = 0 then
        Option.bind (f_X1_whyAt K L fu wf a0 v1 v2 v3 M) (fun x9 =>
        Option.bind (f_X1_wayBy K L fu x9.2 a0 x3 (x9.1)) (fun x11 =>
        Option.bind (rx K L (mm_R M (32 * 1 + 7) a0) 13 v2) (fun a13 =>
        bn (ms_A x9.2 a13 (upd (mm_A x9.2 a13) v2.toNatClampNeg x11)) (fun M15 =>
        bn (ms_I M15 (32 * 1 + 6) a0 ((mm_I M15 (32 * 1 + 6) a0) ||| ((1 : Int32) <<< (v2 &&& 31)))) (fun M17 =>
        Option.bind (rx K L (mm_R M17 (32 * 1 + 7) a0) 13 v2) (fun a19 =>
        some (mm_A M17 a19 v2.toNatClampNeg, M17)))))))
      else
        Option.bind (rx K L (mm_R M (32 * 1 + 7) a0) 13 v2) (fun a7 =>
        some (mm_A M a7 v2.toNatClampNeg, M)))
    else
      some ((0 : Int32), M)))
set_option maxHeartbeats 4000000 in
theorem w_X1_wayAt_0 {X : Cx} {d n : Nat} {K L : Nat → Nat} {fu : Nat} {a0 : Nat} {r : (Int32 × Mm)} {wf : Nat → Option Nat → Int32 → Int32 → Mm → Option (Int32 × Mm)} {D0 : Nat} {v1 : (Option Nat)} {v2 : Int32} {v3 : Int32} {M : Mm} (o : cOk X cX1_wayAt RX1 (d + 1)) (hL : cL X = 5) (hr : (ch X).sig.returnType = some .int) (hz : (cs X).heap.size + 0 = cB X + n) (hk0 : K a0 = 1) (hE : cE X n K L r.2 (some (.int r.1)) 0 0) (hwf : ∀ (e : Nat), D0 ≤ e → ∀ {M : Mm} {a0 : Nat} {v1 : Option Nat} {v2 v3 : Int32} {r : Int32 × Mm}, K a0 = 1 → wf a0 v1 v2 v3 M = some r → mC (cq X) (cD X) (cY X) (cB X) e yX1_wayAt cX1_wayAt 5 (some .int) [va_rf (some a0), va_rf v1, .int v2, .int v3] n K L M n K L r.2 (some (.int r.1)) 0 0) (hD : 12 ≤ D0) (hd : D0 + 4 ≤ d + 1) (h : f_X1_wayAtb K L fu wf a0 v1 v2 v3 M = some r) : gW X 0 0 n K L M 0 [(0, va_rf (some a0)), (1, va_rf v1), (2, .int v2), (3, .int v3)] [] := by
  unfold f_X1_wayAtb at h
  refine g_aload_n o dX1_wayAt_0 1 rfl ?_
  refine g_iload_n o dX1_wayAt_1 2 rfl ?_
  obtain ⟨a1, e2, h⟩ := ob h
  obtain ⟨x3, e4, h⟩ := ob h
  refine g_invV0 o e2 (by decide) ml_X1_31 kb_X8_switchAt kv_X8_switchAt rfl (c_X8_switchAt (cq X) (cD X) (cY X) (cB X) (d := d) (by omega) (rc_at e2).2 e4) rfl rfl (by simp [cat_i, cat_l, cat_rf]) dX1_wayAt_2 ?_
  refine g_astore (i := 4) (ls' := [(4, va_rf x3), (0, va_rf (some a0)), (1, va_rf v1), (2, .int v2), (3, .int v3)]) o dX1_wayAt_5 (ltL hL (by decide)) rfl ?_
  refine g_aload o dX1_wayAt_7 0 rfl ?_
  refine g_ifnull (tgt := 18) o dX1_wayAt_9 (by decide) (fun z => ?_) (fun z => ?_)
  · have h := (if_pos z).symm.trans h
    refine g_iconst (v := (0 : Int32)) o dX1_wayAt_18 (by decide) ?_
    cases h
    exact g_iret o hr hE dX1_wayAt_19
  · have h := (if_neg z).symm.trans h
    refine g_iload_n o dX1_wayAt_12 4 rfl ?_
    refine g_bipush (v := (16 : Int32)) o dX1_wayAt_13 (by decide) ?_
    refine g_icmp_le (tgt := 20) o dX1_wayAt_15 (by decide) (fun z => ?_) (fun z => ?_)
    · have h := (if_pos z).symm.trans h
      refine g_aload_n o dX1_wayAt_20 1 rfl ?_
      refine g_getI o fl_X1_49 (rc_self hk0) (by decide) rfl dX1_wayAt_21 ?_
      refine g_iload_n o dX1_wayAt_24 3 rfl ?_
      obtain ⟨x5, e6, h⟩ := ob h
      refine g_invSN0 o mn_X1_52 kb_X11_hasBit ks_X11_hasBit (c_X11_hasBit (cq X) (cD X) (cY X) (cB X) (d := d) (by omega) e6) rfl rfl (by simp [cat_i, cat_l, cat_rf]) dX1_wayAt_25 ?_
      refine g_if_ne (tgt := 62) o dX1_wayAt_28 (by decide) (fun z => ?_) (fun z => ?_)
      · have h := (if_neg z).symm.trans h
        refine g_aload_n o dX1_wayAt_62 1 rfl ?_
        refine g_getR o fl_X1_9 (rc_self hk0) (by decide) rfl dX1_wayAt_63 ?_
        refine g_iload_n o dX1_wayAt_66 3 rfl ?_
        obtain ⟨a7, e8, h⟩ := ob h
        refine g_iald o e8 dX1_wayAt_67 ?_
        cases h
        exact g_iret o hr hE dX1_wayAt_68
      · have h := (if_pos z).symm.trans h
        refine g_aload_n o dX1_wayAt_31 1 rfl ?_
        refine g_getR o fl_X1_9 (rc_self hk0) (by decide) rfl dX1_wayAt_32 ?_
        refine g_iload_n o dX1_wayAt_35 3 rfl ?_
        refine g_aload_n o dX1_wayAt_36 1 rfl ?_
        refine g_aload o dX1_wayAt_37 0 rfl ?_
        refine g_aload_n o dX1_wayAt_39 1 rfl ?_
        refine g_aload_n o dX1_wayAt_40 2 rfl ?_
        refine g_iload_n o dX1_wayAt_41 3 rfl ?_
        refine g_iload_n o dX1_wayAt_42 4 rfl ?_
        obtain ⟨x9, e10, h⟩ := ob h
        refine g_invV0 o (rc_self hk0) (by decide) ml_X1_56 kb_X1_whyAt kv_X1_whyAt rfl (c_X1_whyAt (cq X) (cD X) (cY X) (cB X) (d := d) hwf hD (by omega) (rc_at (rc_self hk0)).2 e10) rfl rfl (by simp [cat_i, cat_l, cat_rf]) dX1_wayAt_43 ?_
        obtain ⟨x11, e12, h⟩ := ob h
        refine g_invV0 o (rc_self hk0) (by decide) ml_X1_60 kb_X1_wayBy kv_X1_wayBy rfl (c_X1_wayBy (cq X) (cD X) (cY X) (cB X) (d := d) (by omega) (rc_at (rc_self hk0)).2 e12) rfl rfl (by simp [cat_i, cat_l, cat_rf]) dX1_wayAt_46 ?_
        obtain ⟨a13, e14, h⟩ := ob h
        refine g_iast o hz e14  dX1_wayAt_49 ?_
        obtain ⟨M15, e16, h⟩ := bn_at h
        refine g_mem e16 ?_
        refine g_aload_n o dX1_wayAt_50 1 rfl ?_
        refine g_dup o dX1_wayAt_51 (cat_rf _) ?_
        refine g_getI o fl_X1_49 (rc_self hk0) (by decide) rfl dX1_wayAt_52 ?_
        refine g_iconst (v := (1 : Int32)) o dX1_wayAt_55 (by decide) ?_
        refine g_iload_n o dX1_wayAt_56 3 rfl ?_
        refine g_ishl o dX1_wayAt_57 ?_
        refine g_ior o dX1_wayAt_58 ?_
        refine g_putI o hz fl_X1_49 (rc_self hk0) (by decide) rfl rfl rfl  dX1_wayAt_59 ?_
        obtain ⟨M17, e18, h⟩ := bn_at h
        refine g_mem e18 ?_
        refine g_aload_n o dX1_wayAt_62 1 rfl ?_
        refine g_getR o fl_X1_9 (rc_self hk0) (by decide) rfl dX1_wayAt_63 ?_
        refine g_iload_n o dX1_wayAt_66 3 rfl ?_
        obtain ⟨a19, e20, h⟩ := ob h
        refine g_iald o e20 dX1_wayAt_67 ?_
        cases h
        exact g_iret o hr hE dX1_wayAt_68
    · have h := (if_neg z).symm.trans h
      refine g_iconst (v := (0 : Int32)) o dX1_wayAt_18 (by decide) ?_
      cases h
      exact g_iret o hr hE dX1_wayAt_19
theorem c_X1_wayAtb (l : Launch) (D : va_G) (Y : Nat → ClassId) (B : Nat) {d : Nat} {n : Nat} {K L : Nat → Nat} {fu : Nat} {M : Mm} {a0 : Nat} {v1 : (Option Nat)} {v2 : Int32} {v3 : Int32} {r : (Int32 × Mm)} {wf : Nat → Option Nat → Int32 → Int32 → Mm → Option (Int32 × Mm)} {D0 : Nat} (hwf : ∀ (e : Nat), D0 ≤ e → ∀ {M : Mm} {a0 : Nat} {v1 : Option Nat} {v2 v3 : Int32} {r : Int32 × Mm}, K a0 = 1 → wf a0 v1 v2 v3 M = some r → mC l D Y B e yX1_wayAt cX1_wayAt 5 (some .int) [va_rf (some a0), va_rf v1, .int v2, .int v3] n K L M n K L r.2 (some (.int r.1)) 0 0) (hD : 12 ≤ D0) (hd : D0 + 4 ≤ d) (hk0 : K a0 = 1) (h : f_X1_wayAtb K L fu wf a0 v1 v2 v3 M = some r) : mC l D Y B d yX1_wayAt cX1_wayAt 5 (some .int) [va_rf (some a0), va_rf v1, .int v2, .int v3] n K L M n K L r.2 (some (.int r.1)) 0 0 := by
  obtain ⟨d, rfl⟩ : ∃ e, d = e + 1 := ⟨d - 1, by omega⟩
  refine mk_met (by decide) (by simp [lgs_r, lgs_i, lgs_l, lgs_n]) (fun X e1 e2 e3 e4 o hL hr hnm hz hc hs hE => ?_)
  subst e1 e2 e3 e4
  rw [show lv_args 0 [va_rf (some a0), va_rf v1, .int v2, .int v3] = [(0, va_rf (some a0)), (1, va_rf v1), (2, .int v2), (3, .int v3)] by simp [lva_r, lva_i, lva_l, lva_n]]
  exact w_X1_wayAt_0 o hL hr hz hk0 hE hwf hD hd h
def f_X1_wayAt (K L : Nat → Nat) (fu : Nat) : Nat → Nat → Option Nat → Int32 → Int32 → Mm → Option (Int32 × Mm)
  | 0, _, _, _, _, _ => none
  | g + 1, a0, v1, v2, v3, M => f_X1_wayAtb K L fu (f_X1_wayAt K L fu g) a0 v1 v2 v3 M
theorem cw_X1_wayAt (l : Launch) (D : va_G) (Y : Nat → ClassId) (B : Nat) {n : Nat} {K L : Nat → Nat} {fu : Nat} : ∀ (g e : Nat), 12 + 5 * g ≤ e → ∀ {M : Mm} {a0 : Nat} {v1 : Option Nat} {v2 v3 : Int32} {r : Int32 × Mm}, K a0 = 1 → f_X1_wayAt K L fu g a0 v1 v2 v3 M = some r → mC l D Y B e yX1_wayAt cX1_wayAt 5 (some .int) [va_rf (some a0), va_rf v1, .int v2, .int v3] n K L M n K L r.2 (some (.int r.1)) 0 0
  | 0, _, _, _, _, _, _, _, _, _, h => by cases h
  | g + 1, e, he, _, _, _, _, _, _, hk, h => c_X1_wayAtb l D Y B (D0 := 12 + 5 * g) (fun e he => cw_X1_wayAt l D Y B g e he) (by omega) (by omega) hk h
def f_X2_begin (K L : Nat → Nat) (a0 : Nat) (v1 : Int32) (M : Mm) : Option Mm :=
  Option.bind (zb v1) (fun u2 =>
  bn (ms_I M (32 * 2 + 0) a0 v1) (fun M3 =>
  bn (ms_I M3 (32 * 2 + 1) a0 (0 : Int32)) (fun M5 =>
  some M5)))
set_option maxHeartbeats 4000000 in
theorem w_X2_begin_0 {X : Cx} {d n : Nat} {K L : Nat → Nat} {a0 : Nat} {r : Mm} {v1 : Int32} {M : Mm} (o : cOk X cX2_begin RX2 d) (hL : cL X = 2) (hr : (ch X).sig.returnType = none) (hz : (cs X).heap.size + 0 = cB X + n) (hk0 : K a0 = 2) (hE : cE X n K L r none 0 0) (h : f_X2_begin K L a0 v1 M = some r) : gW X 0 0 n K L M 0 [(0, va_rf (some a0)), (1, .int v1)] [] := by
  unfold f_X2_begin at h
  refine g_aload_n o dX2_begin_0 0 rfl ?_
  refine g_iload_n o dX2_begin_1 1 rfl ?_
  obtain ⟨u2, e1, h⟩ := ob h
  refine g_putZ o hz fl_X2_21 (rc_self hk0) (by decide) rfl rfl rfl (zb_at e1) dX2_begin_2 ?_
  obtain ⟨M3, e4, h⟩ := bn_at h
  refine g_mem e4 ?_
  refine g_aload_n o dX2_begin_5 0 rfl ?_
  refine g_iconst (v := (0 : Int32)) o dX2_begin_6 (by decide) ?_
  refine g_putI o hz fl_X2_25 (rc_self hk0) (by decide) rfl rfl rfl  dX2_begin_7 ?_
  obtain ⟨M5, e6, h⟩ := bn_at h
  refine g_mem e6 ?_
  cases h
  exact g_vret o hr hE dX2_begin_10
theorem c_X2_begin (l : Launch) (D : va_G) (Y : Nat → ClassId) (B : Nat) {d : Nat} {n : Nat} {K L : Nat → Nat} {M : Mm} {a0 : Nat} {v1 : Int32} {r : Mm} (hd : 0 ≤ d) (hk0 : K a0 = 2) (h : f_X2_begin K L a0 v1 M = some r) : mC l D Y B d yX2_begin cX2_begin 2 (none) [va_rf (some a0), .int v1] n K L M n K L r none 0 0 := by
  refine mk_met (by decide) (by simp [lgs_r, lgs_i, lgs_l, lgs_n]) (fun X e1 e2 e3 e4 o hL hr hnm hz hc hs hE => ?_)
  subst e1 e2 e3 e4
  rw [show lv_args 0 [va_rf (some a0), .int v1] = [(0, va_rf (some a0)), (1, .int v1)] by simp [lva_r, lva_i, lva_l, lva_n]]
  exact w_X2_begin_0 o hL hr hz hk0 hE h
def f_X2_takeFrom (K L : Nat → Nat) (a0 : Nat) (v1 : (Option Nat)) (M : Mm) : Option Mm :=
  Option.bind (rc K v1 2) (fun a1 =>
  Option.bind (zb (mm_I M (32 * 2 + 0) a1)) (fun u4 =>
  bn (ms_I M (32 * 2 + 0) a0 (mm_I M (32 * 2 + 0) a1)) (fun M5 =>
  bn (ms_I M5 (32 * 2 + 1) a0 (mm_I M5 (32 * 2 + 1) a1)) (fun M7 =>
  Option.bind (rp K L (mm_R M7 (32 * 2 + 2) a1) (0 : Int32) (mm_I M7 (32 * 2 + 1) a0)) (fun a9 => Option.bind (rp K L (mm_R M7 (32 * 2 + 2) a0) (0 : Int32) (mm_I M7 (32 * 2 + 1) a0)) (fun a11 =>
  bn (ms_A M7 a11 (va_cpy (mm_A M7 a9) (mm_A M7 a11) (0 : Int32).toNatClampNeg (0 : Int32).toNatClampNeg (mm_I M7 (32 * 2 + 1) a0).toNatClampNeg)) (fun M13 =>
  Option.bind (rp K L (mm_R M13 (32 * 2 + 3) a1) (0 : Int32) (mm_I M13 (32 * 2 + 1) a0)) (fun a15 => Option.bind (rp K L (mm_R M13 (32 * 2 + 3) a0) (0 : Int32) (mm_I M13 (32 * 2 + 1) a0)) (fun a17 =>
  bn (ms_A M13 a17 (va_cpy (mm_A M13 a15) (mm_A M13 a17) (0 : Int32).toNatClampNeg (0 : Int32).toNatClampNeg (mm_I M13 (32 * 2 + 1) a0).toNatClampNeg)) (fun M19 =>
  Option.bind (rp K L (mm_R M19 (32 * 2 + 4) a1) (0 : Int32) (mm_I M19 (32 * 2 + 1) a0)) (fun a21 => Option.bind (rp K L (mm_R M19 (32 * 2 + 4) a0) (0 : Int32) (mm_I M19 (32 * 2 + 1) a0)) (fun a23 =>
  bn (ms_A M19 a23 (va_cpy (mm_A M19 a21) (mm_A M19 a23) (0 : Int32).toNatClampNeg (0 : Int32).toNatClampNeg (mm_I M19 (32 * 2 + 1) a0).toNatClampNeg)) (fun M25 =>
  some M25)))))))))))))
set_option maxHeartbeats 4000000 in
theorem w_X2_takeFrom_0 {X : Cx} {d n : Nat} {K L : Nat → Nat} {a0 : Nat} {r : Mm} {v1 : (Option Nat)} {M : Mm} (o : cOk X cX2_takeFrom RX2 d) (hL : cL X = 2) (hr : (ch X).sig.returnType = none) (hz : (cs X).heap.size + 0 = cB X + n) (hk0 : K a0 = 2) (hE : cE X n K L r none 0 0) (hd : 1 ≤ d) (h : f_X2_takeFrom K L a0 v1 M = some r) : gW X 0 0 n K L M 0 [(0, va_rf (some a0)), (1, va_rf v1)] [] := by
  unfold f_X2_takeFrom at h
  refine g_aload_n o dX2_takeFrom_0 0 rfl ?_
  refine g_aload_n o dX2_takeFrom_1 1 rfl ?_
  obtain ⟨a1, e2, h⟩ := ob h
  refine g_getI o fl_X2_21 e2 (by decide) rfl dX2_takeFrom_2 ?_
  obtain ⟨u4, e3, h⟩ := ob h
  refine g_putZ o hz fl_X2_21 (rc_self hk0) (by decide) rfl rfl rfl (zb_at e3) dX2_takeFrom_5 ?_
  obtain ⟨M5, e6, h⟩ := bn_at h
  refine g_mem e6 ?_
  refine g_aload_n o dX2_takeFrom_8 0 rfl ?_
  refine g_aload_n o dX2_takeFrom_9 1 rfl ?_
  refine g_getI o fl_X2_25 e2 (by decide) rfl dX2_takeFrom_10 ?_
  refine g_putI o hz fl_X2_25 (rc_self hk0) (by decide) rfl rfl rfl  dX2_takeFrom_13 ?_
  obtain ⟨M7, e8, h⟩ := bn_at h
  refine g_mem e8 ?_
  refine g_aload_n o dX2_takeFrom_16 1 rfl ?_
  refine g_getR o fl_X2_9 e2 (by decide) rfl dX2_takeFrom_17 ?_
  refine g_iconst (v := (0 : Int32)) o dX2_takeFrom_20 (by decide) ?_
  refine g_aload_n o dX2_takeFrom_21 0 rfl ?_
  refine g_getR o fl_X2_9 (rc_self hk0) (by decide) rfl dX2_takeFrom_22 ?_
  refine g_iconst (v := (0 : Int32)) o dX2_takeFrom_25 (by decide) ?_
  refine g_aload_n o dX2_takeFrom_26 0 rfl ?_
  refine g_getI o fl_X2_25 (rc_self hk0) (by decide) rfl dX2_takeFrom_27 ?_
  obtain ⟨a9, e10, h⟩ := ob h
  obtain ⟨a11, e12, h⟩ := ob h
  refine g_copy o hz ml_X2_29 (by omega) e10 e12 (by simp [cat_i, cat_l, cat_rf]) dX2_takeFrom_30 ?_
  obtain ⟨M13, e14, h⟩ := bn_at h
  refine g_mem e14 ?_
  refine g_aload_n o dX2_takeFrom_33 1 rfl ?_
  refine g_getR o fl_X2_15 e2 (by decide) rfl dX2_takeFrom_34 ?_
  refine g_iconst (v := (0 : Int32)) o dX2_takeFrom_37 (by decide) ?_
  refine g_aload_n o dX2_takeFrom_38 0 rfl ?_
  refine g_getR o fl_X2_15 (rc_self hk0) (by decide) rfl dX2_takeFrom_39 ?_
  refine g_iconst (v := (0 : Int32)) o dX2_takeFrom_42 (by decide) ?_
  refine g_aload_n o dX2_takeFrom_43 0 rfl ?_
  refine g_getI o fl_X2_25 (rc_self hk0) (by decide) rfl dX2_takeFrom_44 ?_
  obtain ⟨a15, e16, h⟩ := ob h
  obtain ⟨a17, e18, h⟩ := ob h
  refine g_copy o hz ml_X2_29 (by omega) e16 e18 (by simp [cat_i, cat_l, cat_rf]) dX2_takeFrom_47 ?_
  obtain ⟨M19, e20, h⟩ := bn_at h
  refine g_mem e20 ?_
  refine g_aload_n o dX2_takeFrom_50 1 rfl ?_
  refine g_getR o fl_X2_18 e2 (by decide) rfl dX2_takeFrom_51 ?_
  refine g_iconst (v := (0 : Int32)) o dX2_takeFrom_54 (by decide) ?_
  refine g_aload_n o dX2_takeFrom_55 0 rfl ?_
  refine g_getR o fl_X2_18 (rc_self hk0) (by decide) rfl dX2_takeFrom_56 ?_
  refine g_iconst (v := (0 : Int32)) o dX2_takeFrom_59 (by decide) ?_
  refine g_aload_n o dX2_takeFrom_60 0 rfl ?_
  refine g_getI o fl_X2_25 (rc_self hk0) (by decide) rfl dX2_takeFrom_61 ?_
  obtain ⟨a21, e22, h⟩ := ob h
  obtain ⟨a23, e24, h⟩ := ob h
  refine g_copy o hz ml_X2_29 (by omega) e22 e24 (by simp [cat_i, cat_l, cat_rf]) dX2_takeFrom_64 ?_
  obtain ⟨M25, e26, h⟩ := bn_at h
  refine g_mem e26 ?_
  cases h
  exact g_vret o hr hE dX2_takeFrom_67
theorem c_X2_takeFrom (l : Launch) (D : va_G) (Y : Nat → ClassId) (B : Nat) {d : Nat} {n : Nat} {K L : Nat → Nat} {M : Mm} {a0 : Nat} {v1 : (Option Nat)} {r : Mm} (hd : 1 ≤ d) (hk0 : K a0 = 2) (h : f_X2_takeFrom K L a0 v1 M = some r) : mC l D Y B d yX2_takeFrom cX2_takeFrom 2 (none) [va_rf (some a0), va_rf v1] n K L M n K L r none 0 0 := by
  refine mk_met (by decide) (by simp [lgs_r, lgs_i, lgs_l, lgs_n]) (fun X e1 e2 e3 e4 o hL hr hnm hz hc hs hE => ?_)
  subst e1 e2 e3 e4
  rw [show lv_args 0 [va_rf (some a0), va_rf v1] = [(0, va_rf (some a0)), (1, va_rf v1)] by simp [lva_r, lva_i, lva_l, lva_n]]
  exact w_X2_takeFrom_0 o hL hr hz hk0 hE hd h
def f_X2_tell_17b (K L : Nat → Nat) (fu : Nat) (k17 : Int32 → Int32 → Int32 → Int32 → Mm → Option Mm) (a0 : Nat) (v1 : Int32) (v2 : Int32) (v3 : Int32) (v4 : Int32) (M : Mm) : Option Mm :=
  if v1 ≤ v4 then
    bn (ms_I M (32 * 2 + 1) a0 (if (mm_I M (32 * 2 + 1) a0) < (v1 + (1 : Int32)) then (v1 + (1 : Int32)) else (mm_I M (32 * 2 + 1) a0))) (fun M1 =>
    Option.bind (rx K L (mm_R M1 (32 * 2 + 2) a0) 13 v1) (fun a3 =>
    bn (ms_A M1 a3 (upd (mm_A M1 a3) v1.toNatClampNeg v2)) (fun M5 =>
    Option.bind (rx K L (mm_R M5 (32 * 2 + 3) a0) 13 v1) (fun a7 =>
    bn (ms_A M5 a7 (upd (mm_A M5 a7) v1.toNatClampNeg v3)) (fun M9 =>
    Option.bind (rx K L (mm_R M9 (32 * 2 + 4) a0) 13 v1) (fun a11 =>
    bn (ms_A M9 a11 (upd (mm_A M9 a11) v1.toNatClampNeg (0 : Int32))) (fun M13 =>
    some M13)))))))
  else
    Option.bind (rx K L (mm_R M (32 * 2 + 2) a0) 13 v4) (fun a15 =>
    bn (ms_A M a15 (upd (mm_A M a15) v4.toNatClampNeg (-1 : Int32))) (fun M17 =>
    k17 v1 v2 v3 (v4 + 1) M17))
def f_X2_tell_17 (K L : Nat → Nat) (fu : Nat) (a0 : Nat) : Nat → Int32 → Int32 → Int32 → Int32 → Mm → Option Mm
  | 0, _, _, _, _, _ => none
  | g + 1, v1, v2, v3, v4, M => f_X2_tell_17b K L fu (f_X2_tell_17 K L fu a0 g) a0 v1 v2 v3 v4 M
set_option maxHeartbeats 4000000 in
theorem w_X2_tell_17b {X : Cx} {d n : Nat} {K L : Nat → Nat} {fu : Nat} {a0 : Nat} {r : Mm} {k17 : Int32 → Int32 → Int32 → Int32 → Mm → Option Mm} {v1 : Int32} {v2 : Int32} {v3 : Int32} {v4 : Int32} {M : Mm} (o : cOk X cX2_tell RX2 (d + 1)) (hL : cL X = 5) (hr : (ch X).sig.returnType = none) (hz : (cs X).heap.size + 0 = cB X + n) (hk0 : K a0 = 2) (hE : cE X n K L r none 0 0) (hk17 : ∀ (v1 : Int32) (v2 : Int32) (v3 : Int32) (v4 : Int32) (M : Mm), k17 v1 v2 v3 v4 M = some r → gW X 0 0 n K L M 17 [(0, va_rf (some a0)), (1, .int v1), (2, .int v2), (3, .int v3), (4, .int v4)] []) (hd : 1 ≤ d + 1) (h : f_X2_tell_17b K L fu k17 a0 v1 v2 v3 v4 M = some r) : gW X 0 0 n K L M 17 [(0, va_rf (some a0)), (1, .int v1), (2, .int v2), (3, .int v3), (4, .int v4)] [] := by
  unfold f_X2_tell_17b at h
  refine g_iload o dX2_tell_17 4 rfl ?_
  refine g_iload_n o dX2_tell_19 1 rfl ?_
  refine g_icmp_ge (tgt := 37) o dX2_tell_20 (by decide) (fun z => ?_) (fun z => ?_)
  · have h := (if_pos z).symm.trans h
    refine g_aload_n o dX2_tell_37 0 rfl ?_
    refine g_aload_n o dX2_tell_38 0 rfl ?_
    refine g_getI o fl_X2_25 (rc_self hk0) (by decide) rfl dX2_tell_39 ?_
    refine g_iload_n o dX2_tell_42 1 rfl ?_
    refine g_iconst (v := (1 : Int32)) o dX2_tell_43 (by decide) ?_
    refine g_iadd o dX2_tell_44 ?_
    refine g_mmax o ml_X2_43 (by omega) (by simp [cat_i, cat_l, cat_rf]) dX2_tell_45 ?_
    refine g_putI o hz fl_X2_25 (rc_self hk0) (by decide) rfl rfl rfl  dX2_tell_48 ?_
    obtain ⟨M1, e2, h⟩ := bn_at h
    refine g_mem e2 ?_
    refine g_aload_n o dX2_tell_51 0 rfl ?_
    refine g_getR o fl_X2_9 (rc_self hk0) (by decide) rfl dX2_tell_52 ?_
    refine g_iload_n o dX2_tell_55 1 rfl ?_
    refine g_iload_n o dX2_tell_56 2 rfl ?_
    obtain ⟨a3, e4, h⟩ := ob h
    refine g_iast o hz e4  dX2_tell_57 ?_
    obtain ⟨M5, e6, h⟩ := bn_at h
    refine g_mem e6 ?_
    refine g_aload_n o dX2_tell_58 0 rfl ?_
    refine g_getR o fl_X2_15 (rc_self hk0) (by decide) rfl dX2_tell_59 ?_
    refine g_iload_n o dX2_tell_62 1 rfl ?_
    refine g_iload_n o dX2_tell_63 3 rfl ?_
    obtain ⟨a7, e8, h⟩ := ob h
    refine g_iast o hz e8  dX2_tell_64 ?_
    obtain ⟨M9, e10, h⟩ := bn_at h
    refine g_mem e10 ?_
    refine g_aload_n o dX2_tell_65 0 rfl ?_
    refine g_getR o fl_X2_18 (rc_self hk0) (by decide) rfl dX2_tell_66 ?_
    refine g_iload_n o dX2_tell_69 1 rfl ?_
    refine g_iconst (v := (0 : Int32)) o dX2_tell_70 (by decide) ?_
    obtain ⟨a11, e12, h⟩ := ob h
    refine g_iast o hz e12  dX2_tell_71 ?_
    obtain ⟨M13, e14, h⟩ := bn_at h
    refine g_mem e14 ?_
    cases h
    exact g_vret o hr hE dX2_tell_72
  · have h := (if_neg z).symm.trans h
    refine g_aload_n o dX2_tell_23 0 rfl ?_
    refine g_getR o fl_X2_9 (rc_self hk0) (by decide) rfl dX2_tell_24 ?_
    refine g_iload o dX2_tell_27 4 rfl ?_
    refine g_iconst (v := (-1 : Int32)) o dX2_tell_29 (by decide) ?_
    obtain ⟨a15, e16, h⟩ := ob h
    refine g_iast o hz e16  dX2_tell_30 ?_
    obtain ⟨M17, e18, h⟩ := bn_at h
    refine g_mem e18 ?_
    refine g_iinc (i := 4) (v := v4 + 1) (ls' := [(4, .int (v4 + 1)), (0, va_rf (some a0)), (1, .int v1), (2, .int v2), (3, .int v3)]) o dX2_tell_31 4 rfl (by first | rfl | (congr 1)) (ltL hL (by decide)) rfl ?_
    refine g_goto (tgt := 17) o dX2_tell_34 (by decide) ?_
    refine gsub [1, 2, 3, 4, 0] rfl ?_
    exact hk17 _ _ _ _ _ h
theorem w_X2_tell_17_n {X : Cx} {d n : Nat} {K L : Nat → Nat} {fu : Nat} {a0 : Nat} {r : Mm} (o : cOk X cX2_tell RX2 (d + 1)) (hL : cL X = 5) (hr : (ch X).sig.returnType = none) (hz : (cs X).heap.size + 0 = cB X + n) (hk0 : K a0 = 2) (hE : cE X n K L r none 0 0) (hd : 1 ≤ d + 1) : ∀ (g : Nat) (v1 : Int32) (v2 : Int32) (v3 : Int32) (v4 : Int32) (M : Mm), f_X2_tell_17 K L fu a0 g v1 v2 v3 v4 M = some r → gW X 0 0 n K L M 17 [(0, va_rf (some a0)), (1, .int v1), (2, .int v2), (3, .int v3), (4, .int v4)] []
  | 0, _, _, _, _, _, h => by cases h
  | g + 1, v1, v2, v3, v4, M, h => w_X2_tell_17b o hL hr hz hk0 hE (w_X2_tell_17_n o hL hr hz hk0 hE hd g) hd h
theorem w_X2_tell_17 {X : Cx} {d n : Nat} {K L : Nat → Nat} {fu : Nat} {a0 : Nat} {r : Mm} {v1 : Int32} {v2 : Int32} {v3 : Int32} {v4 : Int32} {M : Mm} (o : cOk X cX2_tell RX2 (d + 1)) (hL : cL X = 5) (hr : (ch X).sig.returnType = none) (hz : (cs X).heap.size + 0 = cB X + n) (hk0 : K a0 = 2) (hE : cE X n K L r none 0 0) (hd : 1 ≤ d + 1) (h : f_X2_tell_17 K L fu a0 fu v1 v2 v3 v4 M = some r) : gW X 0 0 n K L M 17 [(0, va_rf (some a0)), (1, .int v1), (2, .int v2), (3, .int v3), (4, .int v4)] [] := w_X2_tell_17_n o hL hr hz hk0 hE hd fu v1 v2 v3 v4 M h
def f_X2_tell (K L : Nat → Nat) (fu : Nat) (a0 : Nat) (v1 : Int32) (v2 : Int32) (v3 : Int32) (M : Mm) : Option Mm :=
  Option.bind (f_X11_within v1 (239 : Int32)) (fun x1 =>
  if x1 = 0 then
    some M
  else
    bn (mm_I M (32 * 2 + 1) a0) (fun x3 =>
    f_X2_tell_17 K L fu a0 fu v1 v2 v3 x3 M))
set_option maxHeartbeats 4000000 in
theorem w_X2_tell_0 {X : Cx} {d n : Nat} {K L : Nat → Nat} {fu : Nat} {a0 : Nat} {r : Mm} {v1 : Int32} {v2 : Int32} {v3 : Int32} {M : Mm} (o : cOk X cX2_tell RX2 (d + 1)) (hL : cL X = 5) (hr : (ch X).sig.returnType = none) (hz : (cs X).heap.size + 0 = cB X + n) (hk0 : K a0 = 2) (hE : cE X n K L r none 0 0) (hd : 1 ≤ d + 1) (h : f_X2_tell K L fu a0 v1 v2 v3 M = some r) : gW X 0 0 n K L M 0 [(0, va_rf (some a0)), (1, .int v1), (2, .int v2), (3, .int v3)] [] := by
  unfold f_X2_tell at h
  refine g_iload_n o dX2_tell_0 1 rfl ?_
  refine g_sipush (v := (239 : Int32)) o dX2_tell_1 (by decide) ?_
  obtain ⟨x1, e2, h⟩ := ob h
  refine g_invSN0 o mn_X2_39 kb_X11_within ks_X11_within (c_X11_within (cq X) (cD X) (cY X) (cB X) (d := d) (by omega) e2) rfl rfl (by simp [cat_i, cat_l, cat_rf]) dX2_tell_4 ?_
  refine g_if_ne (tgt := 11) o dX2_tell_7 (by decide) (fun z => ?_) (fun z => ?_)
  · have h := (if_neg z).symm.trans h
    refine g_aload_n o dX2_tell_11 0 rfl ?_
    refine g_getI o fl_X2_25 (rc_self hk0) (by decide) rfl dX2_tell_12 ?_
    obtain ⟨x3, e4, h⟩ := bn_at h
    refine g_topI e4 ?_
    refine g_istore (i := 4) (ls' := [(4, .int x3), (0, va_rf (some a0)), (1, .int v1), (2, .int v2), (3, .int v3)]) o dX2_tell_15 (ltL hL (by decide)) rfl ?_
    refine gsub [1, 2, 3, 4, 0] rfl ?_
    exact w_X2_tell_17 o hL hr hz hk0 hE hd h
  · have h := (if_pos z).symm.trans h
    cases h
    exact g_vret o hr hE dX2_tell_10
theorem c_X2_tell (l : Launch) (D : va_G) (Y : Nat → ClassId) (B : Nat) {d : Nat} {n : Nat} {K L : Nat → Nat} {fu : Nat} {M : Mm} {a0 : Nat} {v1 : Int32} {v2 : Int32} {v3 : Int32} {r : Mm} (hd : 1 ≤ d) (hk0 : K a0 = 2) (h : f_X2_tell K L fu a0 v1 v2 v3 M = some r) : mC l D Y B d yX2_tell cX2_tell 5 (none) [va_rf (some a0), .int v1, .int v2, .int v3] n K L M n K L r none 0 0 := by
  obtain ⟨d, rfl⟩ : ∃ e, d = e + 1 := ⟨d - 1, by omega⟩
  refine mk_met (by decide) (by simp [lgs_r, lgs_i, lgs_l, lgs_n]) (fun X e1 e2 e3 e4 o hL hr hnm hz hc hs hE => ?_)
  subst e1 e2 e3 e4
  rw [show lv_args 0 [va_rf (some a0), .int v1, .int v2, .int v3] = [(0, va_rf (some a0)), (1, .int v1), (2, .int v2), (3, .int v3)] by simp [lva_r, lva_i, lva_l, lva_n]]
  exact w_X2_tell_0 o hL hr hz hk0 hE hd h
