/-! methods: X5_findIn X6_add X6_dropLast X11_isSharedWay X7_firstOf X7_sizeOf X7_put X7_goesOver X7_fits X7_wouldMove X8_faultAt X8_find X8_switchCount X9_rowOf X9_beginRow X9_standOn X9_growFault X9_goBackIfSpent X10_choose X10_dealsAsFarApart X10_inMillionths X10_isRare X10_better X10_judge X11_isRefusal X11_refuse -/
def f_X5_findIn_7b (K L : Nat → Nat) (fu : Nat) (k7 : Int32 → Mm → Option (Int32 × Mm)) (a0 : Nat) (v2 : Int32) (M : Mm) : Option (Int32 × Mm) :=
  if (16 : Int32) ≤ v2 then
    some ((0 : Int32), M)
  else
    Option.bind (f_X5_measureTo K L fu a0 v2 M) (fun x1 =>
    Option.bind (f_X5_nearest K L fu x1 a0 v2) (fun x3 =>
    if x3 = (-1 : Int32) then
      k7 (v2 + 1) x1
    else
      Option.bind (f_X5_keepFrom K L fu a0 v2 x1) (fun x5 =>
      some ((1 : Int32), x5))))
def f_X5_findIn_7 (K L : Nat → Nat) (fu : Nat) (a0 : Nat) : Nat → Int32 → Mm → Option (Int32 × Mm)
  | 0, _, _ => none
  | g + 1, v2, M => f_X5_findIn_7b K L fu (f_X5_findIn_7 K L fu a0 g) a0 v2 M
set_option maxHeartbeats 4000000 in
theorem w_X5_findIn_7b {X : Cx} {d n : Nat} {K L : Nat → Nat} {fu : Nat} {a0 : Nat} {r : (Int32 × Mm)} {k7 : Int32 → Mm → Option (Int32 × Mm)} {v2 : Int32} {M : Mm} (o : cOk X cX5_findIn RX5 (d + 1)) (hL : cL X = 3) (hr : (ch X).sig.returnType = some .boolean) (hz : (cs X).heap.size + 0 = cB X + n) (hk0 : K a0 = 5) (hE : cE X n K L r.2 (some (.int r.1)) 0 0) (hk7 : ∀ (v2 : Int32) (M : Mm), k7 v2 M = some r → gW X 0 0 n K L M 7 [(0, va_rf (some a0)), (2, .int v2)] []) (hd : 4 ≤ d + 1) (h : f_X5_findIn_7b K L fu k7 a0 v2 M = some r) : gW X 0 0 n K L M 7 [(0, va_rf (some a0)), (2, .int v2)] [] := by
  unfold f_X5_findIn_7b at h
  refine g_iload_n o dX5_findIn_7 1 rfl ?_
  refine g_bipush (v := (16 : Int32)) o dX5_findIn_8 (by decide) ?_
  refine g_icmp_ge (tgt := 40) o dX5_findIn_10 (by decide) (fun z => ?_) (fun z => ?_)
  · have h := (if_pos z).symm.trans h
    refine g_iconst (v := (0 : Int32)) o dX5_findIn_40 (by decide) ?_
    cases h
    exact g_zret o hr (by decide) hE dX5_findIn_41
  · have h := (if_neg z).symm.trans h
    refine g_aload_n o dX5_findIn_13 0 rfl ?_
    refine g_iload_n o dX5_findIn_14 1 rfl ?_
    obtain ⟨x1, e2, h⟩ := ob h
    refine g_invV0 o (rc_self hk0) (by decide) ml_X5_29 kb_X5_measureTo kv_X5_measureTo rfl (c_X5_measureTo (cq X) (cD X) (cY X) (cB X) (d := d) (by omega) (rc_at (rc_self hk0)).2 e2) rfl rfl (by simp [cat_i, cat_l, cat_rf]) dX5_findIn_15 ?_
    refine g_aload_n o dX5_findIn_18 0 rfl ?_
    refine g_iload_n o dX5_findIn_19 1 rfl ?_
    obtain ⟨x3, e4, h⟩ := ob h
    refine g_invV0 o (rc_self hk0) (by decide) ml_X5_33 kb_X5_nearest kv_X5_nearest rfl (c_X5_nearest (cq X) (cD X) (cY X) (cB X) (d := d) (by omega) (rc_at (rc_self hk0)).2 e4) rfl rfl (by simp [cat_i, cat_l, cat_rf]) dX5_findIn_20 ?_
    refine g_iconst (v := (-1 : Int32)) o dX5_findIn_23 (by decide) ?_
    refine g_icmp_eq (tgt := 34) o dX5_findIn_24 (by decide) (fun z => ?_) (fun z => ?_)
    · have h := (if_pos z).symm.trans h
      refine g_iinc (i := 2) (v := v2 + 1) (ls' := [(2, .int (v2 + 1)), (0, va_rf (some a0))]) o dX5_findIn_34 1 rfl (by first | rfl | (congr 1)) (ltL hL (by decide)) rfl ?_
      refine g_goto (tgt := 7) o dX5_findIn_37 (by decide) ?_
      refine gsub [1, 0] rfl ?_
      exact hk7 _ _ h
    · have h := (if_neg z).symm.trans h
      refine g_aload_n o dX5_findIn_27 0 rfl ?_
      refine g_iload_n o dX5_findIn_28 1 rfl ?_
      obtain ⟨x5, e6, h⟩ := ob h
      refine g_invV0 o (rc_self hk0) (by decide) ml_X5_37 kb_X5_keepFrom kv_X5_keepFrom rfl (c_X5_keepFrom (cq X) (cD X) (cY X) (cB X) (d := d) (by omega) (rc_at (rc_self hk0)).2 e6) rfl rfl (by simp [cat_i, cat_l, cat_rf]) dX5_findIn_29 ?_
      refine g_iconst (v := (1 : Int32)) o dX5_findIn_32 (by decide) ?_
      cases h
      exact g_zret o hr (by decide) hE dX5_findIn_33
theorem w_X5_findIn_7_n {X : Cx} {d n : Nat} {K L : Nat → Nat} {fu : Nat} {a0 : Nat} {r : (Int32 × Mm)} (o : cOk X cX5_findIn RX5 (d + 1)) (hL : cL X = 3) (hr : (ch X).sig.returnType = some .boolean) (hz : (cs X).heap.size + 0 = cB X + n) (hk0 : K a0 = 5) (hE : cE X n K L r.2 (some (.int r.1)) 0 0) (hd : 4 ≤ d + 1) : ∀ (g : Nat) (v2 : Int32) (M : Mm), f_X5_findIn_7 K L fu a0 g v2 M = some r → gW X 0 0 n K L M 7 [(0, va_rf (some a0)), (2, .int v2)] []
  | 0, _, _, h => by cases h
  | g + 1, v2, M, h => w_X5_findIn_7b o hL hr hz hk0 hE (w_X5_findIn_7_n o hL hr hz hk0 hE hd g) hd h
theorem w_X5_findIn_7 {X : Cx} {d n : Nat} {K L : Nat → Nat} {fu : Nat} {a0 : Nat} {r : (Int32 × Mm)} {v2 : Int32} {M : Mm} (o : cOk X cX5_findIn RX5 (d + 1)) (hL : cL X = 3) (hr : (ch X).sig.returnType = some .boolean) (hz : (cs X).heap.size + 0 = cB X + n) (hk0 : K a0 = 5) (hE : cE X n K L r.2 (some (.int r.1)) 0 0) (hd : 4 ≤ d + 1) (h : f_X5_findIn_7 K L fu a0 fu v2 M = some r) : gW X 0 0 n K L M 7 [(0, va_rf (some a0)), (2, .int v2)] [] := w_X5_findIn_7_n o hL hr hz hk0 hE hd fu v2 M h
def f_X5_findIn (K L : Nat → Nat) (fu : Nat) (a0 : Nat) (v1 : (Option Nat)) (M : Mm) : Option (Int32 × Mm) :=
  Option.bind (f_X5_gatherAsks K L fu a0 v1 M) (fun x1 =>
  f_X5_findIn_7 K L fu a0 fu (0 : Int32) x1)
set_option maxHeartbeats 4000000 in
theorem w_X5_findIn_0 {X : Cx} {d n : Nat} {K L : Nat → Nat} {fu : Nat} {a0 : Nat} {r : (Int32 × Mm)} {v1 : (Option Nat)} {M : Mm} (o : cOk X cX5_findIn RX5 (d + 1)) (hL : cL X = 3) (hr : (ch X).sig.returnType = some .boolean) (hz : (cs X).heap.size + 0 = cB X + n) (hk0 : K a0 = 5) (hE : cE X n K L r.2 (some (.int r.1)) 0 0) (hd : 4 ≤ d + 1) (h : f_X5_findIn K L fu a0 v1 M = some r) : gW X 0 0 n K L M 0 [(0, va_rf (some a0)), (1, va_rf v1)] [] := by
  unfold f_X5_findIn at h
  refine g_aload_n o dX5_findIn_0 0 rfl ?_
  refine g_aload_n o dX5_findIn_1 1 rfl ?_
  obtain ⟨x1, e2, h⟩ := ob h
  refine g_invV0 o (rc_self hk0) (by decide) ml_X5_25 kb_X5_gatherAsks kv_X5_gatherAsks rfl (c_X5_gatherAsks (cq X) (cD X) (cY X) (cB X) (d := d) (by omega) (rc_at (rc_self hk0)).2 e2) rfl rfl (by simp [cat_i, cat_l, cat_rf]) dX5_findIn_2 ?_
  refine g_iconst (v := (0 : Int32)) o dX5_findIn_5 (by decide) ?_
  refine g_istore_n (i := 2) (ls' := [(2, .int (0 : Int32)), (0, va_rf (some a0)), (1, va_rf v1)]) o dX5_findIn_6 rfl (ltL hL (by decide)) (by simp [cat_rf]) ?_
  refine gsub [1, 0] rfl ?_
  exact w_X5_findIn_7 o hL hr hz hk0 hE hd h
theorem c_X5_findIn (l : Launch) (D : va_G) (Y : Nat → ClassId) (B : Nat) {d : Nat} {n : Nat} {K L : Nat → Nat} {fu : Nat} {M : Mm} {a0 : Nat} {v1 : (Option Nat)} {r : (Int32 × Mm)} (hd : 4 ≤ d) (hk0 : K a0 = 5) (h : f_X5_findIn K L fu a0 v1 M = some r) : mC l D Y B d yX5_findIn cX5_findIn 3 (some .boolean) [va_rf (some a0), va_rf v1] n K L M n K L r.2 (some (.int r.1)) 0 0 := by
  obtain ⟨d, rfl⟩ : ∃ e, d = e + 1 := ⟨d - 1, by omega⟩
  refine mk_met (by decide) (by simp [lgs_r, lgs_i, lgs_l, lgs_n]) (fun X e1 e2 e3 e4 o hL hr hnm hz hc hs hE => ?_)
  subst e1 e2 e3 e4
  rw [show lv_args 0 [va_rf (some a0), va_rf v1] = [(0, va_rf (some a0)), (1, va_rf v1)] by simp [lva_r, lva_i, lva_l, lva_n]]
  exact w_X5_findIn_0 o hL hr hz hk0 hE hd h
def f_X6_add (K L : Nat → Nat) (a0 : Nat) (v1 : Int32) (v2 : Int32) (v3 : Int32) (v4 : Int32) (M : Mm) : Option (Int32 × Mm) :=
  if (mm_I M (32 * 6 + 0) a0) < (6 : Int32) then
    Option.bind (rx K L (mm_R M (32 * 6 + 1) a0) 13 (mm_I M (32 * 6 + 0) a0)) (fun a1 =>
    bn (ms_A M a1 (upd (mm_A M a1) (mm_I M (32 * 6 + 0) a0).toNatClampNeg v1)) (fun M3 =>
    Option.bind (rx K L (mm_R M3 (32 * 6 + 2) a0) 13 (mm_I M3 (32 * 6 + 0) a0)) (fun a5 =>
    bn (ms_A M3 a5 (upd (mm_A M3 a5) (mm_I M3 (32 * 6 + 0) a0).toNatClampNeg v2)) (fun M7 =>
    Option.bind (rx K L (mm_R M7 (32 * 6 + 3) a0) 13 (mm_I M7 (32 * 6 + 0) a0)) (fun a9 =>
    bn (ms_A M7 a9 (upd (mm_A M7 a9) (mm_I M7 (32 * 6 + 0) a0).toNatClampNeg v3)) (fun M11 =>
    Option.bind (rx K L (mm_R M11 (32 * 6 + 4) a0) 13 (mm_I M11 (32 * 6 + 0) a0)) (fun a13 =>
    bn (ms_A M11 a13 (upd (mm_A M11 a13) (mm_I M11 (32 * 6 + 0) a0).toNatClampNeg v4)) (fun M15 =>
    bn (ms_I M15 (32 * 6 + 0) a0 ((mm_I M15 (32 * 6 + 0) a0) + (1 : Int32))) (fun M17 =>
    some (mm_I M17 (32 * 6 + 0) a0, M17))))))))))
  else
    some ((-13 : Int32), M)
set_option maxHeartbeats 4000000 in
theorem w_X6_add_0 {X : Cx} {d n : Nat} {K L : Nat → Nat} {a0 : Nat} {r : (Int32 × Mm)} {v1 : Int32} {v2 : Int32} {v3 : Int32} {v4 : Int32} {M : Mm} (o : cOk X cX6_add RX6 d) (hL : cL X = 5) (hr : (ch X).sig.returnType = some .int) (hz : (cs X).heap.size + 0 = cB X + n) (hk0 : K a0 = 6) (hE : cE X n K L r.2 (some (.int r.1)) 0 0) (h : f_X6_add K L a0 v1 v2 v3 v4 M = some r) : gW X 0 0 n K L M 0 [(0, va_rf (some a0)), (1, .int v1), (2, .int v2), (3, .int v3), (4, .int v4)] [] := by
  unfold f_X6_add at h
  refine g_aload_n o dX6_add_0 0 rfl ?_
  refine g_getI o fl_X6_24 (rc_self hk0) (by decide) rfl dX6_add_1 ?_
  refine g_bipush (v := (6 : Int32)) o dX6_add_4 (by decide) ?_
  refine g_icmp_lt (tgt := 12) o dX6_add_6 (by decide) (fun z => ?_) (fun z => ?_)
  · have h := (if_pos z).symm.trans h
    refine g_aload_n o dX6_add_12 0 rfl ?_
    refine g_getR o fl_X6_9 (rc_self hk0) (by decide) rfl dX6_add_13 ?_
    refine g_aload_n o dX6_add_16 0 rfl ?_
    refine g_getI o fl_X6_24 (rc_self hk0) (by decide) rfl dX6_add_17 ?_
    refine g_iload_n o dX6_add_20 1 rfl ?_
    obtain ⟨a1, e2, h⟩ := ob h
    refine g_iast o hz e2  dX6_add_21 ?_
    obtain ⟨M3, e4, h⟩ := bn_at h
    refine g_mem e4 ?_
    refine g_aload_n o dX6_add_22 0 rfl ?_
    refine g_getR o fl_X6_15 (rc_self hk0) (by decide) rfl dX6_add_23 ?_
    refine g_aload_n o dX6_add_26 0 rfl ?_
    refine g_getI o fl_X6_24 (rc_self hk0) (by decide) rfl dX6_add_27 ?_
    refine g_iload_n o dX6_add_30 2 rfl ?_
    obtain ⟨a5, e6, h⟩ := ob h
    refine g_iast o hz e6  dX6_add_31 ?_
    obtain ⟨M7, e8, h⟩ := bn_at h
    refine g_mem e8 ?_
    refine g_aload_n o dX6_add_32 0 rfl ?_
    refine g_getR o fl_X6_18 (rc_self hk0) (by decide) rfl dX6_add_33 ?_
    refine g_aload_n o dX6_add_36 0 rfl ?_
    refine g_getI o fl_X6_24 (rc_self hk0) (by decide) rfl dX6_add_37 ?_
    refine g_iload_n o dX6_add_40 3 rfl ?_
    obtain ⟨a9, e10, h⟩ := ob h
    refine g_iast o hz e10  dX6_add_41 ?_
    obtain ⟨M11, e12, h⟩ := bn_at h
    refine g_mem e12 ?_
    refine g_aload_n o dX6_add_42 0 rfl ?_
    refine g_getR o fl_X6_21 (rc_self hk0) (by decide) rfl dX6_add_43 ?_
    refine g_aload_n o dX6_add_46 0 rfl ?_
    refine g_getI o fl_X6_24 (rc_self hk0) (by decide) rfl dX6_add_47 ?_
    refine g_iload o dX6_add_50 4 rfl ?_
    obtain ⟨a13, e14, h⟩ := ob h
    refine g_iast o hz e14  dX6_add_52 ?_
    obtain ⟨M15, e16, h⟩ := bn_at h
    refine g_mem e16 ?_
    refine g_aload_n o dX6_add_53 0 rfl ?_
    refine g_dup o dX6_add_54 (cat_rf _) ?_
    refine g_getI o fl_X6_24 (rc_self hk0) (by decide) rfl dX6_add_55 ?_
    refine g_iconst (v := (1 : Int32)) o dX6_add_58 (by decide) ?_
    refine g_iadd o dX6_add_59 ?_
    refine g_putI o hz fl_X6_24 (rc_self hk0) (by decide) rfl rfl rfl  dX6_add_60 ?_
    obtain ⟨M17, e18, h⟩ := bn_at h
    refine g_mem e18 ?_
    refine g_aload_n o dX6_add_63 0 rfl ?_
    refine g_getI o fl_X6_24 (rc_self hk0) (by decide) rfl dX6_add_64 ?_
    cases h
    exact g_iret o hr hE dX6_add_67
  · have h := (if_neg z).symm.trans h
    refine g_bipush (v := (-13 : Int32)) o dX6_add_9 (by decide) ?_
    cases h
    exact g_iret o hr hE dX6_add_11
theorem c_X6_add (l : Launch) (D : va_G) (Y : Nat → ClassId) (B : Nat) {d : Nat} {n : Nat} {K L : Nat → Nat} {M : Mm} {a0 : Nat} {v1 : Int32} {v2 : Int32} {v3 : Int32} {v4 : Int32} {r : (Int32 × Mm)} (hd : 0 ≤ d) (hk0 : K a0 = 6) (h : f_X6_add K L a0 v1 v2 v3 v4 M = some r) : mC l D Y B d yX6_add cX6_add 5 (some .int) [va_rf (some a0), .int v1, .int v2, .int v3, .int v4] n K L M n K L r.2 (some (.int r.1)) 0 0 := by
  refine mk_met (by decide) (by simp [lgs_r, lgs_i, lgs_l, lgs_n]) (fun X e1 e2 e3 e4 o hL hr hnm hz hc hs hE => ?_)
  subst e1 e2 e3 e4
  rw [show lv_args 0 [va_rf (some a0), .int v1, .int v2, .int v3, .int v4] = [(0, va_rf (some a0)), (1, .int v1), (2, .int v2), (3, .int v3), (4, .int v4)] by simp [lva_r, lva_i, lva_l, lva_n]]
  exact w_X6_add_0 o hL hr hz hk0 hE h
def f_X6_dropLast (K L : Nat → Nat) (a0 : Nat) (M : Mm) : Option (Int32 × Mm) :=
  if (mm_I M (32 * 6 + 0) a0) = 0 then
    some ((-2 : Int32), M)
  else
    bn (ms_I M (32 * 6 + 0) a0 ((mm_I M (32 * 6 + 0) a0) - (1 : Int32))) (fun M1 =>
    some (mm_I M1 (32 * 6 + 0) a0, M1))
set_option maxHeartbeats 4000000 in
theorem w_X6_dropLast_0 {X : Cx} {d n : Nat} {K L : Nat → Nat} {a0 : Nat} {r : (Int32 × Mm)} {M : Mm} (o : cOk X cX6_dropLast RX6 d) (hL : cL X = 1) (hr : (ch X).sig.returnType = some .int) (hz : (cs X).heap.size + 0 = cB X + n) (hk0 : K a0 = 6) (hE : cE X n K L r.2 (some (.int r.1)) 0 0) (h : f_X6_dropLast K L a0  M = some r) : gW X 0 0 n K L M 0 [(0, va_rf (some a0))] [] := by
  unfold f_X6_dropLast at h
  refine g_aload_n o dX6_dropLast_0 0 rfl ?_
  refine g_getI o fl_X6_24 (rc_self hk0) (by decide) rfl dX6_dropLast_1 ?_
  refine g_if_ne (tgt := 10) o dX6_dropLast_4 (by decide) (fun z => ?_) (fun z => ?_)
  · have h := (if_neg z).symm.trans h
    refine g_aload_n o dX6_dropLast_10 0 rfl ?_
    refine g_dup o dX6_dropLast_11 (cat_rf _) ?_
    refine g_getI o fl_X6_24 (rc_self hk0) (by decide) rfl dX6_dropLast_12 ?_
    refine g_iconst (v := (1 : Int32)) o dX6_dropLast_15 (by decide) ?_
    refine g_isub o dX6_dropLast_16 ?_
    refine g_putI o hz fl_X6_24 (rc_self hk0) (by decide) rfl rfl rfl  dX6_dropLast_17 ?_
    obtain ⟨M1, e2, h⟩ := bn_at h
    refine g_mem e2 ?_
    refine g_aload_n o dX6_dropLast_20 0 rfl ?_
    refine g_getI o fl_X6_24 (rc_self hk0) (by decide) rfl dX6_dropLast_21 ?_
    cases h
    exact g_iret o hr hE dX6_dropLast_24
  · have h := (if_pos z).symm.trans h
    refine g_bipush (v := (-2 : Int32)) o dX6_dropLast_7 (by decide) ?_
    cases h
    exact g_iret o hr hE dX6_dropLast_9
theorem c_X6_dropLast (l : Launch) (D : va_G) (Y : Nat → ClassId) (B : Nat) {d : Nat} {n : Nat} {K L : Nat → Nat} {M : Mm} {a0 : Nat} {r : (Int32 × Mm)} (hd : 0 ≤ d) (hk0 : K a0 = 6) (h : f_X6_dropLast K L a0  M = some r) : mC l D Y B d yX6_dropLast cX6_dropLast 1 (some .int) [va_rf (some a0)] n K L M n K L r.2 (some (.int r.1)) 0 0 := by
  refine mk_met (by decide) (by simp [lgs_r, lgs_i, lgs_l, lgs_n]) (fun X e1 e2 e3 e4 o hL hr hnm hz hc hs hE => ?_)
  subst e1 e2 e3 e4
  rw [show lv_args 0 [va_rf (some a0)] = [(0, va_rf (some a0))] by simp [lva_r, lva_i, lva_l, lva_n]]
  exact w_X6_dropLast_0 o hL hr hz hk0 hE h
def f_X11_isSharedWay  (v0 : Int32) : Option Int32 :=
  if v0 < (1 : Int32) then
    some (0 : Int32)
  else
    if (8 : Int32) ≤ v0 then
      some (0 : Int32)
    else
      some (1 : Int32)
set_option maxHeartbeats 4000000 in
theorem w_X11_isSharedWay_0 {X : Cx} {d n : Nat} {K L : Nat → Nat} {M : Mm} {r : Int32} {v0 : Int32} (o : cOk X cX11_isSharedWay RX11 d) (hL : cL X = 1) (hr : (ch X).sig.returnType = some .boolean) (hE : cE X n K L M (some (.int r)) 0 0) (h : f_X11_isSharedWay  v0 = some r) : gW X 0 0 n K L M 0 [(0, .int v0)] [] := by
  unfold f_X11_isSharedWay at h
  refine g_iload_n o dX11_isSharedWay_0 0 rfl ?_
  refine g_iconst (v := (1 : Int32)) o dX11_isSharedWay_1 (by decide) ?_
  refine g_icmp_lt (tgt := 15) o dX11_isSharedWay_2 (by decide) (fun z => ?_) (fun z => ?_)
  · have h := (if_pos z).symm.trans h
    refine g_iconst (v := (0 : Int32)) o dX11_isSharedWay_15 (by decide) ?_
    cases h
    exact g_zret o hr (by decide) hE dX11_isSharedWay_16
  · have h := (if_neg z).symm.trans h
    refine g_iload_n o dX11_isSharedWay_5 0 rfl ?_
    refine g_bipush (v := (8 : Int32)) o dX11_isSharedWay_6 (by decide) ?_
    refine g_icmp_ge (tgt := 15) o dX11_isSharedWay_8 (by decide) (fun z => ?_) (fun z => ?_)
    · have h := (if_pos z).symm.trans h
      refine g_iconst (v := (0 : Int32)) o dX11_isSharedWay_15 (by decide) ?_
      cases h
      exact g_zret o hr (by decide) hE dX11_isSharedWay_16
    · have h := (if_neg z).symm.trans h
      refine g_iconst (v := (1 : Int32)) o dX11_isSharedWay_11 (by decide) ?_
      refine g_goto (tgt := 16) o dX11_isSharedWay_12 (by decide) ?_
      cases h
      exact g_zret o hr (by decide) hE dX11_isSharedWay_16
theorem c_X11_isSharedWay (l : Launch) (D : va_G) (Y : Nat → ClassId) (B : Nat) {d : Nat} {n : Nat} {K L : Nat → Nat} {M : Mm} {v0 : Int32} {r : Int32} (hd : 0 ≤ d) (h : f_X11_isSharedWay  v0 = some r) : mC l D Y B d yX11_isSharedWay cX11_isSharedWay 1 (some .boolean) [.int v0] n K L M n K L M (some (.int r)) 0 0 := by
  refine mk_met (by decide) (by simp [lgs_r, lgs_i, lgs_l, lgs_n]) (fun X e1 e2 e3 e4 o hL hr hnm hz hc hs hE => ?_)
  subst e1 e2 e3 e4
  rw [show lv_args 0 [.int v0] = [(0, .int v0)] by simp [lva_r, lva_i, lva_l, lva_n]]
  exact w_X11_isSharedWay_0 o hL hr hE h
def f_X7_firstOf (K L : Nat → Nat) (M : Mm) (a0 : Nat) (v1 : Int32) : Option Int32 :=
  Option.bind (f_X11_isSharedWay v1) (fun x1 =>
  if x1 = 0 then
    some (0 : Int32)
  else
    Option.bind (rx K L (mm_R M (32 * 7 + 0) a0) 13 v1) (fun a3 =>
    some (mm_A M a3 v1.toNatClampNeg)))
set_option maxHeartbeats 4000000 in
theorem w_X7_firstOf_0 {X : Cx} {d n : Nat} {K L : Nat → Nat} {M : Mm} {a0 : Nat} {r : Int32} {v1 : Int32} (o : cOk X cX7_firstOf RX7 (d + 1)) (hL : cL X = 2) (hr : (ch X).sig.returnType = some .int) (hk0 : K a0 = 7) (hE : cE X n K L M (some (.int r)) 0 0) (hd : 1 ≤ d + 1) (h : f_X7_firstOf K L M a0 v1 = some r) : gW X 0 0 n K L M 0 [(0, va_rf (some a0)), (1, .int v1)] [] := by
  unfold f_X7_firstOf at h
  refine g_iload_n o dX7_firstOf_0 1 rfl ?_
  obtain ⟨x1, e2, h⟩ := ob h
  refine g_invSN0 o mn_X7_30 kb_X11_isSharedWay ks_X11_isSharedWay (c_X11_isSharedWay (cq X) (cD X) (cY X) (cB X) (d := d) (by omega) e2) rfl rfl (by simp [cat_i, cat_l, cat_rf]) dX7_firstOf_1 ?_
  refine g_if_eq (tgt := 16) o dX7_firstOf_4 (by decide) (fun z => ?_) (fun z => ?_)
  · have h := (if_pos z).symm.trans h
    refine g_iconst (v := (0 : Int32)) o dX7_firstOf_16 (by decide) ?_
    cases h
    exact g_iret o hr hE dX7_firstOf_17
  · have h := (if_neg z).symm.trans h
    refine g_aload_n o dX7_firstOf_7 0 rfl ?_
    refine g_getR o fl_X7_9 (rc_self hk0) (by decide) rfl dX7_firstOf_8 ?_
    refine g_iload_n o dX7_firstOf_11 1 rfl ?_
    obtain ⟨a3, e4, h⟩ := ob h
    refine g_iald o e4 dX7_firstOf_12 ?_
    refine g_goto (tgt := 17) o dX7_firstOf_13 (by decide) ?_
    cases h
    exact g_iret o hr hE dX7_firstOf_17
theorem c_X7_firstOf (l : Launch) (D : va_G) (Y : Nat → ClassId) (B : Nat) {d : Nat} {n : Nat} {K L : Nat → Nat} {M : Mm} {a0 : Nat} {v1 : Int32} {r : Int32} (hd : 1 ≤ d) (hk0 : K a0 = 7) (h : f_X7_firstOf K L M a0 v1 = some r) : mC l D Y B d yX7_firstOf cX7_firstOf 2 (some .int) [va_rf (some a0), .int v1] n K L M n K L M (some (.int r)) 0 0 := by
  obtain ⟨d, rfl⟩ : ∃ e, d = e + 1 := ⟨d - 1, by omega⟩
  refine mk_met (by decide) (by simp [lgs_r, lgs_i, lgs_l, lgs_n]) (fun X e1 e2 e3 e4 o hL hr hnm hz hc hs hE => ?_)
  subst e1 e2 e3 e4
  rw [show lv_args 0 [va_rf (some a0), .int v1] = [(0, va_rf (some a0)), (1, .int v1)] by simp [lva_r, lva_i, lva_l, lva_n]]
  exact w_X7_firstOf_0 o hL hr hk0 hE hd h
def f_X7_sizeOf (K L : Nat → Nat) (M : Mm) (a0 : Nat) (v1 : Int32) : Option Int32 :=
  Option.bind (f_X11_isSharedWay v1) (fun x1 =>
  if x1 = 0 then
    some (0 : Int32)
  else
    Option.bind (rx K L (mm_R M (32 * 7 + 1) a0) 13 v1) (fun a3 =>
    some (mm_A M a3 v1.toNatClampNeg)))
set_option maxHeartbeats 4000000 in
theorem w_X7_sizeOf_0 {X : Cx} {d n : Nat} {K L : Nat → Nat} {M : Mm} {a0 : Nat} {r : Int32} {v1 : Int32} (o : cOk X cX7_sizeOf RX7 (d + 1)) (hL : cL X = 2) (hr : (ch X).sig.returnType = some .int) (hk0 : K a0 = 7) (hE : cE X n K L M (some (.int r)) 0 0) (hd : 1 ≤ d + 1) (h : f_X7_sizeOf K L M a0 v1 = some r) : gW X 0 0 n K L M 0 [(0, va_rf (some a0)), (1, .int v1)] [] := by
  unfold f_X7_sizeOf at h
  refine g_iload_n o dX7_sizeOf_0 1 rfl ?_
  obtain ⟨x1, e2, h⟩ := ob h
  refine g_invSN0 o mn_X7_30 kb_X11_isSharedWay ks_X11_isSharedWay (c_X11_isSharedWay (cq X) (cD X) (cY X) (cB X) (d := d) (by omega) e2) rfl rfl (by simp [cat_i, cat_l, cat_rf]) dX7_sizeOf_1 ?_
  refine g_if_eq (tgt := 16) o dX7_sizeOf_4 (by decide) (fun z => ?_) (fun z => ?_)
  · have h := (if_pos z).symm.trans h
    refine g_iconst (v := (0 : Int32)) o dX7_sizeOf_16 (by decide) ?_
    cases h
    exact g_iret o hr hE dX7_sizeOf_17
  · have h := (if_neg z).symm.trans h
    refine g_aload_n o dX7_sizeOf_7 0 rfl ?_
    refine g_getR o fl_X7_15 (rc_self hk0) (by decide) rfl dX7_sizeOf_8 ?_
    refine g_iload_n o dX7_sizeOf_11 1 rfl ?_
    obtain ⟨a3, e4, h⟩ := ob h
    refine g_iald o e4 dX7_sizeOf_12 ?_
    refine g_goto (tgt := 17) o dX7_sizeOf_13 (by decide) ?_
    cases h
    exact g_iret o hr hE dX7_sizeOf_17
theorem c_X7_sizeOf (l : Launch) (D : va_G) (Y : Nat → ClassId) (B : Nat) {d : Nat} {n : Nat} {K L : Nat → Nat} {M : Mm} {a0 : Nat} {v1 : Int32} {r : Int32} (hd : 1 ≤ d) (hk0 : K a0 = 7) (h : f_X7_sizeOf K L M a0 v1 = some r) : mC l D Y B d yX7_sizeOf cX7_sizeOf 2 (some .int) [va_rf (some a0), .int v1] n K L M n K L M (some (.int r)) 0 0 := by
  obtain ⟨d, rfl⟩ : ∃ e, d = e + 1 := ⟨d - 1, by omega⟩
  refine mk_met (by decide) (by simp [lgs_r, lgs_i, lgs_l, lgs_n]) (fun X e1 e2 e3 e4 o hL hr hnm hz hc hs hE => ?_)
  subst e1 e2 e3 e4
  rw [show lv_args 0 [va_rf (some a0), .int v1] = [(0, va_rf (some a0)), (1, .int v1)] by simp [lva_r, lva_i, lva_l, lva_n]]
  exact w_X7_sizeOf_0 o hL hr hk0 hE hd h
def f_X7_put (K L : Nat → Nat) (a0 : Nat) (v1 : Int32) (v2 : Int32) (v3 : Int32) (M : Mm) : Option Mm :=
  Option.bind (f_X11_isSharedWay v1) (fun x1 =>
  if x1 = 0 then
    some M
  else
    Option.bind (rx K L (mm_R M (32 * 7 + 0) a0) 13 v1) (fun a3 =>
    bn (ms_A M a3 (upd (mm_A M a3) v1.toNatClampNeg v2)) (fun M5 =>
    Option.bind (rx K L (mm_R M5 (32 * 7 + 1) a0) 13 v1) (fun a7 =>
    bn (ms_A M5 a7 (upd (mm_A M5 a7) v1.toNatClampNeg v3)) (fun M9 =>
    some M9)))))
set_option maxHeartbeats 4000000 in
theorem w_X7_put_0 {X : Cx} {d n : Nat} {K L : Nat → Nat} {a0 : Nat} {r : Mm} {v1 : Int32} {v2 : Int32} {v3 : Int32} {M : Mm} (o : cOk X cX7_put RX7 (d + 1)) (hL : cL X = 4) (hr : (ch X).sig.returnType = none) (hz : (cs X).heap.size + 0 = cB X + n) (hk0 : K a0 = 7) (hE : cE X n K L r none 0 0) (hd : 1 ≤ d + 1) (h : f_X7_put K L a0 v1 v2 v3 M = some r) : gW X 0 0 n K L M 0 [(0, va_rf (some a0)), (1, .int v1), (2, .int v2), (3, .int v3)] [] := by
  unfold f_X7_put at h
  refine g_iload_n o dX7_put_0 1 rfl ?_
  obtain ⟨x1, e2, h⟩ := ob h
  refine g_invSN0 o mn_X7_30 kb_X11_isSharedWay ks_X11_isSharedWay (c_X11_isSharedWay (cq X) (cD X) (cY X) (cB X) (d := d) (by omega) e2) rfl rfl (by simp [cat_i, cat_l, cat_rf]) dX7_put_1 ?_
  refine g_if_eq (tgt := 21) o dX7_put_4 (by decide) (fun z => ?_) (fun z => ?_)
  · have h := (if_pos z).symm.trans h
    cases h
    exact g_vret o hr hE dX7_put_21
  · have h := (if_neg z).symm.trans h
    refine g_aload_n o dX7_put_7 0 rfl ?_
    refine g_getR o fl_X7_9 (rc_self hk0) (by decide) rfl dX7_put_8 ?_
    refine g_iload_n o dX7_put_11 1 rfl ?_
    refine g_iload_n o dX7_put_12 2 rfl ?_
    obtain ⟨a3, e4, h⟩ := ob h
    refine g_iast o hz e4  dX7_put_13 ?_
    obtain ⟨M5, e6, h⟩ := bn_at h
    refine g_mem e6 ?_
    refine g_aload_n o dX7_put_14 0 rfl ?_
    refine g_getR o fl_X7_15 (rc_self hk0) (by decide) rfl dX7_put_15 ?_
    refine g_iload_n o dX7_put_18 1 rfl ?_
    refine g_iload_n o dX7_put_19 3 rfl ?_
    obtain ⟨a7, e8, h⟩ := ob h
    refine g_iast o hz e8  dX7_put_20 ?_
    obtain ⟨M9, e10, h⟩ := bn_at h
    refine g_mem e10 ?_
    cases h
    exact g_vret o hr hE dX7_put_21
theorem c_X7_put (l : Launch) (D : va_G) (Y : Nat → ClassId) (B : Nat) {d : Nat} {n : Nat} {K L : Nat → Nat} {M : Mm} {a0 : Nat} {v1 : Int32} {v2 : Int32} {v3 : Int32} {r : Mm} (hd : 1 ≤ d) (hk0 : K a0 = 7) (h : f_X7_put K L a0 v1 v2 v3 M = some r) : mC l D Y B d yX7_put cX7_put 4 (none) [va_rf (some a0), .int v1, .int v2, .int v3] n K L M n K L r none 0 0 := by
  obtain ⟨d, rfl⟩ : ∃ e, d = e + 1 := ⟨d - 1, by omega⟩
  refine mk_met (by decide) (by simp [lgs_r, lgs_i, lgs_l, lgs_n]) (fun X e1 e2 e3 e4 o hL hr hnm hz hc hs hE => ?_)
  subst e1 e2 e3 e4
  rw [show lv_args 0 [va_rf (some a0), .int v1, .int v2, .int v3] = [(0, va_rf (some a0)), (1, .int v1), (2, .int v2), (3, .int v3)] by simp [lva_r, lva_i, lva_l, lva_n]]
  exact w_X7_put_0 o hL hr hz hk0 hE hd h
def f_X7_goesOver (K L : Nat → Nat) (M : Mm) (a0 : Nat) (v1 : Int32) (v2 : Int32) (v3 : Int32) : Option Int32 :=
  if v3 ≤ 0 then
    some (0 : Int32)
  else
    Option.bind (rx K L (mm_R M (32 * 7 + 1) a0) 13 v1) (fun a1 =>
    if (mm_A M a1 v1.toNatClampNeg) ≤ 0 then
      some (0 : Int32)
    else
      Option.bind (rx K L (mm_R M (32 * 7 + 0) a0) 13 v1) (fun a3 =>
      if ((mm_A M a3 v1.toNatClampNeg) + (mm_A M a1 v1.toNatClampNeg)) ≤ v2 then
        some (0 : Int32)
      else
        if (v2 + v3) ≤ (mm_A M a3 v1.toNatClampNeg) then
          some (0 : Int32)
        else
          some (1 : Int32)))
set_option maxHeartbeats 4000000 in
theorem w_X7_goesOver_0 {X : Cx} {d n : Nat} {K L : Nat → Nat} {M : Mm} {a0 : Nat} {r : Int32} {v1 : Int32} {v2 : Int32} {v3 : Int32} (o : cOk X cX7_goesOver RX7 d) (hL : cL X = 4) (hr : (ch X).sig.returnType = some .boolean) (hk0 : K a0 = 7) (hE : cE X n K L M (some (.int r)) 0 0) (h : f_X7_goesOver K L M a0 v1 v2 v3 = some r) : gW X 0 0 n K L M 0 [(0, va_rf (some a0)), (1, .int v1), (2, .int v2), (3, .int v3)] [] := by
  unfold f_X7_goesOver at h
  refine g_iload_n o dX7_goesOver_0 3 rfl ?_
  refine g_if_le (tgt := 46) o dX7_goesOver_1 (by decide) (fun z => ?_) (fun z => ?_)
  · have h := (if_pos z).symm.trans h
    refine g_iconst (v := (0 : Int32)) o dX7_goesOver_46 (by decide) ?_
    cases h
    exact g_zret o hr (by decide) hE dX7_goesOver_47
  · have h := (if_neg z).symm.trans h
    refine g_aload_n o dX7_goesOver_4 0 rfl ?_
    refine g_getR o fl_X7_15 (rc_self hk0) (by decide) rfl dX7_goesOver_5 ?_
    refine g_iload_n o dX7_goesOver_8 1 rfl ?_
    obtain ⟨a1, e2, h⟩ := ob h
    refine g_iald o e2 dX7_goesOver_9 ?_
    refine g_if_le (tgt := 46) o dX7_goesOver_10 (by decide) (fun z => ?_) (fun z => ?_)
    · have h := (if_pos z).symm.trans h
      refine g_iconst (v := (0 : Int32)) o dX7_goesOver_46 (by decide) ?_
      cases h
      exact g_zret o hr (by decide) hE dX7_goesOver_47
    · have h := (if_neg z).symm.trans h
      refine g_iload_n o dX7_goesOver_13 2 rfl ?_
      refine g_aload_n o dX7_goesOver_14 0 rfl ?_
      refine g_getR o fl_X7_9 (rc_self hk0) (by decide) rfl dX7_goesOver_15 ?_
      refine g_iload_n o dX7_goesOver_18 1 rfl ?_
      obtain ⟨a3, e4, h⟩ := ob h
      refine g_iald o e4 dX7_goesOver_19 ?_
      refine g_aload_n o dX7_goesOver_20 0 rfl ?_
      refine g_getR o fl_X7_15 (rc_self hk0) (by decide) rfl dX7_goesOver_21 ?_
      refine g_iload_n o dX7_goesOver_24 1 rfl ?_
      refine g_iald o e2 dX7_goesOver_25 ?_
      refine g_iadd o dX7_goesOver_26 ?_
      refine g_icmp_ge (tgt := 46) o dX7_goesOver_27 (by decide) (fun z => ?_) (fun z => ?_)
      · have h := (if_pos z).symm.trans h
        refine g_iconst (v := (0 : Int32)) o dX7_goesOver_46 (by decide) ?_
        cases h
        exact g_zret o hr (by decide) hE dX7_goesOver_47
      · have h := (if_neg z).symm.trans h
        refine g_aload_n o dX7_goesOver_30 0 rfl ?_
        refine g_getR o fl_X7_9 (rc_self hk0) (by decide) rfl dX7_goesOver_31 ?_
        refine g_iload_n o dX7_goesOver_34 1 rfl ?_
        refine g_iald o e4 dX7_goesOver_35 ?_
        refine g_iload_n o dX7_goesOver_36 2 rfl ?_
        refine g_iload_n o dX7_goesOver_37 3 rfl ?_
        refine g_iadd o dX7_goesOver_38 ?_
        refine g_icmp_ge (tgt := 46) o dX7_goesOver_39 (by decide) (fun z => ?_) (fun z => ?_)
        · have h := (if_pos z).symm.trans h
          refine g_iconst (v := (0 : Int32)) o dX7_goesOver_46 (by decide) ?_
          cases h
          exact g_zret o hr (by decide) hE dX7_goesOver_47
        · have h := (if_neg z).symm.trans h
          refine g_iconst (v := (1 : Int32)) o dX7_goesOver_42 (by decide) ?_
          refine g_goto (tgt := 47) o dX7_goesOver_43 (by decide) ?_
          cases h
          exact g_zret o hr (by decide) hE dX7_goesOver_47
theorem c_X7_goesOver (l : Launch) (D : va_G) (Y : Nat → ClassId) (B : Nat) {d : Nat} {n : Nat} {K L : Nat → Nat} {M : Mm} {a0 : Nat} {v1 : Int32} {v2 : Int32} {v3 : Int32} {r : Int32} (hd : 0 ≤ d) (hk0 : K a0 = 7) (h : f_X7_goesOver K L M a0 v1 v2 v3 = some r) : mC l D Y B d yX7_goesOver cX7_goesOver 4 (some .boolean) [va_rf (some a0), .int v1, .int v2, .int v3] n K L M n K L M (some (.int r)) 0 0 := by
  refine mk_met (by decide) (by simp [lgs_r, lgs_i, lgs_l, lgs_n]) (fun X e1 e2 e3 e4 o hL hr hnm hz hc hs hE => ?_)
  subst e1 e2 e3 e4
  rw [show lv_args 0 [va_rf (some a0), .int v1, .int v2, .int v3] = [(0, va_rf (some a0)), (1, .int v1), (2, .int v2), (3, .int v3)] by simp [lva_r, lva_i, lva_l, lva_n]]
  exact w_X7_goesOver_0 o hL hr hk0 hE h
def f_X7_fits_27b (K L : Nat → Nat) (fu : Nat) (k27 : Int32 → Int32 → Int32 → Int32 → Option Int32) (M : Mm) (a0 : Nat) (v1 : Int32) (v2 : Int32) (v3 : Int32) (v4 : Int32) : Option Int32 :=
  if (8 : Int32) ≤ v4 then
    some (1 : Int32)
  else
    if v4 = v1 then
      k27 v1 v2 v3 (v4 + 1)
    else
      Option.bind (f_X7_goesOver K L M a0 v4 v2 v3) (fun x1 =>
      if x1 = 0 then
        k27 v1 v2 v3 (v4 + 1)
      else
        some (0 : Int32))
def f_X7_fits_27 (K L : Nat → Nat) (fu : Nat) (M : Mm) (a0 : Nat) : Nat → Int32 → Int32 → Int32 → Int32 → Option Int32
  | 0, _, _, _, _ => none
  | g + 1, v1, v2, v3, v4 => f_X7_fits_27b K L fu (f_X7_fits_27 K L fu M a0 g) M a0 v1 v2 v3 v4
set_option maxHeartbeats 4000000 in
theorem w_X7_fits_27b {X : Cx} {d n : Nat} {K L : Nat → Nat} {fu : Nat} {M : Mm} {a0 : Nat} {r : Int32} {k27 : Int32 → Int32 → Int32 → Int32 → Option Int32} {v1 : Int32} {v2 : Int32} {v3 : Int32} {v4 : Int32} (o : cOk X cX7_fits RX7 (d + 1)) (hL : cL X = 5) (hr : (ch X).sig.returnType = some .boolean) (hk0 : K a0 = 7) (hE : cE X n K L M (some (.int r)) 0 0) (hk27 : ∀ (v1 : Int32) (v2 : Int32) (v3 : Int32) (v4 : Int32), k27 v1 v2 v3 v4 = some r → gW X 0 0 n K L M 27 [(0, va_rf (some a0)), (1, .int v1), (2, .int v2), (3, .int v3), (4, .int v4)] []) (hd : 1 ≤ d + 1) (h : f_X7_fits_27b K L fu k27 M a0 v1 v2 v3 v4 = some r) : gW X 0 0 n K L M 27 [(0, va_rf (some a0)), (1, .int v1), (2, .int v2), (3, .int v3), (4, .int v4)] [] := by
  unfold f_X7_fits_27b at h
  refine g_iload o dX7_fits_27 4 rfl ?_
  refine g_bipush (v := (8 : Int32)) o dX7_fits_29 (by decide) ?_
  refine g_icmp_ge (tgt := 59) o dX7_fits_31 (by decide) (fun z => ?_) (fun z => ?_)
  · have h := (if_pos z).symm.trans h
    refine g_iconst (v := (1 : Int32)) o dX7_fits_59 (by decide) ?_
    cases h
    exact g_zret o hr (by decide) hE dX7_fits_60
  · have h := (if_neg z).symm.trans h
    refine g_iload o dX7_fits_34 4 rfl ?_
    refine g_iload_n o dX7_fits_36 1 rfl ?_
    refine g_icmp_eq (tgt := 53) o dX7_fits_37 (by decide) (fun z => ?_) (fun z => ?_)
    · have h := (if_pos z).symm.trans h
      refine g_iinc (i := 4) (v := v4 + 1) (ls' := [(4, .int (v4 + 1)), (0, va_rf (some a0)), (1, .int v1), (2, .int v2), (3, .int v3)]) o dX7_fits_53 4 rfl (by first | rfl | (congr 1)) (ltL hL (by decide)) rfl ?_
      refine g_goto (tgt := 27) o dX7_fits_56 (by decide) ?_
      refine gsub [1, 2, 3, 4, 0] rfl ?_
      exact hk27 _ _ _ _ h
    · have h := (if_neg z).symm.trans h
      refine g_aload_n o dX7_fits_40 0 rfl ?_
      refine g_iload o dX7_fits_41 4 rfl ?_
      refine g_iload_n o dX7_fits_43 2 rfl ?_
      refine g_iload_n o dX7_fits_44 3 rfl ?_
      obtain ⟨x1, e2, h⟩ := ob h
      refine g_invV0 o (rc_self hk0) (by decide) ml_X7_38 kb_X7_goesOver kv_X7_goesOver rfl (c_X7_goesOver (cq X) (cD X) (cY X) (cB X) (d := d) (by omega) (rc_at (rc_self hk0)).2 e2) rfl rfl (by simp [cat_i, cat_l, cat_rf]) dX7_fits_45 ?_
      refine g_if_eq (tgt := 53) o dX7_fits_48 (by decide) (fun z => ?_) (fun z => ?_)
      · have h := (if_pos z).symm.trans h
        refine g_iinc (i := 4) (v := v4 + 1) (ls' := [(4, .int (v4 + 1)), (0, va_rf (some a0)), (1, .int v1), (2, .int v2), (3, .int v3)]) o dX7_fits_53 4 rfl (by first | rfl | (congr 1)) (ltL hL (by decide)) rfl ?_
        refine g_goto (tgt := 27) o dX7_fits_56 (by decide) ?_
        refine gsub [1, 2, 3, 4, 0] rfl ?_
        exact hk27 _ _ _ _ h
      · have h := (if_neg z).symm.trans h
        refine g_iconst (v := (0 : Int32)) o dX7_fits_51 (by decide) ?_
        cases h
        exact g_zret o hr (by decide) hE dX7_fits_52
theorem w_X7_fits_27_n {X : Cx} {d n : Nat} {K L : Nat → Nat} {fu : Nat} {M : Mm} {a0 : Nat} {r : Int32} (o : cOk X cX7_fits RX7 (d + 1)) (hL : cL X = 5) (hr : (ch X).sig.returnType = some .boolean) (hk0 : K a0 = 7) (hE : cE X n K L M (some (.int r)) 0 0) (hd : 1 ≤ d + 1) : ∀ (g : Nat) (v1 : Int32) (v2 : Int32) (v3 : Int32) (v4 : Int32), f_X7_fits_27 K L fu M a0 g v1 v2 v3 v4 = some r → gW X 0 0 n K L M 27 [(0, va_rf (some a0)), (1, .int v1), (2, .int v2), (3, .int v3), (4, .int v4)] []
  | 0, _, _, _, _, h => by cases h
  | g + 1, v1, v2, v3, v4, h => w_X7_fits_27b o hL hr hk0 hE (w_X7_fits_27_n o hL hr hk0 hE hd g) hd h
theorem w_X7_fits_27 {X : Cx} {d n : Nat} {K L : Nat → Nat} {fu : Nat} {M : Mm} {a0 : Nat} {r : Int32} {v1 : Int32} {v2 : Int32} {v3 : Int32} {v4 : Int32} (o : cOk X cX7_fits RX7 (d + 1)) (hL : cL X = 5) (hr : (ch X).sig.returnType = some .boolean) (hk0 : K a0 = 7) (hE : cE X n K L M (some (.int r)) 0 0) (hd : 1 ≤ d + 1) (h : f_X7_fits_27 K L fu M a0 fu v1 v2 v3 v4 = some r) : gW X 0 0 n K L M 27 [(0, va_rf (some a0)), (1, .int v1), (2, .int v2), (3, .int v3), (4, .int v4)] [] := w_X7_fits_27_n o hL hr hk0 hE hd fu v1 v2 v3 v4 h
def f_X7_fits (K L : Nat → Nat) (fu : Nat) (M : Mm) (a0 : Nat) (v1 : Int32) (v2 : Int32) (v3 : Int32) : Option Int32 :=
  Option.bind (f_X11_within v2 (9999 : Int32)) (fun x1 =>
  if x1 = 0 then
    some (0 : Int32)
  else
    Option.bind (f_X11_within v3 ((10000 : Int32) - v2)) (fun x3 =>
    if x3 = 0 then
      some (0 : Int32)
    else
      f_X7_fits_27 K L fu M a0 fu v1 v2 v3 (1 : Int32)))
set_option maxHeartbeats 4000000 in
theorem w_X7_fits_0 {X : Cx} {d n : Nat} {K L : Nat → Nat} {fu : Nat} {M : Mm} {a0 : Nat} {r : Int32} {v1 : Int32} {v2 : Int32} {v3 : Int32} (o : cOk X cX7_fits RX7 (d + 1)) (hL : cL X = 5) (hr : (ch X).sig.returnType = some .boolean) (hk0 : K a0 = 7) (hE : cE X n K L M (some (.int r)) 0 0) (hd : 1 ≤ d + 1) (h : f_X7_fits K L fu M a0 v1 v2 v3 = some r) : gW X 0 0 n K L M 0 [(0, va_rf (some a0)), (1, .int v1), (2, .int v2), (3, .int v3)] [] := by
  unfold f_X7_fits at h
  refine g_iload_n o dX7_fits_0 2 rfl ?_
  refine g_sipush (v := (9999 : Int32)) o dX7_fits_1 (by decide) ?_
  obtain ⟨x1, e2, h⟩ := ob h
  refine g_invSN0 o mn_X7_34 kb_X11_within ks_X11_within (c_X11_within (cq X) (cD X) (cY X) (cB X) (d := d) (by omega) e2) rfl rfl (by simp [cat_i, cat_l, cat_rf]) dX7_fits_4 ?_
  refine g_if_eq (tgt := 22) o dX7_fits_7 (by decide) (fun z => ?_) (fun z => ?_)
  · have h := (if_pos z).symm.trans h
    refine g_iconst (v := (0 : Int32)) o dX7_fits_22 (by decide) ?_
    cases h
    exact g_zret o hr (by decide) hE dX7_fits_23
  · have h := (if_neg z).symm.trans h
    refine g_iload_n o dX7_fits_10 3 rfl ?_
    refine g_sipush (v := (10000 : Int32)) o dX7_fits_11 (by decide) ?_
    refine g_iload_n o dX7_fits_14 2 rfl ?_
    refine g_isub o dX7_fits_15 ?_
    obtain ⟨x3, e4, h⟩ := ob h
    refine g_invSN0 o mn_X7_34 kb_X11_within ks_X11_within (c_X11_within (cq X) (cD X) (cY X) (cB X) (d := d) (by omega) e4) rfl rfl (by simp [cat_i, cat_l, cat_rf]) dX7_fits_16 ?_
    refine g_if_ne (tgt := 24) o dX7_fits_19 (by decide) (fun z => ?_) (fun z => ?_)
    · have h := (if_neg z).symm.trans h
      refine g_iconst (v := (1 : Int32)) o dX7_fits_24 (by decide) ?_
      refine g_istore (i := 4) (ls' := [(4, .int (1 : Int32)), (0, va_rf (some a0)), (1, .int v1), (2, .int v2), (3, .int v3)]) o dX7_fits_25 (ltL hL (by decide)) rfl ?_
      refine gsub [1, 2, 3, 4, 0] rfl ?_
      exact w_X7_fits_27 o hL hr hk0 hE hd h
    · have h := (if_pos z).symm.trans h
      refine g_iconst (v := (0 : Int32)) o dX7_fits_22 (by decide) ?_
      cases h
      exact g_zret o hr (by decide) hE dX7_fits_23
theorem c_X7_fits (l : Launch) (D : va_G) (Y : Nat → ClassId) (B : Nat) {d : Nat} {n : Nat} {K L : Nat → Nat} {fu : Nat} {M : Mm} {a0 : Nat} {v1 : Int32} {v2 : Int32} {v3 : Int32} {r : Int32} (hd : 1 ≤ d) (hk0 : K a0 = 7) (h : f_X7_fits K L fu M a0 v1 v2 v3 = some r) : mC l D Y B d yX7_fits cX7_fits 5 (some .boolean) [va_rf (some a0), .int v1, .int v2, .int v3] n K L M n K L M (some (.int r)) 0 0 := by
  obtain ⟨d, rfl⟩ : ∃ e, d = e + 1 := ⟨d - 1, by omega⟩
  refine mk_met (by decide) (by simp [lgs_r, lgs_i, lgs_l, lgs_n]) (fun X e1 e2 e3 e4 o hL hr hnm hz hc hs hE => ?_)
  subst e1 e2 e3 e4
  rw [show lv_args 0 [va_rf (some a0), .int v1, .int v2, .int v3] = [(0, va_rf (some a0)), (1, .int v1), (2, .int v2), (3, .int v3)] by simp [lva_r, lva_i, lva_l, lva_n]]
  exact w_X7_fits_0 o hL hr hk0 hE hd h
def f_X7_wouldMove_48 (K L : Nat → Nat) (M : Mm) (a0 : Nat) (v4 : Int32) (s0 : Int32) : Option Int32 :=
  if v4 = s0 then
    some (0 : Int32)
  else
    some (1 : Int32)
set_option maxHeartbeats 4000000 in
theorem w_X7_wouldMove_48 {X : Cx} {d n : Nat} {K L : Nat → Nat} {M : Mm} {a0 : Nat} {r : Int32} {v4 : Int32} {s0 : Int32} (o : cOk X cX7_wouldMove RX7 d) (hL : cL X = 6) (hr : (ch X).sig.returnType = some .boolean) (hk0 : K a0 = 7) (hE : cE X n K L M (some (.int r)) 0 0) (h : f_X7_wouldMove_48 K L M a0 v4 s0 = some r) : gW X 0 0 n K L M 48 [(0, va_rf (some a0)), (4, .int v4)] [.int s0] := by
  unfold f_X7_wouldMove_48 at h
  refine g_istore (i := 5) (ls' := [(5, .int s0), (0, va_rf (some a0)), (4, .int v4)]) o dX7_wouldMove_48 (ltL hL (by decide)) rfl ?_
  refine g_iload o dX7_wouldMove_50 2 rfl ?_
  refine g_iload o dX7_wouldMove_52 0 rfl ?_
  refine g_icmp_eq (tgt := 61) o dX7_wouldMove_54 (by decide) (fun z => ?_) (fun z => ?_)
  · have h := (if_pos z).symm.trans h
    refine g_iconst (v := (0 : Int32)) o dX7_wouldMove_61 (by decide) ?_
    cases h
    exact g_zret o hr (by decide) hE dX7_wouldMove_62
  · have h := (if_neg z).symm.trans h
    refine g_iconst (v := (1 : Int32)) o dX7_wouldMove_57 (by decide) ?_
    refine g_goto (tgt := 62) o dX7_wouldMove_58 (by decide) ?_
    cases h
    exact g_zret o hr (by decide) hE dX7_wouldMove_62
def f_X7_wouldMove_47 (K L : Nat → Nat) (M : Mm) (a0 : Nat) (v4 : Int32) : Option Int32 :=
  f_X7_wouldMove_48 K L M a0 v4 (0 : Int32)
set_option maxHeartbeats 4000000 in
theorem w_X7_wouldMove_47 {X : Cx} {d n : Nat} {K L : Nat → Nat} {M : Mm} {a0 : Nat} {r : Int32} {v4 : Int32} (o : cOk X cX7_wouldMove RX7 d) (hL : cL X = 6) (hr : (ch X).sig.returnType = some .boolean) (hk0 : K a0 = 7) (hE : cE X n K L M (some (.int r)) 0 0) (h : f_X7_wouldMove_47 K L M a0 v4 = some r) : gW X 0 0 n K L M 47 [(0, va_rf (some a0)), (4, .int v4)] [] := by
  unfold f_X7_wouldMove_47 at h
  refine g_iconst (v := (0 : Int32)) o dX7_wouldMove_47 (by decide) ?_
  exact w_X7_wouldMove_48 o hL hr hk0 hE h
def f_X7_wouldMove_29 (K L : Nat → Nat) (M : Mm) (a0 : Nat) (v1 : Int32) (v2 : Int32) (v3 : Int32) (s0 : Int32) : Option Int32 :=
  if v1 < v3 then
    f_X7_wouldMove_47 K L M a0 s0
  else
    if (v3 + v2) ≤ v1 then
      f_X7_wouldMove_47 K L M a0 s0
    else
      f_X7_wouldMove_48 K L M a0 s0 (1 : Int32)
set_option maxHeartbeats 4000000 in
theorem w_X7_wouldMove_29 {X : Cx} {d n : Nat} {K L : Nat → Nat} {M : Mm} {a0 : Nat} {r : Int32} {v1 : Int32} {v2 : Int32} {v3 : Int32} {s0 : Int32} (o : cOk X cX7_wouldMove RX7 d) (hL : cL X = 6) (hr : (ch X).sig.returnType = some .boolean) (hk0 : K a0 = 7) (hE : cE X n K L M (some (.int r)) 0 0) (h : f_X7_wouldMove_29 K L M a0 v1 v2 v3 s0 = some r) : gW X 0 0 n K L M 29 [(0, va_rf (some a0)), (1, .int v1), (2, .int v2), (3, .int v3)] [.int s0] := by
  unfold f_X7_wouldMove_29 at h
  refine g_istore (i := 4) (ls' := [(4, .int s0), (0, va_rf (some a0)), (1, .int v1), (2, .int v2), (3, .int v3)]) o dX7_wouldMove_29 (ltL hL (by decide)) rfl ?_
  refine g_iload_n o dX7_wouldMove_31 2 rfl ?_
  refine g_iload_n o dX7_wouldMove_32 4 rfl ?_
  refine g_icmp_lt (tgt := 47) o dX7_wouldMove_33 (by decide) (fun z => ?_) (fun z => ?_)
  · have h := (if_pos z).symm.trans h
    refine gsub [1, 0] rfl ?_
    exact w_X7_wouldMove_47 o hL hr hk0 hE h
  · have h := (if_neg z).symm.trans h
    refine g_iload_n o dX7_wouldMove_36 2 rfl ?_
    refine g_iload_n o dX7_wouldMove_37 4 rfl ?_
    refine g_iload_n o dX7_wouldMove_38 3 rfl ?_
    refine g_iadd o dX7_wouldMove_39 ?_
    refine g_icmp_ge (tgt := 47) o dX7_wouldMove_40 (by decide) (fun z => ?_) (fun z => ?_)
    · have h := (if_pos z).symm.trans h
      refine gsub [1, 0] rfl ?_
      exact w_X7_wouldMove_47 o hL hr hk0 hE h
    · have h := (if_neg z).symm.trans h
      refine g_iconst (v := (1 : Int32)) o dX7_wouldMove_43 (by decide) ?_
      refine g_goto (tgt := 48) o dX7_wouldMove_44 (by decide) ?_
      refine gsub [1, 0] rfl ?_
      exact w_X7_wouldMove_48 o hL hr hk0 hE h
def f_X7_wouldMove_28 (K L : Nat → Nat) (M : Mm) (a0 : Nat) (v1 : Int32) (v2 : Int32) (v3 : Int32) : Option Int32 :=
  f_X7_wouldMove_29 K L M a0 v1 v2 v3 (0 : Int32)
set_option maxHeartbeats 4000000 in
theorem w_X7_wouldMove_28 {X : Cx} {d n : Nat} {K L : Nat → Nat} {M : Mm} {a0 : Nat} {r : Int32} {v1 : Int32} {v2 : Int32} {v3 : Int32} (o : cOk X cX7_wouldMove RX7 d) (hL : cL X = 6) (hr : (ch X).sig.returnType = some .boolean) (hk0 : K a0 = 7) (hE : cE X n K L M (some (.int r)) 0 0) (h : f_X7_wouldMove_28 K L M a0 v1 v2 v3 = some r) : gW X 0 0 n K L M 28 [(0, va_rf (some a0)), (1, .int v1), (2, .int v2), (3, .int v3)] [] := by
  unfold f_X7_wouldMove_28 at h
  refine g_iconst (v := (0 : Int32)) o dX7_wouldMove_28 (by decide) ?_
  exact w_X7_wouldMove_29 o hL hr hk0 hE h
def f_X7_wouldMove (K L : Nat → Nat) (M : Mm) (a0 : Nat) (v1 : Int32) (v2 : Int32) : Option Int32 :=
  Option.bind (rx K L (mm_R M (32 * 7 + 0) a0) 13 (1 : Int32)) (fun a1 =>
  bn (mm_A M a1 (1 : Int32).toNatClampNeg) (fun x3 =>
  if v1 < x3 then
    f_X7_wouldMove_28 K L M a0 v1 v2 x3
  else
    Option.bind (rx K L (mm_R M (32 * 7 + 1) a0) 13 (1 : Int32)) (fun a5 =>
    if (x3 + (mm_A M a5 (1 : Int32).toNatClampNeg)) ≤ v1 then
      f_X7_wouldMove_28 K L M a0 v1 v2 x3
    else
      f_X7_wouldMove_29 K L M a0 v1 v2 x3 (1 : Int32))))
set_option maxHeartbeats 4000000 in
theorem w_X7_wouldMove_0 {X : Cx} {d n : Nat} {K L : Nat → Nat} {M : Mm} {a0 : Nat} {r : Int32} {v1 : Int32} {v2 : Int32} (o : cOk X cX7_wouldMove RX7 d) (hL : cL X = 6) (hr : (ch X).sig.returnType = some .boolean) (hk0 : K a0 = 7) (hE : cE X n K L M (some (.int r)) 0 0) (h : f_X7_wouldMove K L M a0 v1 v2 = some r) : gW X 0 0 n K L M 0 [(0, va_rf (some a0)), (1, .int v1), (2, .int v2)] [] := by
  unfold f_X7_wouldMove at h
  refine g_aload_n o dX7_wouldMove_0 0 rfl ?_
  refine g_getR o fl_X7_9 (rc_self hk0) (by decide) rfl dX7_wouldMove_1 ?_
  refine g_iconst (v := (1 : Int32)) o dX7_wouldMove_4 (by decide) ?_
  obtain ⟨a1, e2, h⟩ := ob h
  refine g_iald o e2 dX7_wouldMove_5 ?_
  obtain ⟨x3, e4, h⟩ := bn_at h
  refine g_topI e4 ?_
  refine g_istore_n (i := 3) (ls' := [(3, .int x3), (0, va_rf (some a0)), (1, .int v1), (2, .int v2)]) o dX7_wouldMove_6 rfl (ltL hL (by decide)) rfl ?_
  refine g_iload_n o dX7_wouldMove_7 2 rfl ?_
  refine g_iload_n o dX7_wouldMove_8 0 rfl ?_
  refine g_icmp_lt (tgt := 28) o dX7_wouldMove_9 (by decide) (fun z => ?_) (fun z => ?_)
  · have h := (if_pos z).symm.trans h
    refine gsub [1, 2, 3, 0] rfl ?_
    exact w_X7_wouldMove_28 o hL hr hk0 hE h
  · have h := (if_neg z).symm.trans h
    refine g_iload_n o dX7_wouldMove_12 2 rfl ?_
    refine g_iload_n o dX7_wouldMove_13 0 rfl ?_
    refine g_aload_n o dX7_wouldMove_14 1 rfl ?_
    refine g_getR o fl_X7_15 (rc_self hk0) (by decide) rfl dX7_wouldMove_15 ?_
    refine g_iconst (v := (1 : Int32)) o dX7_wouldMove_18 (by decide) ?_
    obtain ⟨a5, e6, h⟩ := ob h
    refine g_iald o e6 dX7_wouldMove_19 ?_
    refine g_iadd o dX7_wouldMove_20 ?_
    refine g_icmp_ge (tgt := 28) o dX7_wouldMove_21 (by decide) (fun z => ?_) (fun z => ?_)
    · have h := (if_pos z).symm.trans h
      refine gsub [1, 2, 3, 0] rfl ?_
      exact w_X7_wouldMove_28 o hL hr hk0 hE h
    · have h := (if_neg z).symm.trans h
      refine g_iconst (v := (1 : Int32)) o dX7_wouldMove_24 (by decide) ?_
      refine g_goto (tgt := 29) o dX7_wouldMove_25 (by decide) ?_
      refine gsub [1, 2, 3, 0] rfl ?_
      exact w_X7_wouldMove_29 o hL hr hk0 hE h
theorem c_X7_wouldMove (l : Launch) (D : va_G) (Y : Nat → ClassId) (B : Nat) {d : Nat} {n : Nat} {K L : Nat → Nat} {M : Mm} {a0 : Nat} {v1 : Int32} {v2 : Int32} {r : Int32} (hd : 0 ≤ d) (hk0 : K a0 = 7) (h : f_X7_wouldMove K L M a0 v1 v2 = some r) : mC l D Y B d yX7_wouldMove cX7_wouldMove 6 (some .boolean) [va_rf (some a0), .int v1, .int v2] n K L M n K L M (some (.int r)) 0 0 := by
  refine mk_met (by decide) (by simp [lgs_r, lgs_i, lgs_l, lgs_n]) (fun X e1 e2 e3 e4 o hL hr hnm hz hc hs hE => ?_)
  subst e1 e2 e3 e4
  rw [show lv_args 0 [va_rf (some a0), .int v1, .int v2] = [(0, va_rf (some a0)), (1, .int v1), (2, .int v2)] by simp [lva_r, lva_i, lva_l, lva_n]]
  exact w_X7_wouldMove_0 o hL hr hk0 hE h
def f_X8_faultAt (K L : Nat → Nat) (M : Mm) (a0 : Nat) (v1 : Int32) (v2 : Int32) : Option Int32 :=
  Option.bind (f_X8_placeAt K L M a0 v1) (fun x1 =>
  if x1 = none then
    some (-3 : Int32)
  else
    Option.bind (rc K x1 4) (fun a3 =>
    if (mm_R M (32 * 4 + 0) a3) = none then
      if (mm_I M (32 * 4 + 1) a3) = 0 then
        some (-2 : Int32)
      else
        some (-5 : Int32)
    else
      Option.bind (rc K (mm_R M (32 * 4 + 0) a3) 9) (fun a5 =>
      Option.bind (f_X11_hasBit v2 (mm_I M (32 * 9 + 0) a5)) (fun x7 =>
      if x7 = 0 then
        some (-5 : Int32)
      else
        some (0 : Int32)))))
set_option maxHeartbeats 4000000 in
theorem w_X8_faultAt_0 {X : Cx} {d n : Nat} {K L : Nat → Nat} {M : Mm} {a0 : Nat} {r : Int32} {v1 : Int32} {v2 : Int32} (o : cOk X cX8_faultAt RX8 (d + 1)) (hL : cL X = 4) (hr : (ch X).sig.returnType = some .int) (hk0 : K a0 = 8) (hE : cE X n K L M (some (.int r)) 0 0) (hd : 2 ≤ d + 1) (h : f_X8_faultAt K L M a0 v1 v2 = some r) : gW X 0 0 n K L M 0 [(0, va_rf (some a0)), (1, .int v1), (2, .int v2)] [] := by
  unfold f_X8_faultAt at h
  refine g_aload_n o dX8_faultAt_0 0 rfl ?_
  refine g_iload_n o dX8_faultAt_1 1 rfl ?_
  obtain ⟨x1, e2, h⟩ := ob h
  refine g_invV0 o (rc_self hk0) (by decide) ml_X8_22 kb_X8_placeAt kv_X8_placeAt rfl (c_X8_placeAt (cq X) (cD X) (cY X) (cB X) (d := d) (by omega) (rc_at (rc_self hk0)).2 e2) rfl rfl (by simp [cat_i, cat_l, cat_rf]) dX8_faultAt_2 ?_
  refine g_astore_n (i := 3) (ls' := [(3, va_rf x1), (0, va_rf (some a0)), (1, .int v1), (2, .int v2)]) o dX8_faultAt_5 rfl (ltL hL (by decide)) rfl ?_
  refine g_aload_n o dX8_faultAt_6 0 rfl ?_
  refine g_ifnonnull (tgt := 13) o dX8_faultAt_7 (by decide) (fun z => ?_) (fun z => ?_)
  · have h := (if_neg z).symm.trans h
    refine g_aload_n o dX8_faultAt_13 0 rfl ?_
    obtain ⟨a3, e4, h⟩ := ob h
    refine g_getR o fl_X8_26 e4 (by decide) rfl dX8_faultAt_14 ?_
    refine g_ifnonnull (tgt := 35) o dX8_faultAt_17 (by decide) (fun z => ?_) (fun z => ?_)
    · have h := (if_neg z).symm.trans h
      refine g_iload_n o dX8_faultAt_35 3 rfl ?_
      refine g_aload_n o dX8_faultAt_36 0 rfl ?_
      refine g_getR o fl_X8_26 e4 (by decide) rfl dX8_faultAt_37 ?_
      obtain ⟨a5, e6, h⟩ := ob h
      refine g_getI o fl_X8_42 e6 (by decide) rfl dX8_faultAt_40 ?_
      obtain ⟨x7, e8, h⟩ := ob h
      refine g_invSN0 o mn_X8_48 kb_X11_hasBit ks_X11_hasBit (c_X11_hasBit (cq X) (cD X) (cY X) (cB X) (d := d) (by omega) e8) rfl rfl (by simp [cat_i, cat_l, cat_rf]) dX8_faultAt_43 ?_
      refine g_if_eq (tgt := 53) o dX8_faultAt_46 (by decide) (fun z => ?_) (fun z => ?_)
      · have h := (if_pos z).symm.trans h
        refine g_bipush (v := (-5 : Int32)) o dX8_faultAt_53 (by decide) ?_
        cases h
        exact g_iret o hr hE dX8_faultAt_55
      · have h := (if_neg z).symm.trans h
        refine g_iconst (v := (0 : Int32)) o dX8_faultAt_49 (by decide) ?_
        refine g_goto (tgt := 55) o dX8_faultAt_50 (by decide) ?_
        cases h
        exact g_iret o hr hE dX8_faultAt_55
    · have h := (if_pos z).symm.trans h
      refine g_aload_n o dX8_faultAt_20 0 rfl ?_
      refine g_getI o fl_X8_38 e4 (by decide) rfl dX8_faultAt_21 ?_
      refine g_if_eq (tgt := 32) o dX8_faultAt_24 (by decide) (fun z => ?_) (fun z => ?_)
      · have h := (if_pos z).symm.trans h
        refine g_bipush (v := (-2 : Int32)) o dX8_faultAt_32 (by decide) ?_
        cases h
        exact g_iret o hr hE dX8_faultAt_34
      · have h := (if_neg z).symm.trans h
        refine g_bipush (v := (-5 : Int32)) o dX8_faultAt_27 (by decide) ?_
        refine g_goto (tgt := 34) o dX8_faultAt_29 (by decide) ?_
        cases h
        exact g_iret o hr hE dX8_faultAt_34
  · have h := (if_pos z).symm.trans h
    refine g_bipush (v := (-3 : Int32)) o dX8_faultAt_10 (by decide) ?_
    cases h
    exact g_iret o hr hE dX8_faultAt_12
theorem c_X8_faultAt (l : Launch) (D : va_G) (Y : Nat → ClassId) (B : Nat) {d : Nat} {n : Nat} {K L : Nat → Nat} {M : Mm} {a0 : Nat} {v1 : Int32} {v2 : Int32} {r : Int32} (hd : 2 ≤ d) (hk0 : K a0 = 8) (h : f_X8_faultAt K L M a0 v1 v2 = some r) : mC l D Y B d yX8_faultAt cX8_faultAt 4 (some .int) [va_rf (some a0), .int v1, .int v2] n K L M n K L M (some (.int r)) 0 0 := by
  obtain ⟨d, rfl⟩ : ∃ e, d = e + 1 := ⟨d - 1, by omega⟩
  refine mk_met (by decide) (by simp [lgs_r, lgs_i, lgs_l, lgs_n]) (fun X e1 e2 e3 e4 o hL hr hnm hz hc hs hE => ?_)
  subst e1 e2 e3 e4
  rw [show lv_args 0 [va_rf (some a0), .int v1, .int v2] = [(0, va_rf (some a0)), (1, .int v1), (2, .int v2)] by simp [lva_r, lva_i, lva_l, lva_n]]
  exact w_X8_faultAt_0 o hL hr hk0 hE hd h
def f_X8_find (K L : Nat → Nat) (M : Mm) (a0 : Nat) (v1 : Int32) (v2 : Int32) : Option (Option Nat) :=
  Option.bind (f_X8_faultAt K L M a0 v1 v2) (fun x1 =>
  if x1 = 0 then
    Option.bind (f_X8_switchAt K L M a0 v1) (fun x3 =>
    some x3)
  else
    some none)
set_option maxHeartbeats 4000000 in
theorem w_X8_find_0 {X : Cx} {d n : Nat} {K L : Nat → Nat} {M : Mm} {a0 : Nat} {r : (Option Nat)} {v1 : Int32} {v2 : Int32} (o : cOk X cX8_find RX8 (d + 1)) (hL : cL X = 3) (hr : (ch X).sig.returnType = some (.object RX9)) (hk0 : K a0 = 8) (hE : cE X n K L M (some (va_rf r)) 0 0) (hd : 3 ≤ d + 1) (h : f_X8_find K L M a0 v1 v2 = some r) : gW X 0 0 n K L M 0 [(0, va_rf (some a0)), (1, .int v1), (2, .int v2)] [] := by
  unfold f_X8_find at h
  refine g_aload_n o dX8_find_0 0 rfl ?_
  refine g_iload_n o dX8_find_1 1 rfl ?_
  refine g_iload_n o dX8_find_2 2 rfl ?_
  obtain ⟨x1, e2, h⟩ := ob h
  refine g_invV0 o (rc_self hk0) (by decide) ml_X8_30 kb_X8_faultAt kv_X8_faultAt rfl (c_X8_faultAt (cq X) (cD X) (cY X) (cB X) (d := d) (by omega) (rc_at (rc_self hk0)).2 e2) rfl rfl (by simp [cat_i, cat_l, cat_rf]) dX8_find_3 ?_
  refine g_if_ne (tgt := 17) o dX8_find_6 (by decide) (fun z => ?_) (fun z => ?_)
  · have h := (if_neg z).symm.trans h
    refine g_null o dX8_find_17 ?_
    cases h
    exact g_aret o hr hE dX8_find_18
  · have h := (if_pos z).symm.trans h
    refine g_aload_n o dX8_find_9 0 rfl ?_
    refine g_iload_n o dX8_find_10 1 rfl ?_
    obtain ⟨x3, e4, h⟩ := ob h
    refine g_invV0 o (rc_self hk0) (by decide) ml_X8_34 kb_X8_switchAt kv_X8_switchAt rfl (c_X8_switchAt (cq X) (cD X) (cY X) (cB X) (d := d) (by omega) (rc_at (rc_self hk0)).2 e4) rfl rfl (by simp [cat_i, cat_l, cat_rf]) dX8_find_11 ?_
    refine g_goto (tgt := 18) o dX8_find_14 (by decide) ?_
    cases h
    exact g_aret o hr hE dX8_find_18
theorem c_X8_find (l : Launch) (D : va_G) (Y : Nat → ClassId) (B : Nat) {d : Nat} {n : Nat} {K L : Nat → Nat} {M : Mm} {a0 : Nat} {v1 : Int32} {v2 : Int32} {r : (Option Nat)} (hd : 3 ≤ d) (hk0 : K a0 = 8) (h : f_X8_find K L M a0 v1 v2 = some r) : mC l D Y B d yX8_find cX8_find 3 (some (.object RX9)) [va_rf (some a0), .int v1, .int v2] n K L M n K L M (some (va_rf r)) 0 0 := by
  obtain ⟨d, rfl⟩ : ∃ e, d = e + 1 := ⟨d - 1, by omega⟩
  refine mk_met (by decide) (by simp [lgs_r, lgs_i, lgs_l, lgs_n]) (fun X e1 e2 e3 e4 o hL hr hnm hz hc hs hE => ?_)
  subst e1 e2 e3 e4
  rw [show lv_args 0 [va_rf (some a0), .int v1, .int v2] = [(0, va_rf (some a0)), (1, .int v1), (2, .int v2)] by simp [lva_r, lva_i, lva_l, lva_n]]
  exact w_X8_find_0 o hL hr hk0 hE hd h
def f_X8_switchCount_4b (K L : Nat → Nat) (fu : Nat) (k4 : Int32 → Int32 → Option Int32) (M : Mm) (a0 : Nat) (v1 : Int32) (v2 : Int32) : Option Int32 :=
  if (16 : Int32) ≤ v2 then
    some v1
  else
    Option.bind (f_X8_switchAt K L M a0 v2) (fun x1 =>
    if x1 = none then
      k4 v1 (v2 + 1)
    else
      k4 (v1 + 1) (v2 + 1))
def f_X8_switchCount_4 (K L : Nat → Nat) (fu : Nat) (M : Mm) (a0 : Nat) : Nat → Int32 → Int32 → Option Int32
  | 0, _, _ => none
  | g + 1, v1, v2 => f_X8_switchCount_4b K L fu (f_X8_switchCount_4 K L fu M a0 g) M a0 v1 v2
set_option maxHeartbeats 4000000 in
theorem w_X8_switchCount_4b {X : Cx} {d n : Nat} {K L : Nat → Nat} {fu : Nat} {M : Mm} {a0 : Nat} {r : Int32} {k4 : Int32 → Int32 → Option Int32} {v1 : Int32} {v2 : Int32} (o : cOk X cX8_switchCount RX8 (d + 1)) (hL : cL X = 3) (hr : (ch X).sig.returnType = some .int) (hk0 : K a0 = 8) (hE : cE X n K L M (some (.int r)) 0 0) (hk4 : ∀ (v1 : Int32) (v2 : Int32), k4 v1 v2 = some r → gW X 0 0 n K L M 4 [(0, va_rf (some a0)), (1, .int v1), (2, .int v2)] []) (hd : 3 ≤ d + 1) (h : f_X8_switchCount_4b K L fu k4 M a0 v1 v2 = some r) : gW X 0 0 n K L M 4 [(0, va_rf (some a0)), (1, .int v1), (2, .int v2)] [] := by
  unfold f_X8_switchCount_4b at h
  refine g_iload_n o dX8_switchCount_4 2 rfl ?_
  refine g_bipush (v := (16 : Int32)) o dX8_switchCount_5 (by decide) ?_
  refine g_icmp_ge (tgt := 27) o dX8_switchCount_7 (by decide) (fun z => ?_) (fun z => ?_)
  · have h := (if_pos z).symm.trans h
    refine g_iload_n o dX8_switchCount_27 1 rfl ?_
    cases h
    exact g_iret o hr hE dX8_switchCount_28
  · have h := (if_neg z).symm.trans h
    refine g_aload_n o dX8_switchCount_10 0 rfl ?_
    refine g_iload_n o dX8_switchCount_11 2 rfl ?_
    obtain ⟨x1, e2, h⟩ := ob h
    refine g_invV0 o (rc_self hk0) (by decide) ml_X8_34 kb_X8_switchAt kv_X8_switchAt rfl (c_X8_switchAt (cq X) (cD X) (cY X) (cB X) (d := d) (by omega) (rc_at (rc_self hk0)).2 e2) rfl rfl (by simp [cat_i, cat_l, cat_rf]) dX8_switchCount_12 ?_
    refine g_ifnull (tgt := 21) o dX8_switchCount_15 (by decide) (fun z => ?_) (fun z => ?_)
    · have h := (if_pos z).symm.trans h
      refine g_iinc (i := 2) (v := v2 + 1) (ls' := [(2, .int (v2 + 1)), (0, va_rf (some a0)), (1, .int v1)]) o dX8_switchCount_21 2 rfl (by first | rfl | (congr 1)) (ltL hL (by decide)) rfl ?_
      refine g_goto (tgt := 4) o dX8_switchCount_24 (by decide) ?_
      refine gsub [1, 2, 0] rfl ?_
      exact hk4 _ _ h
    · have h := (if_neg z).symm.trans h
      refine g_iinc (i := 1) (v := v1 + 1) (ls' := [(1, .int (v1 + 1)), (0, va_rf (some a0)), (2, .int v2)]) o dX8_switchCount_18 1 rfl (by first | rfl | (congr 1)) (ltL hL (by decide)) rfl ?_
      refine g_iinc (i := 2) (v := v2 + 1) (ls' := [(2, .int (v2 + 1)), (1, .int (v1 + 1)), (0, va_rf (some a0))]) o dX8_switchCount_21 2 rfl (by first | rfl | (congr 1)) (ltL hL (by decide)) rfl ?_
      refine g_goto (tgt := 4) o dX8_switchCount_24 (by decide) ?_
      refine gsub [2, 1, 0] rfl ?_
      exact hk4 _ _ h
theorem w_X8_switchCount_4_n {X : Cx} {d n : Nat} {K L : Nat → Nat} {fu : Nat} {M : Mm} {a0 : Nat} {r : Int32} (o : cOk X cX8_switchCount RX8 (d + 1)) (hL : cL X = 3) (hr : (ch X).sig.returnType = some .int) (hk0 : K a0 = 8) (hE : cE X n K L M (some (.int r)) 0 0) (hd : 3 ≤ d + 1) : ∀ (g : Nat) (v1 : Int32) (v2 : Int32), f_X8_switchCount_4 K L fu M a0 g v1 v2 = some r → gW X 0 0 n K L M 4 [(0, va_rf (some a0)), (1, .int v1), (2, .int v2)] []
  | 0, _, _, h => by cases h
  | g + 1, v1, v2, h => w_X8_switchCount_4b o hL hr hk0 hE (w_X8_switchCount_4_n o hL hr hk0 hE hd g) hd h
theorem w_X8_switchCount_4 {X : Cx} {d n : Nat} {K L : Nat → Nat} {fu : Nat} {M : Mm} {a0 : Nat} {r : Int32} {v1 : Int32} {v2 : Int32} (o : cOk X cX8_switchCount RX8 (d + 1)) (hL : cL X = 3) (hr : (ch X).sig.returnType = some .int) (hk0 : K a0 = 8) (hE : cE X n K L M (some (.int r)) 0 0) (hd : 3 ≤ d + 1) (h : f_X8_switchCount_4 K L fu M a0 fu v1 v2 = some r) : gW X 0 0 n K L M 4 [(0, va_rf (some a0)), (1, .int v1), (2, .int v2)] [] := w_X8_switchCount_4_n o hL hr hk0 hE hd fu v1 v2 h
def f_X8_switchCount (K L : Nat → Nat) (fu : Nat) (M : Mm) (a0 : Nat) : Option Int32 :=
  f_X8_switchCount_4 K L fu M a0 fu (0 : Int32) (0 : Int32)
set_option maxHeartbeats 4000000 in
theorem w_X8_switchCount_0 {X : Cx} {d n : Nat} {K L : Nat → Nat} {fu : Nat} {M : Mm} {a0 : Nat} {r : Int32} (o : cOk X cX8_switchCount RX8 (d + 1)) (hL : cL X = 3) (hr : (ch X).sig.returnType = some .int) (hk0 : K a0 = 8) (hE : cE X n K L M (some (.int r)) 0 0) (hd : 3 ≤ d + 1) (h : f_X8_switchCount K L fu M a0  = some r) : gW X 0 0 n K L M 0 [(0, va_rf (some a0))] [] := by
  unfold f_X8_switchCount at h
  refine g_iconst (v := (0 : Int32)) o dX8_switchCount_0 (by decide) ?_
  refine g_istore_n (i := 1) (ls' := [(1, .int (0 : Int32)), (0, va_rf (some a0))]) o dX8_switchCount_1 rfl (ltL hL (by decide)) rfl ?_
  refine g_iconst (v := (0 : Int32)) o dX8_switchCount_2 (by decide) ?_
  refine g_istore_n (i := 2) (ls' := [(2, .int (0 : Int32)), (1, .int (0 : Int32)), (0, va_rf (some a0))]) o dX8_switchCount_3 rfl (ltL hL (by decide)) rfl ?_
  refine gsub [2, 1, 0] rfl ?_
  exact w_X8_switchCount_4 o hL hr hk0 hE hd h
theorem c_X8_switchCount (l : Launch) (D : va_G) (Y : Nat → ClassId) (B : Nat) {d : Nat} {n : Nat} {K L : Nat → Nat} {fu : Nat} {M : Mm} {a0 : Nat} {r : Int32} (hd : 3 ≤ d) (hk0 : K a0 = 8) (h : f_X8_switchCount K L fu M a0  = some r) : mC l D Y B d yX8_switchCount cX8_switchCount 3 (some .int) [va_rf (some a0)] n K L M n K L M (some (.int r)) 0 0 := by
  obtain ⟨d, rfl⟩ : ∃ e, d = e + 1 := ⟨d - 1, by omega⟩
  refine mk_met (by decide) (by simp [lgs_r, lgs_i, lgs_l, lgs_n]) (fun X e1 e2 e3 e4 o hL hr hnm hz hc hs hE => ?_)
  subst e1 e2 e3 e4
  rw [show lv_args 0 [va_rf (some a0)] = [(0, va_rf (some a0))] by simp [lva_r, lva_i, lva_l, lva_n]]
  exact w_X8_switchCount_0 o hL hr hk0 hE hd h
def f_X9_rowOf (K L : Nat → Nat) (M : Mm) (a0 : Nat) (v1 : Int32) : Option (Option Nat) :=
  Option.bind (f_X11_within v1 (3 : Int32)) (fun x1 =>
  if x1 = 0 then
    some none
  else
    Option.bind (rx K L (mm_R M (32 * 9 + 12) a0) 16 v1) (fun a3 =>
    Option.bind (rc K (mm_C M a3 v1.toNatClampNeg) 2) (fun a5 =>
    if (mm_I M (32 * 2 + 0) a5) = 0 then
      some none
    else
      some (mm_C M a3 v1.toNatClampNeg))))
set_option maxHeartbeats 4000000 in
theorem w_X9_rowOf_0 {X : Cx} {d n : Nat} {K L : Nat → Nat} {M : Mm} {a0 : Nat} {r : (Option Nat)} {v1 : Int32} (o : cOk X cX9_rowOf RX9 (d + 1)) (hL : cL X = 2) (hr : (ch X).sig.returnType = some (.object RX2)) (hk0 : K a0 = 9) (hE : cE X n K L M (some (va_rf r)) 0 0) (hd : 1 ≤ d + 1) (h : f_X9_rowOf K L M a0 v1 = some r) : gW X 0 0 n K L M 0 [(0, va_rf (some a0)), (1, .int v1)] [] := by
  unfold f_X9_rowOf at h
  refine g_iload_n o dX9_rowOf_0 1 rfl ?_
  refine g_iconst (v := (3 : Int32)) o dX9_rowOf_1 (by decide) ?_
  obtain ⟨x1, e2, h⟩ := ob h
  refine g_invSN0 o mn_X9_117 kb_X11_within ks_X11_within (c_X11_within (cq X) (cD X) (cY X) (cB X) (d := d) (by omega) e2) rfl rfl (by simp [cat_i, cat_l, cat_rf]) dX9_rowOf_2 ?_
  refine g_if_eq (tgt := 29) o dX9_rowOf_5 (by decide) (fun z => ?_) (fun z => ?_)
  · have h := (if_pos z).symm.trans h
    refine g_null o dX9_rowOf_29 ?_
    cases h
    exact g_aret o hr hE dX9_rowOf_30
  · have h := (if_neg z).symm.trans h
    refine g_aload_n o dX9_rowOf_8 0 rfl ?_
    refine g_getR o fl_X9_48 (rc_self hk0) (by decide) rfl dX9_rowOf_9 ?_
    refine g_iload_n o dX9_rowOf_12 1 rfl ?_
    obtain ⟨a3, e4, h⟩ := ob h
    refine g_aald o (by decide) e4 dX9_rowOf_13 ?_
    obtain ⟨a5, e6, h⟩ := ob h
    refine g_getI o fl_X9_120 e6 (by decide) rfl dX9_rowOf_14 ?_
    refine g_if_eq (tgt := 29) o dX9_rowOf_17 (by decide) (fun z => ?_) (fun z => ?_)
    · have h := (if_pos z).symm.trans h
      refine g_null o dX9_rowOf_29 ?_
      cases h
      exact g_aret o hr hE dX9_rowOf_30
    · have h := (if_neg z).symm.trans h
      refine g_aload_n o dX9_rowOf_20 0 rfl ?_
      refine g_getR o fl_X9_48 (rc_self hk0) (by decide) rfl dX9_rowOf_21 ?_
      refine g_iload_n o dX9_rowOf_24 1 rfl ?_
      refine g_aald o (by decide) e4 dX9_rowOf_25 ?_
      refine g_goto (tgt := 30) o dX9_rowOf_26 (by decide) ?_
      cases h
      exact g_aret o hr hE dX9_rowOf_30
theorem c_X9_rowOf (l : Launch) (D : va_G) (Y : Nat → ClassId) (B : Nat) {d : Nat} {n : Nat} {K L : Nat → Nat} {M : Mm} {a0 : Nat} {v1 : Int32} {r : (Option Nat)} (hd : 1 ≤ d) (hk0 : K a0 = 9) (h : f_X9_rowOf K L M a0 v1 = some r) : mC l D Y B d yX9_rowOf cX9_rowOf 2 (some (.object RX2)) [va_rf (some a0), .int v1] n K L M n K L M (some (va_rf r)) 0 0 := by
  obtain ⟨d, rfl⟩ : ∃ e, d = e + 1 := ⟨d - 1, by omega⟩
  refine mk_met (by decide) (by simp [lgs_r, lgs_i, lgs_l, lgs_n]) (fun X e1 e2 e3 e4 o hL hr hnm hz hc hs hE => ?_)
  subst e1 e2 e3 e4
  rw [show lv_args 0 [va_rf (some a0), .int v1] = [(0, va_rf (some a0)), (1, .int v1)] by simp [lva_r, lva_i, lva_l, lva_n]]
  exact w_X9_rowOf_0 o hL hr hk0 hE hd h
def f_X9_beginRow (K L : Nat → Nat) (a0 : Nat) (v1 : Int32) (v2 : Int32) (M : Mm) : Option Mm :=
  Option.bind (f_X11_within v1 (3 : Int32)) (fun x1 =>
  if x1 = 0 then
    some M
  else
    Option.bind (rx K L (mm_R M (32 * 9 + 12) a0) 16 v1) (fun a3 =>
    Option.bind (rc K (mm_C M a3 v1.toNatClampNeg) 2) (fun a5 =>
    Option.bind (f_X2_begin K L a5 v2 M) (fun x7 =>
    some x7))))
set_option maxHeartbeats 4000000 in
theorem w_X9_beginRow_0 {X : Cx} {d n : Nat} {K L : Nat → Nat} {a0 : Nat} {r : Mm} {v1 : Int32} {v2 : Int32} {M : Mm} (o : cOk X cX9_beginRow RX9 (d + 1)) (hL : cL X = 3) (hr : (ch X).sig.returnType = none) (hz : (cs X).heap.size + 0 = cB X + n) (hk0 : K a0 = 9) (hE : cE X n K L r none 0 0) (hd : 1 ≤ d + 1) (h : f_X9_beginRow K L a0 v1 v2 M = some r) : gW X 0 0 n K L M 0 [(0, va_rf (some a0)), (1, .int v1), (2, .int v2)] [] := by
  unfold f_X9_beginRow at h
  refine g_iload_n o dX9_beginRow_0 1 rfl ?_
  refine g_iconst (v := (3 : Int32)) o dX9_beginRow_1 (by decide) ?_
  obtain ⟨x1, e2, h⟩ := ob h
  refine g_invSN0 o mn_X9_117 kb_X11_within ks_X11_within (c_X11_within (cq X) (cD X) (cY X) (cB X) (d := d) (by omega) e2) rfl rfl (by simp [cat_i, cat_l, cat_rf]) dX9_beginRow_2 ?_
  refine g_if_eq (tgt := 18) o dX9_beginRow_5 (by decide) (fun z => ?_) (fun z => ?_)
  · have h := (if_pos z).symm.trans h
    cases h
    exact g_vret o hr hE dX9_beginRow_18
  · have h := (if_neg z).symm.trans h
    refine g_aload_n o dX9_beginRow_8 0 rfl ?_
    refine g_getR o fl_X9_48 (rc_self hk0) (by decide) rfl dX9_beginRow_9 ?_
    refine g_iload_n o dX9_beginRow_12 1 rfl ?_
    obtain ⟨a3, e4, h⟩ := ob h
    refine g_aald o (by decide) e4 dX9_beginRow_13 ?_
    refine g_iload_n o dX9_beginRow_14 2 rfl ?_
    obtain ⟨a5, e6, h⟩ := ob h
    obtain ⟨x7, e8, h⟩ := ob h
    refine g_invV0 o e6 (by decide) ml_X9_83 kb_X2_begin kv_X2_begin rfl (c_X2_begin (cq X) (cD X) (cY X) (cB X) (d := d) (by omega) (rc_at e6).2 e8) rfl rfl (by simp [cat_i, cat_l, cat_rf]) dX9_beginRow_15 ?_
    cases h
    exact g_vret o hr hE dX9_beginRow_18
theorem c_X9_beginRow (l : Launch) (D : va_G) (Y : Nat → ClassId) (B : Nat) {d : Nat} {n : Nat} {K L : Nat → Nat} {M : Mm} {a0 : Nat} {v1 : Int32} {v2 : Int32} {r : Mm} (hd : 1 ≤ d) (hk0 : K a0 = 9) (h : f_X9_beginRow K L a0 v1 v2 M = some r) : mC l D Y B d yX9_beginRow cX9_beginRow 3 (none) [va_rf (some a0), .int v1, .int v2] n K L M n K L r none 0 0 := by
  obtain ⟨d, rfl⟩ : ∃ e, d = e + 1 := ⟨d - 1, by omega⟩
  refine mk_met (by decide) (by simp [lgs_r, lgs_i, lgs_l, lgs_n]) (fun X e1 e2 e3 e4 o hL hr hnm hz hc hs hE => ?_)
  subst e1 e2 e3 e4
  rw [show lv_args 0 [va_rf (some a0), .int v1, .int v2] = [(0, va_rf (some a0)), (1, .int v1), (2, .int v2)] by simp [lva_r, lva_i, lva_l, lva_n]]
  exact w_X9_beginRow_0 o hL hr hz hk0 hE hd h
def f_X9_standOn (K L : Nat → Nat) (a0 : Nat) (v1 : Int32) (M : Mm) : Option Mm :=
  Option.bind (rc K (mm_R M (32 * 9 + 9) a0) 3) (fun a1 =>
  bn (ms_I M (32 * 3 + 2) a1 v1) (fun M3 =>
  Option.bind (rc K (mm_R M3 (32 * 9 + 4) a0) 7) (fun a5 =>
  Option.bind (f_X7_firstOf K L M3 a5 (1 : Int32)) (fun x7 =>
  Option.bind (rc K (mm_R M3 (32 * 9 + 9) a0) 3) (fun a9 =>
  Option.bind (f_X3_stepAt K L M3 a9 v1) (fun x11 =>
  Option.bind (f_X7_put K L a5 (1 : Int32) x7 x11 M3) (fun x13 =>
  some x13)))))))
set_option maxHeartbeats 4000000 in
theorem w_X9_standOn_0 {X : Cx} {d n : Nat} {K L : Nat → Nat} {a0 : Nat} {r : Mm} {v1 : Int32} {M : Mm} (o : cOk X cX9_standOn RX9 (d + 1)) (hL : cL X = 2) (hr : (ch X).sig.returnType = none) (hz : (cs X).heap.size + 0 = cB X + n) (hk0 : K a0 = 9) (hE : cE X n K L r none 0 0) (hd : 2 ≤ d + 1) (h : f_X9_standOn K L a0 v1 M = some r) : gW X 0 0 n K L M 0 [(0, va_rf (some a0)), (1, .int v1)] [] := by
  unfold f_X9_standOn at h
  refine g_aload_n o dX9_standOn_0 0 rfl ?_
  refine g_getR o fl_X9_28 (rc_self hk0) (by decide) rfl dX9_standOn_1 ?_
  refine g_iload_n o dX9_standOn_4 1 rfl ?_
  obtain ⟨a1, e2, h⟩ := ob h
  refine g_putI o hz fl_X9_123 e2 (by decide) rfl rfl rfl  dX9_standOn_5 ?_
  obtain ⟨M3, e4, h⟩ := bn_at h
  refine g_mem e4 ?_
  refine g_aload_n o dX9_standOn_8 0 rfl ?_
  refine g_getR o fl_X9_21 (rc_self hk0) (by decide) rfl dX9_standOn_9 ?_
  refine g_iconst (v := (1 : Int32)) o dX9_standOn_12 (by decide) ?_
  refine g_aload_n o dX9_standOn_13 0 rfl ?_
  refine g_getR o fl_X9_21 (rc_self hk0) (by decide) rfl dX9_standOn_14 ?_
  refine g_iconst (v := (1 : Int32)) o dX9_standOn_17 (by decide) ?_
  obtain ⟨a5, e6, h⟩ := ob h
  obtain ⟨x7, e8, h⟩ := ob h
  refine g_invV0 o e6 (by decide) ml_X9_126 kb_X7_firstOf kv_X7_firstOf rfl (c_X7_firstOf (cq X) (cD X) (cY X) (cB X) (d := d) (by omega) (rc_at e6).2 e8) rfl rfl (by simp [cat_i, cat_l, cat_rf]) dX9_standOn_18 ?_
  refine g_aload_n o dX9_standOn_21 0 rfl ?_
  refine g_getR o fl_X9_28 (rc_self hk0) (by decide) rfl dX9_standOn_22 ?_
  refine g_iload_n o dX9_standOn_25 1 rfl ?_
  obtain ⟨a9, e10, h⟩ := ob h
  obtain ⟨x11, e12, h⟩ := ob h
  refine g_invV0 o e10 (by decide) ml_X9_130 kb_X3_stepAt kv_X3_stepAt rfl (c_X3_stepAt (cq X) (cD X) (cY X) (cB X) (d := d) (by omega) (rc_at e10).2 e12) rfl rfl (by simp [cat_i, cat_l, cat_rf]) dX9_standOn_26 ?_
  obtain ⟨x13, e14, h⟩ := ob h
  refine g_invV0 o e6 (by decide) ml_X9_133 kb_X7_put kv_X7_put rfl (c_X7_put (cq X) (cD X) (cY X) (cB X) (d := d) (by omega) (rc_at e6).2 e14) rfl rfl (by simp [cat_i, cat_l, cat_rf]) dX9_standOn_29 ?_
  cases h
  exact g_vret o hr hE dX9_standOn_32
theorem c_X9_standOn (l : Launch) (D : va_G) (Y : Nat → ClassId) (B : Nat) {d : Nat} {n : Nat} {K L : Nat → Nat} {M : Mm} {a0 : Nat} {v1 : Int32} {r : Mm} (hd : 2 ≤ d) (hk0 : K a0 = 9) (h : f_X9_standOn K L a0 v1 M = some r) : mC l D Y B d yX9_standOn cX9_standOn 2 (none) [va_rf (some a0), .int v1] n K L M n K L r none 0 0 := by
  obtain ⟨d, rfl⟩ : ∃ e, d = e + 1 := ⟨d - 1, by omega⟩
  refine mk_met (by decide) (by simp [lgs_r, lgs_i, lgs_l, lgs_n]) (fun X e1 e2 e3 e4 o hL hr hnm hz hc hs hE => ?_)
  subst e1 e2 e3 e4
  rw [show lv_args 0 [va_rf (some a0), .int v1] = [(0, va_rf (some a0)), (1, .int v1)] by simp [lva_r, lva_i, lva_l, lva_n]]
  exact w_X9_standOn_0 o hL hr hz hk0 hE hd h
def f_X9_growFault_113 (K L : Nat → Nat) (fu : Nat) (M : Mm) (a0 : Nat) (v4 : Int32) (s0 : Int32) : Option Int32 :=
  if s0 = 0 then
    Option.bind (rc K (mm_R M (32 * 9 + 4) a0) 7) (fun a1 =>
    Option.bind (f_X7_firstOf K L M a1 (1 : Int32)) (fun x3 =>
    Option.bind (f_X7_fits K L fu M a1 (1 : Int32) x3 v4) (fun x5 =>
    if x5 = 0 then
      some (-12 : Int32)
    else
      some (0 : Int32))))
  else
    some (-12 : Int32)
set_option maxHeartbeats 4000000 in
theorem w_X9_growFault_113 {X : Cx} {d n : Nat} {K L : Nat → Nat} {fu : Nat} {M : Mm} {a0 : Nat} {r : Int32} {v4 : Int32} {s0 : Int32} (o : cOk X cX9_growFault RX9 (d + 1)) (hL : cL X = 6) (hr : (ch X).sig.returnType = some .int) (hk0 : K a0 = 9) (hE : cE X n K L M (some (.int r)) 0 0) (hd : 4 ≤ d + 1) (h : f_X9_growFault_113 K L fu M a0 v4 s0 = some r) : gW X 0 0 n K L M 113 [(0, va_rf (some a0)), (4, .int v4)] [.int s0] := by
  unfold f_X9_growFault_113 at h
  refine g_istore (i := 5) (ls' := [(5, .int s0), (0, va_rf (some a0)), (4, .int v4)]) o dX9_growFault_113 (ltL hL (by decide)) rfl ?_
  refine g_iload o dX9_growFault_115 0 rfl ?_
  refine g_if_ne (tgt := 141) o dX9_growFault_117 (by decide) (fun z => ?_) (fun z => ?_)
  · have h := (if_neg z).symm.trans h
    refine g_bipush (v := (-12 : Int32)) o dX9_growFault_141 (by decide) ?_
    refine g_goto (tgt := 147) o dX9_growFault_143 (by decide) ?_
    cases h
    exact g_iret o hr hE dX9_growFault_147
  · have h := (if_pos z).symm.trans h
    refine g_aload_n o dX9_growFault_120 1 rfl ?_
    refine g_getR o fl_X9_21 (rc_self hk0) (by decide) rfl dX9_growFault_121 ?_
    refine g_iconst (v := (1 : Int32)) o dX9_growFault_124 (by decide) ?_
    refine g_aload_n o dX9_growFault_125 1 rfl ?_
    refine g_getR o fl_X9_21 (rc_self hk0) (by decide) rfl dX9_growFault_126 ?_
    refine g_iconst (v := (1 : Int32)) o dX9_growFault_129 (by decide) ?_
    obtain ⟨a1, e2, h⟩ := ob h
    obtain ⟨x3, e4, h⟩ := ob h
    refine g_invV0 o e2 (by decide) ml_X9_126 kb_X7_firstOf kv_X7_firstOf rfl (c_X7_firstOf (cq X) (cD X) (cY X) (cB X) (d := d) (by omega) (rc_at e2).2 e4) rfl rfl (by simp [cat_i, cat_l, cat_rf]) dX9_growFault_130 ?_
    refine g_iload o dX9_growFault_133 2 rfl ?_
    obtain ⟨x5, e6, h⟩ := ob h
    refine g_invV0 o e2 (by decide) ml_X9_162 kb_X7_fits kv_X7_fits rfl (c_X7_fits (cq X) (cD X) (cY X) (cB X) (d := d) (by omega) (rc_at e2).2 e6) rfl rfl (by simp [cat_i, cat_l, cat_rf]) dX9_growFault_135 ?_
    refine g_if_ne (tgt := 146) o dX9_growFault_138 (by decide) (fun z => ?_) (fun z => ?_)
    · have h := (if_neg z).symm.trans h
      refine g_iconst (v := (0 : Int32)) o dX9_growFault_146 (by decide) ?_
      cases h
      exact g_iret o hr hE dX9_growFault_147
    · have h := (if_pos z).symm.trans h
      refine g_bipush (v := (-12 : Int32)) o dX9_growFault_141 (by decide) ?_
      refine g_goto (tgt := 147) o dX9_growFault_143 (by decide) ?_
      cases h
      exact g_iret o hr hE dX9_growFault_147
def f_X9_growFault_64 (K L : Nat → Nat) (fu : Nat) (M : Mm) (a0 : Nat) (v1 : Int32) (v2 : Int32) (s0 : Int32) : Option Int32 :=
  if s0 = 0 then
    Option.bind (rc K (mm_R M (32 * 9 + 10) a0) 0) (fun a1 =>
    if (mm_I M (32 * 0 + 5) a1) ≤ v1 then
      Option.bind (rc K (mm_R M (32 * 9 + 9) a0) 3) (fun a3 =>
      Option.bind (f_X3_stepAt K L M a3 v2) (fun x5 =>
      Option.bind (rc K (mm_R M (32 * 9 + 4) a0) 7) (fun a7 =>
      Option.bind (f_X7_sizeOf K L M a7 (1 : Int32)) (fun x9 =>
      if x9 ≤ x5 then
        f_X9_growFault_113 K L fu M a0 x5 (0 : Int32)
      else
        f_X9_growFault_113 K L fu M a0 x5 (1 : Int32)))))
    else
      some (-11 : Int32))
  else
    some s0
set_option maxHeartbeats 4000000 in
theorem w_X9_growFault_64 {X : Cx} {d n : Nat} {K L : Nat → Nat} {fu : Nat} {M : Mm} {a0 : Nat} {r : Int32} {v1 : Int32} {v2 : Int32} {s0 : Int32} (o : cOk X cX9_growFault RX9 (d + 1)) (hL : cL X = 6) (hr : (ch X).sig.returnType = some .int) (hk0 : K a0 = 9) (hE : cE X n K L M (some (.int r)) 0 0) (hd : 4 ≤ d + 1) (h : f_X9_growFault_64 K L fu M a0 v1 v2 s0 = some r) : gW X 0 0 n K L M 64 [(0, va_rf (some a0)), (1, .int v1), (2, .int v2)] [.int s0] := by
  unfold f_X9_growFault_64 at h
  refine g_istore_n (i := 3) (ls' := [(3, .int s0), (0, va_rf (some a0)), (1, .int v1), (2, .int v2)]) o dX9_growFault_64 rfl (ltL hL (by decide)) rfl ?_
  refine g_iload_n o dX9_growFault_65 0 rfl ?_
  refine g_if_eq (tgt := 71) o dX9_growFault_66 (by decide) (fun z => ?_) (fun z => ?_)
  · have h := (if_pos z).symm.trans h
    refine g_iload_n o dX9_growFault_71 2 rfl ?_
    refine g_aload_n o dX9_growFault_72 1 rfl ?_
    refine g_getR o fl_X9_35 (rc_self hk0) (by decide) rfl dX9_growFault_73 ?_
    obtain ⟨a1, e2, h⟩ := ob h
    refine g_getI o fl_X9_156 e2 (by decide) rfl dX9_growFault_76 ?_
    refine g_icmp_ge (tgt := 85) o dX9_growFault_79 (by decide) (fun z => ?_) (fun z => ?_)
    · have h := (if_pos z).symm.trans h
      refine g_aload_n o dX9_growFault_85 1 rfl ?_
      refine g_getR o fl_X9_28 (rc_self hk0) (by decide) rfl dX9_growFault_86 ?_
      refine g_iload_n o dX9_growFault_89 3 rfl ?_
      obtain ⟨a3, e4, h⟩ := ob h
      obtain ⟨x5, e6, h⟩ := ob h
      refine g_invV0 o e4 (by decide) ml_X9_130 kb_X3_stepAt kv_X3_stepAt rfl (c_X3_stepAt (cq X) (cD X) (cY X) (cB X) (d := d) (by omega) (rc_at e4).2 e6) rfl rfl (by simp [cat_i, cat_l, cat_rf]) dX9_growFault_90 ?_
      refine g_istore (i := 4) (ls' := [(4, .int x5), (3, .int s0), (0, va_rf (some a0)), (1, .int v1), (2, .int v2)]) o dX9_growFault_93 (ltL hL (by decide)) rfl ?_
      refine g_iload o dX9_growFault_95 0 rfl ?_
      refine g_aload_n o dX9_growFault_97 2 rfl ?_
      refine g_getR o fl_X9_21 (rc_self hk0) (by decide) rfl dX9_growFault_98 ?_
      refine g_iconst (v := (1 : Int32)) o dX9_growFault_101 (by decide) ?_
      obtain ⟨a7, e8, h⟩ := ob h
      obtain ⟨x9, e10, h⟩ := ob h
      refine g_invV0 o e8 (by decide) ml_X9_159 kb_X7_sizeOf kv_X7_sizeOf rfl (c_X7_sizeOf (cq X) (cD X) (cY X) (cB X) (d := d) (by omega) (rc_at e8).2 e10) rfl rfl (by simp [cat_i, cat_l, cat_rf]) dX9_growFault_102 ?_
      refine g_icmp_ge (tgt := 112) o dX9_growFault_105 (by decide) (fun z => ?_) (fun z => ?_)
      · have h := (if_pos z).symm.trans h
        refine g_iconst (v := (0 : Int32)) o dX9_growFault_112 (by decide) ?_
        refine gsub [2, 0] rfl ?_
        exact w_X9_growFault_113 o hL hr hk0 hE hd h
      · have h := (if_neg z).symm.trans h
        refine g_iconst (v := (1 : Int32)) o dX9_growFault_108 (by decide) ?_
        refine g_goto (tgt := 113) o dX9_growFault_109 (by decide) ?_
        refine gsub [2, 0] rfl ?_
        exact w_X9_growFault_113 o hL hr hk0 hE hd h
    · have h := (if_neg z).symm.trans h
      refine g_bipush (v := (-11 : Int32)) o dX9_growFault_82 (by decide) ?_
      cases h
      exact g_iret o hr hE dX9_growFault_84
  · have h := (if_neg z).symm.trans h
    refine g_iload_n o dX9_growFault_69 0 rfl ?_
    cases h
    exact g_iret o hr hE dX9_growFault_70
def f_X9_growFault (K L : Nat → Nat) (fu : Nat) (M : Mm) (a0 : Nat) (v1 : Int32) : Option Int32 :=
  Option.bind (rc K (mm_R M (32 * 9 + 9) a0) 3) (fun a1 =>
  Option.bind (f_X3_hasRow K L M a1) (fun x3 =>
  if x3 = 0 then
    some (-2 : Int32)
  else
    bn ((mm_I M (32 * 3 + 2) a1) + (1 : Int32)) (fun x5 =>
    Option.bind (f_X3_hasStep K L M a1 x5) (fun x7 =>
    if x7 = 0 then
      some (-3 : Int32)
    else
      Option.bind (f_X3_isStoodOn K L M a1) (fun x9 =>
      if x9 = 0 then
        f_X9_growFault_64 K L fu M a0 v1 x5 (0 : Int32)
      else
        Option.bind (f_X9_rowOf K L M a0 (1 : Int32)) (fun x11 =>
        Option.bind (rc K (mm_R M (32 * 9 + 10) a0) 0) (fun a13 =>
        Option.bind (f_X0_faultOf K L fu M a13 x11 v1) (fun x15 =>
        f_X9_growFault_64 K L fu M a0 v1 x5 x15))))))))
set_option maxHeartbeats 4000000 in
theorem w_X9_growFault_0 {X : Cx} {d n : Nat} {K L : Nat → Nat} {fu : Nat} {M : Mm} {a0 : Nat} {r : Int32} {v1 : Int32} (o : cOk X cX9_growFault RX9 (d + 1)) (hL : cL X = 6) (hr : (ch X).sig.returnType = some .int) (hk0 : K a0 = 9) (hE : cE X n K L M (some (.int r)) 0 0) (hd : 4 ≤ d + 1) (h : f_X9_growFault K L fu M a0 v1 = some r) : gW X 0 0 n K L M 0 [(0, va_rf (some a0)), (1, .int v1)] [] := by
  unfold f_X9_growFault at h
  refine g_aload_n o dX9_growFault_0 0 rfl ?_
  refine g_getR o fl_X9_28 (rc_self hk0) (by decide) rfl dX9_growFault_1 ?_
  obtain ⟨a1, e2, h⟩ := ob h
  obtain ⟨x3, e4, h⟩ := ob h
  refine g_invV0 o e2 (by decide) ml_X9_137 kb_X3_hasRow kv_X3_hasRow rfl (c_X3_hasRow (cq X) (cD X) (cY X) (cB X) (d := d) (by omega) (rc_at e2).2 e4) rfl rfl (by simp [cat_i, cat_l, cat_rf]) dX9_growFault_4 ?_
  refine g_if_ne (tgt := 13) o dX9_growFault_7 (by decide) (fun z => ?_) (fun z => ?_)
  · have h := (if_neg z).symm.trans h
    refine g_aload_n o dX9_growFault_13 0 rfl ?_
    refine g_getR o fl_X9_28 (rc_self hk0) (by decide) rfl dX9_growFault_14 ?_
    refine g_getI o fl_X9_123 e2 (by decide) rfl dX9_growFault_17 ?_
    refine g_iconst (v := (1 : Int32)) o dX9_growFault_20 (by decide) ?_
    refine g_iadd o dX9_growFault_21 ?_
    obtain ⟨x5, e6, h⟩ := bn_at h
    refine g_topI e6 ?_
    refine g_istore_n (i := 2) (ls' := [(2, .int x5), (0, va_rf (some a0)), (1, .int v1)]) o dX9_growFault_22 rfl (ltL hL (by decide)) rfl ?_
    refine g_aload_n o dX9_growFault_23 1 rfl ?_
    refine g_getR o fl_X9_28 (rc_self hk0) (by decide) rfl dX9_growFault_24 ?_
    refine g_iload_n o dX9_growFault_27 0 rfl ?_
    obtain ⟨x7, e8, h⟩ := ob h
    refine g_invV0 o e2 (by decide) ml_X9_141 kb_X3_hasStep kv_X3_hasStep rfl (c_X3_hasStep (cq X) (cD X) (cY X) (cB X) (d := d) (by omega) (rc_at e2).2 e8) rfl rfl (by simp [cat_i, cat_l, cat_rf]) dX9_growFault_28 ?_
    refine g_if_ne (tgt := 37) o dX9_growFault_31 (by decide) (fun z => ?_) (fun z => ?_)
    · have h := (if_neg z).symm.trans h
      refine g_aload_n o dX9_growFault_37 1 rfl ?_
      refine g_getR o fl_X9_28 (rc_self hk0) (by decide) rfl dX9_growFault_38 ?_
      obtain ⟨x9, e10, h⟩ := ob h
      refine g_invV0 o e2 (by decide) ml_X9_145 kb_X3_isStoodOn kv_X3_isStoodOn rfl (c_X3_isStoodOn (cq X) (cD X) (cY X) (cB X) (d := d) (by omega) (rc_at e2).2 e10) rfl rfl (by simp [cat_i, cat_l, cat_rf]) dX9_growFault_41 ?_
      refine g_if_eq (tgt := 63) o dX9_growFault_44 (by decide) (fun z => ?_) (fun z => ?_)
      · have h := (if_pos z).symm.trans h
        refine g_iconst (v := (0 : Int32)) o dX9_growFault_63 (by decide) ?_
        refine gsub [1, 2, 0] rfl ?_
        exact w_X9_growFault_64 o hL hr hk0 hE hd h
      · have h := (if_neg z).symm.trans h
        refine g_aload_n o dX9_growFault_47 1 rfl ?_
        refine g_getR o fl_X9_35 (rc_self hk0) (by decide) rfl dX9_growFault_48 ?_
        refine g_aload_n o dX9_growFault_51 1 rfl ?_
        refine g_iconst (v := (1 : Int32)) o dX9_growFault_52 (by decide) ?_
        obtain ⟨x11, e12, h⟩ := ob h
        refine g_invV0 o (rc_self hk0) (by decide) ml_X9_148 kb_X9_rowOf kv_X9_rowOf rfl (c_X9_rowOf (cq X) (cD X) (cY X) (cB X) (d := d) (by omega) (rc_at (rc_self hk0)).2 e12) rfl rfl (by simp [cat_i, cat_l, cat_rf]) dX9_growFault_53 ?_
        refine g_iload_n o dX9_growFault_56 2 rfl ?_
        obtain ⟨a13, e14, h⟩ := ob h
        obtain ⟨x15, e16, h⟩ := ob h
        refine g_invV0 o e14 (by decide) ml_X9_152 kb_X0_faultOf kv_X0_faultOf rfl (c_X0_faultOf (cq X) (cD X) (cY X) (cB X) (d := d) (by omega) (rc_at e14).2 e16) rfl rfl (by simp [cat_i, cat_l, cat_rf]) dX9_growFault_57 ?_
        refine g_goto (tgt := 64) o dX9_growFault_60 (by decide) ?_
        refine gsub [1, 2, 0] rfl ?_
        exact w_X9_growFault_64 o hL hr hk0 hE hd h
    · have h := (if_pos z).symm.trans h
      refine g_bipush (v := (-3 : Int32)) o dX9_growFault_34 (by decide) ?_
      cases h
      exact g_iret o hr hE dX9_growFault_36
  · have h := (if_pos z).symm.trans h
    refine g_bipush (v := (-2 : Int32)) o dX9_growFault_10 (by decide) ?_
    cases h
    exact g_iret o hr hE dX9_growFault_12
theorem c_X9_growFault (l : Launch) (D : va_G) (Y : Nat → ClassId) (B : Nat) {d : Nat} {n : Nat} {K L : Nat → Nat} {fu : Nat} {M : Mm} {a0 : Nat} {v1 : Int32} {r : Int32} (hd : 4 ≤ d) (hk0 : K a0 = 9) (h : f_X9_growFault K L fu M a0 v1 = some r) : mC l D Y B d yX9_growFault cX9_growFault 6 (some .int) [va_rf (some a0), .int v1] n K L M n K L M (some (.int r)) 0 0 := by
  obtain ⟨d, rfl⟩ : ∃ e, d = e + 1 := ⟨d - 1, by omega⟩
  refine mk_met (by decide) (by simp [lgs_r, lgs_i, lgs_l, lgs_n]) (fun X e1 e2 e3 e4 o hL hr hnm hz hc hs hE => ?_)
  subst e1 e2 e3 e4
  rw [show lv_args 0 [va_rf (some a0), .int v1] = [(0, va_rf (some a0)), (1, .int v1)] by simp [lva_r, lva_i, lva_l, lva_n]]
  exact w_X9_growFault_0 o hL hr hk0 hE hd h
def f_X9_goBackIfSpent_73 (K L : Nat → Nat) (fu : Nat) (a0 : Nat) (v1 : Int32) (s0 : Int32) (s1 : (Option Nat)) (M : Mm) : Option Mm :=
  Option.bind (rc K s1 9) (fun a1 =>
  Option.bind (f_X9_standOn K L a1 s0 M) (fun x3 =>
  Option.bind (rc K (mm_R x3 (32 * 9 + 10) a0) 0) (fun a5 =>
  Option.bind (f_X0_noteSpent K L a5 v1 x3) (fun x7 =>
  some x7))))
set_option maxHeartbeats 4000000 in
theorem w_X9_goBackIfSpent_73 {X : Cx} {d n : Nat} {K L : Nat → Nat} {fu : Nat} {a0 : Nat} {r : Mm} {v1 : Int32} {s0 : Int32} {s1 : (Option Nat)} {M : Mm} (o : cOk X cX9_goBackIfSpent RX9 (d + 1)) (hL : cL X = 3) (hr : (ch X).sig.returnType = none) (hz : (cs X).heap.size + 0 = cB X + n) (hk0 : K a0 = 9) (hE : cE X n K L r none 0 0) (hd : 4 ≤ d + 1) (h : f_X9_goBackIfSpent_73 K L fu a0 v1 s0 s1 M = some r) : gW X 0 0 n K L M 73 [(0, va_rf (some a0)), (1, .int v1)] [.int s0, va_rf s1] := by
  unfold f_X9_goBackIfSpent_73 at h
  obtain ⟨a1, e2, h⟩ := ob h
  obtain ⟨x3, e4, h⟩ := ob h
  refine g_invV0 o e2 (by decide) ml_X9_169 kb_X9_standOn kv_X9_standOn rfl (c_X9_standOn (cq X) (cD X) (cY X) (cB X) (d := d) (by omega) (rc_at e2).2 e4) rfl rfl (by simp [cat_i, cat_l, cat_rf]) dX9_goBackIfSpent_73 ?_
  refine g_aload_n o dX9_goBackIfSpent_76 0 rfl ?_
  refine g_getR o fl_X9_35 (rc_self hk0) (by decide) rfl dX9_goBackIfSpent_77 ?_
  refine g_iload_n o dX9_goBackIfSpent_80 1 rfl ?_
  obtain ⟨a5, e6, h⟩ := ob h
  obtain ⟨x7, e8, h⟩ := ob h
  refine g_invV0 o e6 (by decide) ml_X9_173 kb_X0_noteSpent kv_X0_noteSpent rfl (c_X0_noteSpent (cq X) (cD X) (cY X) (cB X) (d := d) (by omega) (rc_at e6).2 e8) rfl rfl (by simp [cat_i, cat_l, cat_rf]) dX9_goBackIfSpent_81 ?_
  cases h
  exact g_vret o hr hE dX9_goBackIfSpent_84
def f_X9_goBackIfSpent_54 (K L : Nat → Nat) (fu : Nat) (a0 : Nat) (v1 : Int32) (s0 : Int32) (M : Mm) : Option Mm :=
  if s0 = 0 then
    Option.bind (rc K (mm_R M (32 * 9 + 9) a0) 3) (fun a1 =>
    f_X9_goBackIfSpent_73 K L fu a0 v1 ((mm_I M (32 * 3 + 2) a1) - (1 : Int32)) (some a0) M)
  else
    f_X9_goBackIfSpent_73 K L fu a0 v1 (-1 : Int32) (some a0) M
set_option maxHeartbeats 4000000 in
theorem w_X9_goBackIfSpent_54 {X : Cx} {d n : Nat} {K L : Nat → Nat} {fu : Nat} {a0 : Nat} {r : Mm} {v1 : Int32} {s0 : Int32} {M : Mm} (o : cOk X cX9_goBackIfSpent RX9 (d + 1)) (hL : cL X = 3) (hr : (ch X).sig.returnType = none) (hz : (cs X).heap.size + 0 = cB X + n) (hk0 : K a0 = 9) (hE : cE X n K L r none 0 0) (hd : 4 ≤ d + 1) (h : f_X9_goBackIfSpent_54 K L fu a0 v1 s0 M = some r) : gW X 0 0 n K L M 54 [(0, va_rf (some a0)), (1, .int v1)] [.int s0] := by
  unfold f_X9_goBackIfSpent_54 at h
  refine g_istore_n (i := 2) (ls' := [(2, .int s0), (0, va_rf (some a0)), (1, .int v1)]) o dX9_goBackIfSpent_54 rfl (ltL hL (by decide)) rfl ?_
  refine g_aload_n o dX9_goBackIfSpent_55 1 rfl ?_
  refine g_iload_n o dX9_goBackIfSpent_56 0 rfl ?_
  refine g_if_eq (tgt := 64) o dX9_goBackIfSpent_57 (by decide) (fun z => ?_) (fun z => ?_)
  · have h := (if_pos z).symm.trans h
    refine g_aload_n o dX9_goBackIfSpent_64 1 rfl ?_
    refine g_getR o fl_X9_28 (rc_self hk0) (by decide) rfl dX9_goBackIfSpent_65 ?_
    obtain ⟨a1, e2, h⟩ := ob h
    refine g_getI o fl_X9_123 e2 (by decide) rfl dX9_goBackIfSpent_68 ?_
    refine g_iconst (v := (1 : Int32)) o dX9_goBackIfSpent_71 (by decide) ?_
    refine g_isub o dX9_goBackIfSpent_72 ?_
    refine gsub [1, 2] rfl ?_
    exact w_X9_goBackIfSpent_73 o hL hr hz hk0 hE hd h
  · have h := (if_neg z).symm.trans h
    refine g_iconst (v := (-1 : Int32)) o dX9_goBackIfSpent_60 (by decide) ?_
    refine g_goto (tgt := 73) o dX9_goBackIfSpent_61 (by decide) ?_
    refine gsub [1, 2] rfl ?_
    exact w_X9_goBackIfSpent_73 o hL hr hz hk0 hE hd h
def f_X9_goBackIfSpent_49 (K L : Nat → Nat) (fu : Nat) (a0 : Nat) (v1 : Int32) (M : Mm) : Option Mm :=
  f_X9_goBackIfSpent_54 K L fu a0 v1 (1 : Int32) M
set_option maxHeartbeats 4000000 in
theorem w_X9_goBackIfSpent_49 {X : Cx} {d n : Nat} {K L : Nat → Nat} {fu : Nat} {a0 : Nat} {r : Mm} {v1 : Int32} {M : Mm} (o : cOk X cX9_goBackIfSpent RX9 (d + 1)) (hL : cL X = 3) (hr : (ch X).sig.returnType = none) (hz : (cs X).heap.size + 0 = cB X + n) (hk0 : K a0 = 9) (hE : cE X n K L r none 0 0) (hd : 4 ≤ d + 1) (h : f_X9_goBackIfSpent_49 K L fu a0 v1 M = some r) : gW X 0 0 n K L M 49 [(0, va_rf (some a0)), (1, .int v1)] [] := by
  unfold f_X9_goBackIfSpent_49 at h
  refine g_iconst (v := (1 : Int32)) o dX9_goBackIfSpent_49 (by decide) ?_
  refine g_goto (tgt := 54) o dX9_goBackIfSpent_50 (by decide) ?_
  exact w_X9_goBackIfSpent_54 o hL hr hz hk0 hE hd h
def f_X9_goBackIfSpent (K L : Nat → Nat) (fu : Nat) (a0 : Nat) (v1 : Int32) (M : Mm) : Option Mm :=
  Option.bind (rc K (mm_R M (32 * 9 + 9) a0) 3) (fun a1 =>
  Option.bind (f_X3_isStoodOn K L M a1) (fun x3 =>
  if x3 = 0 then
    some M
  else
    Option.bind (f_X9_rowOf K L M a0 (1 : Int32)) (fun x5 =>
    Option.bind (rc K (mm_R M (32 * 9 + 10) a0) 0) (fun a7 =>
    Option.bind (f_X0_faultOf K L fu M a7 x5 v1) (fun x9 =>
    if x9 = (-10 : Int32) then
      if (mm_I M (32 * 0 + 3) a7) = 0 then
        Option.bind (f_X3_hasRow K L M a1) (fun x11 =>
        if x11 = 0 then
          f_X9_goBackIfSpent_49 K L fu a0 v1 M
        else
          f_X9_goBackIfSpent_54 K L fu a0 v1 (0 : Int32) M)
      else
        f_X9_goBackIfSpent_49 K L fu a0 v1 M
    else
      some M)))))
set_option maxHeartbeats 4000000 in
theorem w_X9_goBackIfSpent_0 {X : Cx} {d n : Nat} {K L : Nat → Nat} {fu : Nat} {a0 : Nat} {r : Mm} {v1 : Int32} {M : Mm} (o : cOk X cX9_goBackIfSpent RX9 (d + 1)) (hL : cL X = 3) (hr : (ch X).sig.returnType = none) (hz : (cs X).heap.size + 0 = cB X + n) (hk0 : K a0 = 9) (hE : cE X n K L r none 0 0) (hd : 4 ≤ d + 1) (h : f_X9_goBackIfSpent K L fu a0 v1 M = some r) : gW X 0 0 n K L M 0 [(0, va_rf (some a0)), (1, .int v1)] [] := by
  unfold f_X9_goBackIfSpent at h
  refine g_aload_n o dX9_goBackIfSpent_0 0 rfl ?_
  refine g_getR o fl_X9_28 (rc_self hk0) (by decide) rfl dX9_goBackIfSpent_1 ?_
  obtain ⟨a1, e2, h⟩ := ob h
  obtain ⟨x3, e4, h⟩ := ob h
  refine g_invV0 o e2 (by decide) ml_X9_145 kb_X3_isStoodOn kv_X3_isStoodOn rfl (c_X3_isStoodOn (cq X) (cD X) (cY X) (cB X) (d := d) (by omega) (rc_at e2).2 e4) rfl rfl (by simp [cat_i, cat_l, cat_rf]) dX9_goBackIfSpent_4 ?_
  refine g_if_eq (tgt := 28) o dX9_goBackIfSpent_7 (by decide) (fun z => ?_) (fun z => ?_)
  · have h := (if_pos z).symm.trans h
    cases h
    exact g_vret o hr hE dX9_goBackIfSpent_28
  · have h := (if_neg z).symm.trans h
    refine g_aload_n o dX9_goBackIfSpent_10 0 rfl ?_
    refine g_getR o fl_X9_35 (rc_self hk0) (by decide) rfl dX9_goBackIfSpent_11 ?_
    refine g_aload_n o dX9_goBackIfSpent_14 0 rfl ?_
    refine g_iconst (v := (1 : Int32)) o dX9_goBackIfSpent_15 (by decide) ?_
    obtain ⟨x5, e6, h⟩ := ob h
    refine g_invV0 o (rc_self hk0) (by decide) ml_X9_148 kb_X9_rowOf kv_X9_rowOf rfl (c_X9_rowOf (cq X) (cD X) (cY X) (cB X) (d := d) (by omega) (rc_at (rc_self hk0)).2 e6) rfl rfl (by simp [cat_i, cat_l, cat_rf]) dX9_goBackIfSpent_16 ?_
    refine g_iload_n o dX9_goBackIfSpent_19 1 rfl ?_
    obtain ⟨a7, e8, h⟩ := ob h
    obtain ⟨x9, e10, h⟩ := ob h
    refine g_invV0 o e8 (by decide) ml_X9_152 kb_X0_faultOf kv_X0_faultOf rfl (c_X0_faultOf (cq X) (cD X) (cY X) (cB X) (d := d) (by omega) (rc_at e8).2 e10) rfl rfl (by simp [cat_i, cat_l, cat_rf]) dX9_goBackIfSpent_20 ?_
    refine g_bipush (v := (-10 : Int32)) o dX9_goBackIfSpent_23 (by decide) ?_
    refine g_icmp_eq (tgt := 29) o dX9_goBackIfSpent_25 (by decide) (fun z => ?_) (fun z => ?_)
    · have h := (if_pos z).symm.trans h
      refine g_aload_n o dX9_goBackIfSpent_29 0 rfl ?_
      refine g_getR o fl_X9_35 (rc_self hk0) (by decide) rfl dX9_goBackIfSpent_30 ?_
      refine g_getI o fl_X9_166 e8 (by decide) rfl dX9_goBackIfSpent_33 ?_
      refine g_if_ne (tgt := 49) o dX9_goBackIfSpent_36 (by decide) (fun z => ?_) (fun z => ?_)
      · have h := (if_neg z).symm.trans h
        exact w_X9_goBackIfSpent_49 o hL hr hz hk0 hE hd h
      · have h := (if_pos z).symm.trans h
        refine g_aload_n o dX9_goBackIfSpent_39 0 rfl ?_
        refine g_getR o fl_X9_28 (rc_self hk0) (by decide) rfl dX9_goBackIfSpent_40 ?_
        obtain ⟨x11, e12, h⟩ := ob h
        refine g_invV0 o e2 (by decide) ml_X9_137 kb_X3_hasRow kv_X3_hasRow rfl (c_X3_hasRow (cq X) (cD X) (cY X) (cB X) (d := d) (by omega) (rc_at e2).2 e12) rfl rfl (by simp [cat_i, cat_l, cat_rf]) dX9_goBackIfSpent_43 ?_
        refine g_if_ne (tgt := 53) o dX9_goBackIfSpent_46 (by decide) (fun z => ?_) (fun z => ?_)
        · have h := (if_neg z).symm.trans h
          refine g_iconst (v := (0 : Int32)) o dX9_goBackIfSpent_53 (by decide) ?_
          exact w_X9_goBackIfSpent_54 o hL hr hz hk0 hE hd h
        · have h := (if_pos z).symm.trans h
          exact w_X9_goBackIfSpent_49 o hL hr hz hk0 hE hd h
    · have h := (if_neg z).symm.trans h
      cases h
      exact g_vret o hr hE dX9_goBackIfSpent_28
theorem c_X9_goBackIfSpent (l : Launch) (D : va_G) (Y : Nat → ClassId) (B : Nat) {d : Nat} {n : Nat} {K L : Nat → Nat} {fu : Nat} {M : Mm} {a0 : Nat} {v1 : Int32} {r : Mm} (hd : 4 ≤ d) (hk0 : K a0 = 9) (h : f_X9_goBackIfSpent K L fu a0 v1 M = some r) : mC l D Y B d yX9_goBackIfSpent cX9_goBackIfSpent 3 (none) [va_rf (some a0), .int v1] n K L M n K L r none 0 0 := by
  obtain ⟨d, rfl⟩ : ∃ e, d = e + 1 := ⟨d - 1, by omega⟩
  refine mk_met (by decide) (by simp [lgs_r, lgs_i, lgs_l, lgs_n]) (fun X e1 e2 e3 e4 o hL hr hnm hz hc hs hE => ?_)
  subst e1 e2 e3 e4
  rw [show lv_args 0 [va_rf (some a0), .int v1] = [(0, va_rf (some a0)), (1, .int v1)] by simp [lva_r, lva_i, lva_l, lva_n]]
  exact w_X9_goBackIfSpent_0 o hL hr hz hk0 hE hd h
def f_X10_choose_5b (fu : Nat) (k5 : Int32 → Int32 → Int64 → Int32 → Option Int64) (v0 : Int32) (v1 : Int32) (v2 : Int64) (v4 : Int32) : Option Int64 :=
  if v1 < v4 then
    some v2
  else
    Option.bind (nzl (v4.toInt64)) (fun u2 =>
    bn ((v2 * (((v0 - v4) + (1 : Int32)).toInt64)) / (v4.toInt64)) (fun x3 =>
    k5 v0 v1 x3 (v4 + 1)))
def f_X10_choose_5 (fu : Nat) : Nat → Int32 → Int32 → Int64 → Int32 → Option Int64
  | 0, _, _, _, _ => none
  | g + 1, v0, v1, v2, v4 => f_X10_choose_5b fu (f_X10_choose_5 fu g) v0 v1 v2 v4
set_option maxHeartbeats 4000000 in
theorem w_X10_choose_5b {X : Cx} {d n : Nat} {K L : Nat → Nat} {fu : Nat} {M : Mm} {r : Int64} {k5 : Int32 → Int32 → Int64 → Int32 → Option Int64} {v0 : Int32} {v1 : Int32} {v2 : Int64} {v4 : Int32} (o : cOk X cX10_choose RX10 d) (hL : cL X = 5) (hr : (ch X).sig.returnType = some .long) (hE : cE X n K L M (some (.long r)) 0 0) (hk5 : ∀ (v0 : Int32) (v1 : Int32) (v2 : Int64) (v4 : Int32), k5 v0 v1 v2 v4 = some r → gW X 0 0 n K L M 5 [(0, .int v0), (1, .int v1), (2, .long v2), (4, .int v4)] []) (h : f_X10_choose_5b fu k5 v0 v1 v2 v4 = some r) : gW X 0 0 n K L M 5 [(0, .int v0), (1, .int v1), (2, .long v2), (4, .int v4)] [] := by
  unfold f_X10_choose_5b at h
  refine g_iload o dX10_choose_5 3 rfl ?_
  refine g_iload_n o dX10_choose_7 1 rfl ?_
  refine g_icmp_gt (tgt := 31) o dX10_choose_8 (by decide) (fun z => ?_) (fun z => ?_)
  · have h := (if_pos z).symm.trans h
    refine g_lload_n o dX10_choose_31 2 rfl ?_
    cases h
    exact g_lret o hr hE dX10_choose_32
  · have h := (if_neg z).symm.trans h
    refine g_lload_n o dX10_choose_11 2 rfl ?_
    refine g_iload_n o dX10_choose_12 0 rfl ?_
    refine g_iload o dX10_choose_13 3 rfl ?_
    refine g_isub o dX10_choose_15 ?_
    refine g_iconst (v := (1 : Int32)) o dX10_choose_16 (by decide) ?_
    refine g_iadd o dX10_choose_17 ?_
    refine g_i2l o dX10_choose_18 ?_
    refine g_lmul o dX10_choose_19 ?_
    refine g_iload o dX10_choose_20 3 rfl ?_
    refine g_i2l o dX10_choose_22 ?_
    obtain ⟨u2, e1, h⟩ := ob h
    refine g_ldiv o dX10_choose_23 (nzl_at e1) ?_
    obtain ⟨x3, e4, h⟩ := bn_at h
    refine g_topJ e4 ?_
    refine g_lstore_n (i := 2) (ls' := [(2, .long x3), (0, .int v0), (1, .int v1), (4, .int v4)]) o dX10_choose_24 rfl (ltL hL (by decide)) rfl ?_
    refine g_iinc (i := 4) (v := v4 + 1) (ls' := [(4, .int (v4 + 1)), (2, .long x3), (0, .int v0), (1, .int v1)]) o dX10_choose_25 3 rfl (by first | rfl | (congr 1)) (ltL hL (by decide)) rfl ?_
    refine g_goto (tgt := 5) o dX10_choose_28 (by decide) ?_
    refine gsub [2, 3, 1, 0] rfl ?_
    exact hk5 _ _ _ _ h
theorem w_X10_choose_5_n {X : Cx} {d n : Nat} {K L : Nat → Nat} {fu : Nat} {M : Mm} {r : Int64} (o : cOk X cX10_choose RX10 d) (hL : cL X = 5) (hr : (ch X).sig.returnType = some .long) (hE : cE X n K L M (some (.long r)) 0 0) : ∀ (g : Nat) (v0 : Int32) (v1 : Int32) (v2 : Int64) (v4 : Int32), f_X10_choose_5 fu g v0 v1 v2 v4 = some r → gW X 0 0 n K L M 5 [(0, .int v0), (1, .int v1), (2, .long v2), (4, .int v4)] []
  | 0, _, _, _, _, h => by cases h
  | g + 1, v0, v1, v2, v4, h => w_X10_choose_5b o hL hr hE (w_X10_choose_5_n o hL hr hE g) h
theorem w_X10_choose_5 {X : Cx} {d n : Nat} {K L : Nat → Nat} {fu : Nat} {M : Mm} {r : Int64} {v0 : Int32} {v1 : Int32} {v2 : Int64} {v4 : Int32} (o : cOk X cX10_choose RX10 d) (hL : cL X = 5) (hr : (ch X).sig.returnType = some .long) (hE : cE X n K L M (some (.long r)) 0 0) (h : f_X10_choose_5 fu fu v0 v1 v2 v4 = some r) : gW X 0 0 n K L M 5 [(0, .int v0), (1, .int v1), (2, .long v2), (4, .int v4)] [] := w_X10_choose_5_n o hL hr hE fu v0 v1 v2 v4 h
def f_X10_choose (fu : Nat) (v0 : Int32) (v1 : Int32) : Option Int64 :=
  f_X10_choose_5 fu fu v0 v1 (1 : Int64) (1 : Int32)
set_option maxHeartbeats 4000000 in
theorem w_X10_choose_0 {X : Cx} {d n : Nat} {K L : Nat → Nat} {fu : Nat} {M : Mm} {r : Int64} {v0 : Int32} {v1 : Int32} (o : cOk X cX10_choose RX10 d) (hL : cL X = 5) (hr : (ch X).sig.returnType = some .long) (hE : cE X n K L M (some (.long r)) 0 0) (h : f_X10_choose fu v0 v1 = some r) : gW X 0 0 n K L M 0 [(0, .int v0), (1, .int v1)] [] := by
  unfold f_X10_choose at h
  refine g_lconst (v := (1 : Int64)) o dX10_choose_0 (by decide) ?_
  refine g_lstore_n (i := 2) (ls' := [(2, .long (1 : Int64)), (0, .int v0), (1, .int v1)]) o dX10_choose_1 rfl (ltL hL (by decide)) rfl ?_
  refine g_iconst (v := (1 : Int32)) o dX10_choose_2 (by decide) ?_
  refine g_istore (i := 4) (ls' := [(4, .int (1 : Int32)), (2, .long (1 : Int64)), (0, .int v0), (1, .int v1)]) o dX10_choose_3 (ltL hL (by decide)) rfl ?_
  refine gsub [2, 3, 1, 0] rfl ?_
  exact w_X10_choose_5 o hL hr hE h
theorem c_X10_choose (l : Launch) (D : va_G) (Y : Nat → ClassId) (B : Nat) {d : Nat} {n : Nat} {K L : Nat → Nat} {fu : Nat} {M : Mm} {v0 : Int32} {v1 : Int32} {r : Int64} (hd : 0 ≤ d) (h : f_X10_choose fu v0 v1 = some r) : mC l D Y B d yX10_choose cX10_choose 5 (some .long) [.int v0, .int v1] n K L M n K L M (some (.long r)) 0 0 := by
  refine mk_met (by decide) (by simp [lgs_r, lgs_i, lgs_l, lgs_n]) (fun X e1 e2 e3 e4 o hL hr hnm hz hc hs hE => ?_)
  subst e1 e2 e3 e4
  rw [show lv_args 0 [.int v0, .int v1] = [(0, .int v0), (1, .int v1)] by simp [lva_r, lva_i, lva_l, lva_n]]
  exact w_X10_choose_0 o hL hr hE h
def f_X10_dealsAsFarApart_47b (K L : Nat → Nat) (fu : Nat) (k47 : Int32 → Int32 → Int64 → Int32 → Option Int64) (M : Mm) (a0 : Nat) (v1 : Int32) (v2 : Int32) (v3 : Int64) (v5 : Int32) : Option Int64 :=
  if (if v1 < (mm_I M (32 * 10 + 7) a0) then v1 else (mm_I M (32 * 10 + 7) a0)) < v5 then
    some v3
  else
    if (if 0 ≤ ((v5 * (mm_I M (32 * 10 + 8) a0)) - ((v1 - v5) * (mm_I M (32 * 10 + 7) a0))) then ((v5 * (mm_I M (32 * 10 + 8) a0)) - ((v1 - v5) * (mm_I M (32 * 10 + 7) a0))) else 0 - ((v5 * (mm_I M (32 * 10 + 8) a0)) - ((v1 - v5) * (mm_I M (32 * 10 + 7) a0)))) < v2 then
      k47 v1 v2 v3 (v5 + 1)
    else
      Option.bind (f_X10_choose fu (mm_I M (32 * 10 + 7) a0) v5) (fun x1 =>
      Option.bind (f_X10_choose fu (mm_I M (32 * 10 + 8) a0) (v1 - v5)) (fun x3 =>
      bn (v3 + (x1 * x3)) (fun x5 =>
      k47 v1 v2 x5 (v5 + 1))))
def f_X10_dealsAsFarApart_47 (K L : Nat → Nat) (fu : Nat) (M : Mm) (a0 : Nat) : Nat → Int32 → Int32 → Int64 → Int32 → Option Int64
  | 0, _, _, _, _ => none
  | g + 1, v1, v2, v3, v5 => f_X10_dealsAsFarApart_47b K L fu (f_X10_dealsAsFarApart_47 K L fu M a0 g) M a0 v1 v2 v3 v5
set_option maxHeartbeats 4000000 in
theorem w_X10_dealsAsFarApart_47b {X : Cx} {d n : Nat} {K L : Nat → Nat} {fu : Nat} {M : Mm} {a0 : Nat} {r : Int64} {k47 : Int32 → Int32 → Int64 → Int32 → Option Int64} {v1 : Int32} {v2 : Int32} {v3 : Int64} {v5 : Int32} (o : cOk X cX10_dealsAsFarApart RX10 (d + 1)) (hL : cL X = 6) (hr : (ch X).sig.returnType = some .long) (hk0 : K a0 = 10) (hE : cE X n K L M (some (.long r)) 0 0) (hk47 : ∀ (v1 : Int32) (v2 : Int32) (v3 : Int64) (v5 : Int32), k47 v1 v2 v3 v5 = some r → gW X 0 0 n K L M 47 [(0, va_rf (some a0)), (1, .int v1), (2, .int v2), (3, .long v3), (5, .int v5)] []) (hd : 1 ≤ d + 1) (h : f_X10_dealsAsFarApart_47b K L fu k47 M a0 v1 v2 v3 v5 = some r) : gW X 0 0 n K L M 47 [(0, va_rf (some a0)), (1, .int v1), (2, .int v2), (3, .long v3), (5, .int v5)] [] := by
  unfold f_X10_dealsAsFarApart_47b at h
  refine g_iload o dX10_dealsAsFarApart_47 4 rfl ?_
  refine g_aload_n o dX10_dealsAsFarApart_49 0 rfl ?_
  refine g_getI o fl_X10_40 (rc_self hk0) (by decide) rfl dX10_dealsAsFarApart_50 ?_
  refine g_iload_n o dX10_dealsAsFarApart_53 1 rfl ?_
  refine g_mmin o ml_X10_82 (by omega) (by simp [cat_i, cat_l, cat_rf]) dX10_dealsAsFarApart_54 ?_
  refine g_icmp_gt (tgt := 114) o dX10_dealsAsFarApart_57 (by decide) (fun z => ?_) (fun z => ?_)
  · have h := (if_pos z).symm.trans h
    refine g_lload_n o dX10_dealsAsFarApart_114 3 rfl ?_
    cases h
    exact g_lret o hr hE dX10_dealsAsFarApart_115
  · have h := (if_neg z).symm.trans h
    refine g_iload o dX10_dealsAsFarApart_60 4 rfl ?_
    refine g_aload_n o dX10_dealsAsFarApart_62 0 rfl ?_
    refine g_getI o fl_X10_43 (rc_self hk0) (by decide) rfl dX10_dealsAsFarApart_63 ?_
    refine g_imul o dX10_dealsAsFarApart_66 ?_
    refine g_iload_n o dX10_dealsAsFarApart_67 1 rfl ?_
    refine g_iload o dX10_dealsAsFarApart_68 4 rfl ?_
    refine g_isub o dX10_dealsAsFarApart_70 ?_
    refine g_aload_n o dX10_dealsAsFarApart_71 0 rfl ?_
    refine g_getI o fl_X10_40 (rc_self hk0) (by decide) rfl dX10_dealsAsFarApart_72 ?_
    refine g_imul o dX10_dealsAsFarApart_75 ?_
    refine g_isub o dX10_dealsAsFarApart_76 ?_
    refine g_mabs o ml_X10_72 (by omega) (by simp [cat_i, cat_l, cat_rf]) dX10_dealsAsFarApart_77 ?_
    refine g_iload_n o dX10_dealsAsFarApart_80 2 rfl ?_
    refine g_icmp_lt (tgt := 108) o dX10_dealsAsFarApart_81 (by decide) (fun z => ?_) (fun z => ?_)
    · have h := (if_pos z).symm.trans h
      refine g_iinc (i := 5) (v := v5 + 1) (ls' := [(5, .int (v5 + 1)), (0, va_rf (some a0)), (1, .int v1), (2, .int v2), (3, .long v3)]) o dX10_dealsAsFarApart_108 4 rfl (by first | rfl | (congr 1)) (ltL hL (by decide)) rfl ?_
      refine g_goto (tgt := 47) o dX10_dealsAsFarApart_111 (by decide) ?_
      refine gsub [1, 2, 3, 4, 0] rfl ?_
      exact hk47 _ _ _ _ h
    · have h := (if_neg z).symm.trans h
      refine g_lload_n o dX10_dealsAsFarApart_84 3 rfl ?_
      refine g_aload_n o dX10_dealsAsFarApart_85 0 rfl ?_
      refine g_getI o fl_X10_40 (rc_self hk0) (by decide) rfl dX10_dealsAsFarApart_86 ?_
      refine g_iload o dX10_dealsAsFarApart_89 4 rfl ?_
      obtain ⟨x1, e2, h⟩ := ob h
      refine g_invS0 o ml_X10_52 kb_X10_choose ks_X10_choose (c_X10_choose (cq X) (cD X) (cY X) (cB X) (d := d) (by omega) e2) rfl rfl (by simp [cat_i, cat_l, cat_rf]) dX10_dealsAsFarApart_91 ?_
      refine g_aload_n o dX10_dealsAsFarApart_94 0 rfl ?_
      refine g_getI o fl_X10_43 (rc_self hk0) (by decide) rfl dX10_dealsAsFarApart_95 ?_
      refine g_iload_n o dX10_dealsAsFarApart_98 1 rfl ?_
      refine g_iload o dX10_dealsAsFarApart_99 4 rfl ?_
      refine g_isub o dX10_dealsAsFarApart_101 ?_
      obtain ⟨x3, e4, h⟩ := ob h
      refine g_invS0 o ml_X10_52 kb_X10_choose ks_X10_choose (c_X10_choose (cq X) (cD X) (cY X) (cB X) (d := d) (by omega) e4) rfl rfl (by simp [cat_i, cat_l, cat_rf]) dX10_dealsAsFarApart_102 ?_
      refine g_lmul o dX10_dealsAsFarApart_105 ?_
      refine g_ladd o dX10_dealsAsFarApart_106 ?_
      obtain ⟨x5, e6, h⟩ := bn_at h
      refine g_topJ e6 ?_
      refine g_lstore_n (i := 3) (ls' := [(3, .long x5), (0, va_rf (some a0)), (1, .int v1), (2, .int v2), (5, .int v5)]) o dX10_dealsAsFarApart_107 rfl (ltL hL (by decide)) rfl ?_
      refine g_iinc (i := 5) (v := v5 + 1) (ls' := [(5, .int (v5 + 1)), (3, .long x5), (0, va_rf (some a0)), (1, .int v1), (2, .int v2)]) o dX10_dealsAsFarApart_108 4 rfl (by first | rfl | (congr 1)) (ltL hL (by decide)) rfl ?_
      refine g_goto (tgt := 47) o dX10_dealsAsFarApart_111 (by decide) ?_
      refine gsub [2, 3, 4, 1, 0] rfl ?_
      exact hk47 _ _ _ _ h
theorem w_X10_dealsAsFarApart_47_n {X : Cx} {d n : Nat} {K L : Nat → Nat} {fu : Nat} {M : Mm} {a0 : Nat} {r : Int64} (o : cOk X cX10_dealsAsFarApart RX10 (d + 1)) (hL : cL X = 6) (hr : (ch X).sig.returnType = some .long) (hk0 : K a0 = 10) (hE : cE X n K L M (some (.long r)) 0 0) (hd : 1 ≤ d + 1) : ∀ (g : Nat) (v1 : Int32) (v2 : Int32) (v3 : Int64) (v5 : Int32), f_X10_dealsAsFarApart_47 K L fu M a0 g v1 v2 v3 v5 = some r → gW X 0 0 n K L M 47 [(0, va_rf (some a0)), (1, .int v1), (2, .int v2), (3, .long v3), (5, .int v5)] []
  | 0, _, _, _, _, h => by cases h
  | g + 1, v1, v2, v3, v5, h => w_X10_dealsAsFarApart_47b o hL hr hk0 hE (w_X10_dealsAsFarApart_47_n o hL hr hk0 hE hd g) hd h
theorem w_X10_dealsAsFarApart_47 {X : Cx} {d n : Nat} {K L : Nat → Nat} {fu : Nat} {M : Mm} {a0 : Nat} {r : Int64} {v1 : Int32} {v2 : Int32} {v3 : Int64} {v5 : Int32} (o : cOk X cX10_dealsAsFarApart RX10 (d + 1)) (hL : cL X = 6) (hr : (ch X).sig.returnType = some .long) (hk0 : K a0 = 10) (hE : cE X n K L M (some (.long r)) 0 0) (hd : 1 ≤ d + 1) (h : f_X10_dealsAsFarApart_47 K L fu M a0 fu v1 v2 v3 v5 = some r) : gW X 0 0 n K L M 47 [(0, va_rf (some a0)), (1, .int v1), (2, .int v2), (3, .long v3), (5, .int v5)] [] := w_X10_dealsAsFarApart_47_n o hL hr hk0 hE hd fu v1 v2 v3 v5 h
def f_X10_dealsAsFarApart (K L : Nat → Nat) (fu : Nat) (M : Mm) (a0 : Nat) : Option Int64 :=
  bn ((mm_I M (32 * 10 + 9) a0) + (mm_I M (32 * 10 + 10) a0)) (fun x1 =>
  bn (if 0 ≤ (((mm_I M (32 * 10 + 9) a0) * (mm_I M (32 * 10 + 8) a0)) - ((mm_I M (32 * 10 + 10) a0) * (mm_I M (32 * 10 + 7) a0))) then (((mm_I M (32 * 10 + 9) a0) * (mm_I M (32 * 10 + 8) a0)) - ((mm_I M (32 * 10 + 10) a0) * (mm_I M (32 * 10 + 7) a0))) else 0 - (((mm_I M (32 * 10 + 9) a0) * (mm_I M (32 * 10 + 8) a0)) - ((mm_I M (32 * 10 + 10) a0) * (mm_I M (32 * 10 + 7) a0)))) (fun x3 =>
  bn (if (0 : Int32) < (x1 - (mm_I M (32 * 10 + 8) a0)) then (x1 - (mm_I M (32 * 10 + 8) a0)) else (0 : Int32)) (fun x5 =>
  f_X10_dealsAsFarApart_47 K L fu M a0 fu x1 x3 (0 : Int64) x5)))
set_option maxHeartbeats 4000000 in
theorem w_X10_dealsAsFarApart_0 {X : Cx} {d n : Nat} {K L : Nat → Nat} {fu : Nat} {M : Mm} {a0 : Nat} {r : Int64} (o : cOk X cX10_dealsAsFarApart RX10 (d + 1)) (hL : cL X = 6) (hr : (ch X).sig.returnType = some .long) (hk0 : K a0 = 10) (hE : cE X n K L M (some (.long r)) 0 0) (hd : 1 ≤ d + 1) (h : f_X10_dealsAsFarApart K L fu M a0  = some r) : gW X 0 0 n K L M 0 [(0, va_rf (some a0))] [] := by
  unfold f_X10_dealsAsFarApart at h
  refine g_aload_n o dX10_dealsAsFarApart_0 0 rfl ?_
  refine g_getI o fl_X10_46 (rc_self hk0) (by decide) rfl dX10_dealsAsFarApart_1 ?_
  refine g_aload_n o dX10_dealsAsFarApart_4 0 rfl ?_
  refine g_getI o fl_X10_49 (rc_self hk0) (by decide) rfl dX10_dealsAsFarApart_5 ?_
  refine g_iadd o dX10_dealsAsFarApart_8 ?_
  obtain ⟨x1, e2, h⟩ := bn_at h
  refine g_topI e2 ?_
  refine g_istore_n (i := 1) (ls' := [(1, .int x1), (0, va_rf (some a0))]) o dX10_dealsAsFarApart_9 rfl (ltL hL (by decide)) rfl ?_
  refine g_aload_n o dX10_dealsAsFarApart_10 1 rfl ?_
  refine g_getI o fl_X10_46 (rc_self hk0) (by decide) rfl dX10_dealsAsFarApart_11 ?_
  refine g_aload_n o dX10_dealsAsFarApart_14 1 rfl ?_
  refine g_getI o fl_X10_43 (rc_self hk0) (by decide) rfl dX10_dealsAsFarApart_15 ?_
  refine g_imul o dX10_dealsAsFarApart_18 ?_
  refine g_aload_n o dX10_dealsAsFarApart_19 1 rfl ?_
  refine g_getI o fl_X10_49 (rc_self hk0) (by decide) rfl dX10_dealsAsFarApart_20 ?_
  refine g_aload_n o dX10_dealsAsFarApart_23 1 rfl ?_
  refine g_getI o fl_X10_40 (rc_self hk0) (by decide) rfl dX10_dealsAsFarApart_24 ?_
  refine g_imul o dX10_dealsAsFarApart_27 ?_
  refine g_isub o dX10_dealsAsFarApart_28 ?_
  refine g_mabs o ml_X10_72 (by omega) (by simp [cat_i, cat_l, cat_rf]) dX10_dealsAsFarApart_29 ?_
  obtain ⟨x3, e4, h⟩ := bn_at h
  refine g_topI e4 ?_
  refine g_istore_n (i := 2) (ls' := [(2, .int x3), (1, .int x1), (0, va_rf (some a0))]) o dX10_dealsAsFarApart_32 rfl (ltL hL (by decide)) rfl ?_
  refine g_lconst (v := (0 : Int64)) o dX10_dealsAsFarApart_33 (by decide) ?_
  refine g_lstore_n (i := 3) (ls' := [(3, .long (0 : Int64)), (2, .int x3), (1, .int x1), (0, va_rf (some a0))]) o dX10_dealsAsFarApart_34 rfl (ltL hL (by decide)) rfl ?_
  refine g_iconst (v := (0 : Int32)) o dX10_dealsAsFarApart_35 (by decide) ?_
  refine g_iload_n o dX10_dealsAsFarApart_36 2 rfl ?_
  refine g_aload_n o dX10_dealsAsFarApart_37 3 rfl ?_
  refine g_getI o fl_X10_43 (rc_self hk0) (by decide) rfl dX10_dealsAsFarApart_38 ?_
  refine g_isub o dX10_dealsAsFarApart_41 ?_
  refine g_mmax o ml_X10_78 (by omega) (by simp [cat_i, cat_l, cat_rf]) dX10_dealsAsFarApart_42 ?_
  obtain ⟨x5, e6, h⟩ := bn_at h
  refine g_topI e6 ?_
  refine g_istore (i := 5) (ls' := [(5, .int x5), (3, .long (0 : Int64)), (2, .int x3), (1, .int x1), (0, va_rf (some a0))]) o dX10_dealsAsFarApart_45 (ltL hL (by decide)) rfl ?_
  refine gsub [4, 3, 2, 1, 0] rfl ?_
  exact w_X10_dealsAsFarApart_47 o hL hr hk0 hE hd h
theorem c_X10_dealsAsFarApart (l : Launch) (D : va_G) (Y : Nat → ClassId) (B : Nat) {d : Nat} {n : Nat} {K L : Nat → Nat} {fu : Nat} {M : Mm} {a0 : Nat} {r : Int64} (hd : 1 ≤ d) (hk0 : K a0 = 10) (h : f_X10_dealsAsFarApart K L fu M a0  = some r) : mC l D Y B d yX10_dealsAsFarApart cX10_dealsAsFarApart 6 (some .long) [va_rf (some a0)] n K L M n K L M (some (.long r)) 0 0 := by
  obtain ⟨d, rfl⟩ : ∃ e, d = e + 1 := ⟨d - 1, by omega⟩
  refine mk_met (by decide) (by simp [lgs_r, lgs_i, lgs_l, lgs_n]) (fun X e1 e2 e3 e4 o hL hr hnm hz hc hs hE => ?_)
  subst e1 e2 e3 e4
  rw [show lv_args 0 [va_rf (some a0)] = [(0, va_rf (some a0))] by simp [lva_r, lva_i, lva_l, lva_n]]
  exact w_X10_dealsAsFarApart_0 o hL hr hk0 hE hd h
def f_X10_inMillionths_21b (fu : Nat) (k21 : Int64 → Int64 → Int64 → Int32 → Option Int32) (v2 : Int64) (v4 : Int64) (v6 : Int64) (v8 : Int32) : Option Int32 :=
  if (6 : Int32) ≤ v8 then
    some (v4.toInt32)
  else
    bn (v6 * (10 : Int64)) (fun x1 =>
    Option.bind (nzl v2) (fun u4 =>
    bn ((v4 * (10 : Int64)) + (x1 / v2)) (fun x5 =>
    Option.bind (nzl v2) (fun u8 =>
    bn (x1 - x1 / v2 * v2) (fun x9 =>
    k21 v2 x5 x9 (v8 + 1))))))
def f_X10_inMillionths_21 (fu : Nat) : Nat → Int64 → Int64 → Int64 → Int32 → Option Int32
  | 0, _, _, _, _ => none
  | g + 1, v2, v4, v6, v8 => f_X10_inMillionths_21b fu (f_X10_inMillionths_21 fu g) v2 v4 v6 v8
set_option maxHeartbeats 4000000 in
theorem w_X10_inMillionths_21b {X : Cx} {d n : Nat} {K L : Nat → Nat} {fu : Nat} {M : Mm} {r : Int32} {k21 : Int64 → Int64 → Int64 → Int32 → Option Int32} {v2 : Int64} {v4 : Int64} {v6 : Int64} {v8 : Int32} (o : cOk X cX10_inMillionths RX10 d) (hL : cL X = 9) (hr : (ch X).sig.returnType = some .int) (hE : cE X n K L M (some (.int r)) 0 0) (hk21 : ∀ (v2 : Int64) (v4 : Int64) (v6 : Int64) (v8 : Int32), k21 v2 v4 v6 v8 = some r → gW X 0 0 n K L M 21 [(2, .long v2), (4, .long v4), (6, .long v6), (8, .int v8)] []) (h : f_X10_inMillionths_21b fu k21 v2 v4 v6 v8 = some r) : gW X 0 0 n K L M 21 [(2, .long v2), (4, .long v4), (6, .long v6), (8, .int v8)] [] := by
  unfold f_X10_inMillionths_21b at h
  refine g_iload o dX10_inMillionths_21 3 rfl ?_
  refine g_bipush (v := (6 : Int32)) o dX10_inMillionths_23 (by decide) ?_
  refine g_icmp_ge (tgt := 61) o dX10_inMillionths_25 (by decide) (fun z => ?_) (fun z => ?_)
  · have h := (if_pos z).symm.trans h
    refine g_lload o dX10_inMillionths_61 1 rfl ?_
    refine g_l2i o dX10_inMillionths_63 ?_
    cases h
    exact g_iret o hr hE dX10_inMillionths_64
  · have h := (if_neg z).symm.trans h
    refine g_lload o dX10_inMillionths_28 2 rfl ?_
    refine g_ldc2 (v := (10 : Int64)) o kc_X10_87 dX10_inMillionths_30 ?_
    refine g_lmul o dX10_inMillionths_33 ?_
    obtain ⟨x1, e2, h⟩ := bn_at h
    refine g_topJ e2 ?_
    refine g_lstore (i := 6) (ls' := [(6, .long x1), (2, .long v2), (4, .long v4), (8, .int v8)]) o dX10_inMillionths_34 (ltL hL (by decide)) rfl ?_
    refine g_lload o dX10_inMillionths_36 2 rfl ?_
    refine g_ldc2 (v := (10 : Int64)) o kc_X10_87 dX10_inMillionths_38 ?_
    refine g_lmul o dX10_inMillionths_41 ?_
    refine g_lload o dX10_inMillionths_42 0 rfl ?_
    refine g_lload_n o dX10_inMillionths_44 1 rfl ?_
    obtain ⟨u4, e3, h⟩ := ob h
    refine g_ldiv o dX10_inMillionths_45 (nzl_at e3) ?_
    refine g_ladd o dX10_inMillionths_46 ?_
    obtain ⟨x5, e6, h⟩ := bn_at h
    refine g_topJ e6 ?_
    refine g_lstore (i := 4) (ls' := [(4, .long x5), (6, .long x1), (2, .long v2), (8, .int v8)]) o dX10_inMillionths_47 (ltL hL (by decide)) rfl ?_
    refine g_lload o dX10_inMillionths_49 1 rfl ?_
    refine g_lload_n o dX10_inMillionths_51 2 rfl ?_
    obtain ⟨u8, e7, h⟩ := ob h
    refine g_lrem o dX10_inMillionths_52 (nzl_at e7) ?_
    obtain ⟨x9, e10, h⟩ := bn_at h
    refine g_topJ e10 ?_
    refine g_lstore (i := 6) (ls' := [(6, .long x9), (4, .long x5), (2, .long v2), (8, .int v8)]) o dX10_inMillionths_53 (ltL hL (by decide)) rfl ?_
    refine g_iinc (i := 8) (v := v8 + 1) (ls' := [(8, .int (v8 + 1)), (6, .long x9), (4, .long x5), (2, .long v2)]) o dX10_inMillionths_55 3 rfl (by first | rfl | (congr 1)) (ltL hL (by decide)) rfl ?_
    refine g_goto (tgt := 21) o dX10_inMillionths_58 (by decide) ?_
    refine gsub [3, 2, 1, 0] rfl ?_
    exact hk21 _ _ _ _ h
theorem w_X10_inMillionths_21_n {X : Cx} {d n : Nat} {K L : Nat → Nat} {fu : Nat} {M : Mm} {r : Int32} (o : cOk X cX10_inMillionths RX10 d) (hL : cL X = 9) (hr : (ch X).sig.returnType = some .int) (hE : cE X n K L M (some (.int r)) 0 0) : ∀ (g : Nat) (v2 : Int64) (v4 : Int64) (v6 : Int64) (v8 : Int32), f_X10_inMillionths_21 fu g v2 v4 v6 v8 = some r → gW X 0 0 n K L M 21 [(2, .long v2), (4, .long v4), (6, .long v6), (8, .int v8)] []
  | 0, _, _, _, _, h => by cases h
  | g + 1, v2, v4, v6, v8, h => w_X10_inMillionths_21b o hL hr hE (w_X10_inMillionths_21_n o hL hr hE g) h
theorem w_X10_inMillionths_21 {X : Cx} {d n : Nat} {K L : Nat → Nat} {fu : Nat} {M : Mm} {r : Int32} {v2 : Int64} {v4 : Int64} {v6 : Int64} {v8 : Int32} (o : cOk X cX10_inMillionths RX10 d) (hL : cL X = 9) (hr : (ch X).sig.returnType = some .int) (hE : cE X n K L M (some (.int r)) 0 0) (h : f_X10_inMillionths_21 fu fu v2 v4 v6 v8 = some r) : gW X 0 0 n K L M 21 [(2, .long v2), (4, .long v4), (6, .long v6), (8, .int v8)] [] := w_X10_inMillionths_21_n o hL hr hE fu v2 v4 v6 v8 h
def f_X10_inMillionths (fu : Nat) (v0 : Int64) (v2 : Int64) : Option Int32 :=
  if 0 < (lg_cmp v2 (0 : Int64)) then
    Option.bind (nzl v2) (fun u2 =>
    bn (v0 / v2) (fun x3 =>
    Option.bind (nzl v2) (fun u6 =>
    bn (v0 - v0 / v2 * v2) (fun x7 =>
    f_X10_inMillionths_21 fu fu v2 x3 x7 (0 : Int32)))))
  else
    some (0 : Int32)
set_option maxHeartbeats 4000000 in
theorem w_X10_inMillionths_0 {X : Cx} {d n : Nat} {K L : Nat → Nat} {fu : Nat} {M : Mm} {r : Int32} {v0 : Int64} {v2 : Int64} (o : cOk X cX10_inMillionths RX10 d) (hL : cL X = 9) (hr : (ch X).sig.returnType = some .int) (hE : cE X n K L M (some (.int r)) 0 0) (h : f_X10_inMillionths fu v0 v2 = some r) : gW X 0 0 n K L M 0 [(0, .long v0), (2, .long v2)] [] := by
  unfold f_X10_inMillionths at h
  refine g_lload_n o dX10_inMillionths_0 1 rfl ?_
  refine g_lconst (v := (0 : Int64)) o dX10_inMillionths_1 (by decide) ?_
  refine g_lcmp o dX10_inMillionths_2 ?_
  refine g_if_gt (tgt := 8) o dX10_inMillionths_3 (by decide) (fun z => ?_) (fun z => ?_)
  · have h := (if_pos z).symm.trans h
    refine g_lload_n o dX10_inMillionths_8 0 rfl ?_
    refine g_lload_n o dX10_inMillionths_9 1 rfl ?_
    obtain ⟨u2, e1, h⟩ := ob h
    refine g_ldiv o dX10_inMillionths_10 (nzl_at e1) ?_
    obtain ⟨x3, e4, h⟩ := bn_at h
    refine g_topJ e4 ?_
    refine g_lstore (i := 4) (ls' := [(4, .long x3), (0, .long v0), (2, .long v2)]) o dX10_inMillionths_11 (ltL hL (by decide)) rfl ?_
    refine g_lload_n o dX10_inMillionths_13 1 rfl ?_
    refine g_lload_n o dX10_inMillionths_14 2 rfl ?_
    obtain ⟨u6, e5, h⟩ := ob h
    refine g_lrem o dX10_inMillionths_15 (nzl_at e5) ?_
    obtain ⟨x7, e8, h⟩ := bn_at h
    refine g_topJ e8 ?_
    refine g_lstore (i := 6) (ls' := [(6, .long x7), (4, .long x3), (0, .long v0), (2, .long v2)]) o dX10_inMillionths_16 (ltL hL (by decide)) rfl ?_
    refine g_iconst (v := (0 : Int32)) o dX10_inMillionths_18 (by decide) ?_
    refine g_istore (i := 8) (ls' := [(8, .int (0 : Int32)), (6, .long x7), (4, .long x3), (0, .long v0), (2, .long v2)]) o dX10_inMillionths_19 (ltL hL (by decide)) rfl ?_
    refine gsub [4, 2, 1, 0] rfl ?_
    exact w_X10_inMillionths_21 o hL hr hE h
  · have h := (if_neg z).symm.trans h
    refine g_iconst (v := (0 : Int32)) o dX10_inMillionths_6 (by decide) ?_
    cases h
    exact g_iret o hr hE dX10_inMillionths_7
theorem c_X10_inMillionths (l : Launch) (D : va_G) (Y : Nat → ClassId) (B : Nat) {d : Nat} {n : Nat} {K L : Nat → Nat} {fu : Nat} {M : Mm} {v0 : Int64} {v2 : Int64} {r : Int32} (hd : 0 ≤ d) (h : f_X10_inMillionths fu v0 v2 = some r) : mC l D Y B d yX10_inMillionths cX10_inMillionths 9 (some .int) [.long v0, .long v2] n K L M n K L M (some (.int r)) 0 0 := by
  refine mk_met (by decide) (by simp [lgs_r, lgs_i, lgs_l, lgs_n]) (fun X e1 e2 e3 e4 o hL hr hnm hz hc hs hE => ?_)
  subst e1 e2 e3 e4
  rw [show lv_args 0 [.long v0, .long v2] = [(0, .long v0), (2, .long v2)] by simp [lva_r, lva_i, lva_l, lva_n]]
  exact w_X10_inMillionths_0 o hL hr hE h
def f_X10_isRare (K L : Nat → Nat) (M : Mm) (a0 : Nat) (v1 : Int64) (v3 : Int64) : Option Int32 :=
  bn ((10000 : Int64) * ((mm_I M (32 * 10 + 3) a0).toInt64)) (fun x1 =>
  if 0 < (lg_cmp x1 (0 : Int64)) then
    Option.bind (nzl x1) (fun u4 =>
    Option.bind (nzl x1) (fun u6 =>
    Option.bind (nzl x1) (fun u8 =>
    if 0 < (lg_cmp v1 ((((mm_I M (32 * 10 + 2) a0).toInt64) * (v3 / x1)) + ((((mm_I M (32 * 10 + 2) a0).toInt64) * (v3 - v3 / x1 * x1)) / x1))) then
      some (0 : Int32)
    else
      some (1 : Int32))))
  else
    some (0 : Int32))
set_option maxHeartbeats 4000000 in
theorem w_X10_isRare_0 {X : Cx} {d n : Nat} {K L : Nat → Nat} {M : Mm} {a0 : Nat} {r : Int32} {v1 : Int64} {v3 : Int64} (o : cOk X cX10_isRare RX10 d) (hL : cL X = 7) (hr : (ch X).sig.returnType = some .boolean) (hk0 : K a0 = 10) (hE : cE X n K L M (some (.int r)) 0 0) (h : f_X10_isRare K L M a0 v1 v3 = some r) : gW X 0 0 n K L M 0 [(0, va_rf (some a0)), (1, .long v1), (3, .long v3)] [] := by
  unfold f_X10_isRare at h
  refine g_ldc2 (v := (10000 : Int64)) o kc_X10_85 dX10_isRare_0 ?_
  refine g_aload_n o dX10_isRare_3 0 rfl ?_
  refine g_getI o fl_X10_21 (rc_self hk0) (by decide) rfl dX10_isRare_4 ?_
  refine g_i2l o dX10_isRare_7 ?_
  refine g_lmul o dX10_isRare_8 ?_
  obtain ⟨x1, e2, h⟩ := bn_at h
  refine g_topJ e2 ?_
  refine g_lstore (i := 5) (ls' := [(5, .long x1), (0, va_rf (some a0)), (1, .long v1), (3, .long v3)]) o dX10_isRare_9 (ltL hL (by decide)) rfl ?_
  refine g_lload o dX10_isRare_11 0 rfl ?_
  refine g_lconst (v := (0 : Int64)) o dX10_isRare_13 (by decide) ?_
  refine g_lcmp o dX10_isRare_14 ?_
  refine g_if_gt (tgt := 20) o dX10_isRare_15 (by decide) (fun z => ?_) (fun z => ?_)
  · have h := (if_pos z).symm.trans h
    refine g_lload_n o dX10_isRare_20 2 rfl ?_
    refine g_aload_n o dX10_isRare_21 1 rfl ?_
    refine g_getI o fl_X10_18 (rc_self hk0) (by decide) rfl dX10_isRare_22 ?_
    refine g_i2l o dX10_isRare_25 ?_
    refine g_lload_n o dX10_isRare_26 3 rfl ?_
    refine g_lload o dX10_isRare_27 0 rfl ?_
    obtain ⟨u4, e3, h⟩ := ob h
    refine g_ldiv o dX10_isRare_29 (nzl_at e3) ?_
    refine g_lmul o dX10_isRare_30 ?_
    refine g_aload_n o dX10_isRare_31 1 rfl ?_
    refine g_getI o fl_X10_18 (rc_self hk0) (by decide) rfl dX10_isRare_32 ?_
    refine g_i2l o dX10_isRare_35 ?_
    refine g_lload_n o dX10_isRare_36 3 rfl ?_
    refine g_lload o dX10_isRare_37 0 rfl ?_
    obtain ⟨u6, e5, h⟩ := ob h
    refine g_lrem o dX10_isRare_39 (nzl_at e5) ?_
    refine g_lmul o dX10_isRare_40 ?_
    refine g_lload o dX10_isRare_41 0 rfl ?_
    obtain ⟨u8, e7, h⟩ := ob h
    refine g_ldiv o dX10_isRare_43 (nzl_at e7) ?_
    refine g_ladd o dX10_isRare_44 ?_
    refine g_lcmp o dX10_isRare_45 ?_
    refine g_if_gt (tgt := 53) o dX10_isRare_46 (by decide) (fun z => ?_) (fun z => ?_)
    · have h := (if_pos z).symm.trans h
      refine g_iconst (v := (0 : Int32)) o dX10_isRare_53 (by decide) ?_
      cases h
      exact g_zret o hr (by decide) hE dX10_isRare_54
    · have h := (if_neg z).symm.trans h
      refine g_iconst (v := (1 : Int32)) o dX10_isRare_49 (by decide) ?_
      refine g_goto (tgt := 54) o dX10_isRare_50 (by decide) ?_
      cases h
      exact g_zret o hr (by decide) hE dX10_isRare_54
  · have h := (if_neg z).symm.trans h
    refine g_iconst (v := (0 : Int32)) o dX10_isRare_18 (by decide) ?_
    cases h
    exact g_zret o hr (by decide) hE dX10_isRare_19
theorem c_X10_isRare (l : Launch) (D : va_G) (Y : Nat → ClassId) (B : Nat) {d : Nat} {n : Nat} {K L : Nat → Nat} {M : Mm} {a0 : Nat} {v1 : Int64} {v3 : Int64} {r : Int32} (hd : 0 ≤ d) (hk0 : K a0 = 10) (h : f_X10_isRare K L M a0 v1 v3 = some r) : mC l D Y B d yX10_isRare cX10_isRare 7 (some .boolean) [va_rf (some a0), .long v1, .long v3] n K L M n K L M (some (.int r)) 0 0 := by
  refine mk_met (by decide) (by simp [lgs_r, lgs_i, lgs_l, lgs_n]) (fun X e1 e2 e3 e4 o hL hr hnm hz hc hs hE => ?_)
  subst e1 e2 e3 e4
  rw [show lv_args 0 [va_rf (some a0), .long v1, .long v3] = [(0, va_rf (some a0)), (1, .long v1), (3, .long v3)] by simp [lva_r, lva_i, lva_l, lva_n]]
  exact w_X10_isRare_0 o hL hr hk0 hE h
def f_X10_better (K L : Nat → Nat) (M : Mm) (a0 : Nat) : Option Int32 :=
  bn (((mm_I M (32 * 10 + 9) a0) * (mm_I M (32 * 10 + 8) a0)) - ((mm_I M (32 * 10 + 10) a0) * (mm_I M (32 * 10 + 7) a0))) (fun x1 =>
  if x1 = 0 then
    some (3 : Int32)
  else
    if x1 ≤ 0 then
      some (2 : Int32)
    else
      some (1 : Int32))
set_option maxHeartbeats 4000000 in
theorem w_X10_better_0 {X : Cx} {d n : Nat} {K L : Nat → Nat} {M : Mm} {a0 : Nat} {r : Int32} (o : cOk X cX10_better RX10 d) (hL : cL X = 2) (hr : (ch X).sig.returnType = some .int) (hk0 : K a0 = 10) (hE : cE X n K L M (some (.int r)) 0 0) (h : f_X10_better K L M a0  = some r) : gW X 0 0 n K L M 0 [(0, va_rf (some a0))] [] := by
  unfold f_X10_better at h
  refine g_aload_n o dX10_better_0 0 rfl ?_
  refine g_getI o fl_X10_46 (rc_self hk0) (by decide) rfl dX10_better_1 ?_
  refine g_aload_n o dX10_better_4 0 rfl ?_
  refine g_getI o fl_X10_43 (rc_self hk0) (by decide) rfl dX10_better_5 ?_
  refine g_imul o dX10_better_8 ?_
  refine g_aload_n o dX10_better_9 0 rfl ?_
  refine g_getI o fl_X10_49 (rc_self hk0) (by decide) rfl dX10_better_10 ?_
  refine g_aload_n o dX10_better_13 0 rfl ?_
  refine g_getI o fl_X10_40 (rc_self hk0) (by decide) rfl dX10_better_14 ?_
  refine g_imul o dX10_better_17 ?_
  refine g_isub o dX10_better_18 ?_
  obtain ⟨x1, e2, h⟩ := bn_at h
  refine g_topI e2 ?_
  refine g_istore_n (i := 1) (ls' := [(1, .int x1), (0, va_rf (some a0))]) o dX10_better_19 rfl (ltL hL (by decide)) rfl ?_
  refine g_iload_n o dX10_better_20 0 rfl ?_
  refine g_if_ne (tgt := 26) o dX10_better_21 (by decide) (fun z => ?_) (fun z => ?_)
  · have h := (if_neg z).symm.trans h
    refine g_iload_n o dX10_better_26 0 rfl ?_
    refine g_if_le (tgt := 34) o dX10_better_27 (by decide) (fun z => ?_) (fun z => ?_)
    · have h := (if_pos z).symm.trans h
      refine g_iconst (v := (2 : Int32)) o dX10_better_34 (by decide) ?_
      cases h
      exact g_iret o hr hE dX10_better_35
    · have h := (if_neg z).symm.trans h
      refine g_iconst (v := (1 : Int32)) o dX10_better_30 (by decide) ?_
      refine g_goto (tgt := 35) o dX10_better_31 (by decide) ?_
      cases h
      exact g_iret o hr hE dX10_better_35
  · have h := (if_pos z).symm.trans h
    refine g_iconst (v := (3 : Int32)) o dX10_better_24 (by decide) ?_
    cases h
    exact g_iret o hr hE dX10_better_25
theorem c_X10_better (l : Launch) (D : va_G) (Y : Nat → ClassId) (B : Nat) {d : Nat} {n : Nat} {K L : Nat → Nat} {M : Mm} {a0 : Nat} {r : Int32} (hd : 0 ≤ d) (hk0 : K a0 = 10) (h : f_X10_better K L M a0  = some r) : mC l D Y B d yX10_better cX10_better 2 (some .int) [va_rf (some a0)] n K L M n K L M (some (.int r)) 0 0 := by
  refine mk_met (by decide) (by simp [lgs_r, lgs_i, lgs_l, lgs_n]) (fun X e1 e2 e3 e4 o hL hr hnm hz hc hs hE => ?_)
  subst e1 e2 e3 e4
  rw [show lv_args 0 [va_rf (some a0)] = [(0, va_rf (some a0))] by simp [lva_r, lva_i, lva_l, lva_n]]
  exact w_X10_better_0 o hL hr hk0 hE h
def f_X10_judge (K L : Nat → Nat) (fu : Nat) (a0 : Nat) (v1 : Int32) (v2 : Int32) (v3 : Int32) (v4 : Int32) (M : Mm) : Option (Int32 × Mm) :=
  Option.bind (f_X10_setLook K L a0 v1 v2 v3 v4 M) (fun x1 =>
  bn (ms_I x1 (32 * 10 + 4) a0 ((mm_I x1 (32 * 10 + 4) a0) + (1 : Int32))) (fun M3 =>
  Option.bind (f_X10_choose fu ((mm_I M3 (32 * 10 + 7) a0) + (mm_I M3 (32 * 10 + 8) a0)) ((mm_I M3 (32 * 10 + 9) a0) + (mm_I M3 (32 * 10 + 10) a0))) (fun x5 =>
  Option.bind (f_X10_dealsAsFarApart K L fu M3 a0) (fun x7 =>
  Option.bind (f_X10_inMillionths fu x7 x5) (fun x9 =>
  bn (ms_I M3 (32 * 10 + 6) a0 x9) (fun M11 =>
  Option.bind (f_X10_isRare K L M11 a0 x7 x5) (fun x13 =>
  if x13 = 0 then
    if (mm_I M11 (32 * 10 + 4) a0) < (mm_I M11 (32 * 10 + 3) a0) then
      bn (ms_I M11 (32 * 10 + 5) a0 (0 : Int32)) (fun M15 =>
      some (mm_I M15 (32 * 10 + 5) a0, M15))
    else
      bn (ms_I M11 (32 * 10 + 5) a0 (3 : Int32)) (fun M17 =>
      some (mm_I M17 (32 * 10 + 5) a0, M17))
  else
    Option.bind (f_X10_better K L M11 a0) (fun x19 =>
    bn (ms_I M11 (32 * 10 + 5) a0 x19) (fun M21 =>
    some (mm_I M21 (32 * 10 + 5) a0, M21))))))))))
set_option maxHeartbeats 4000000 in
theorem w_X10_judge_0 {X : Cx} {d n : Nat} {K L : Nat → Nat} {fu : Nat} {a0 : Nat} {r : (Int32 × Mm)} {v1 : Int32} {v2 : Int32} {v3 : Int32} {v4 : Int32} {M : Mm} (o : cOk X cX10_judge RX10 (d + 1)) (hL : cL X = 9) (hr : (ch X).sig.returnType = some .int) (hz : (cs X).heap.size + 0 = cB X + n) (hk0 : K a0 = 10) (hE : cE X n K L r.2 (some (.int r.1)) 0 0) (hd : 2 ≤ d + 1) (h : f_X10_judge K L fu a0 v1 v2 v3 v4 M = some r) : gW X 0 0 n K L M 0 [(0, va_rf (some a0)), (1, .int v1), (2, .int v2), (3, .int v3), (4, .int v4)] [] := by
  unfold f_X10_judge at h
  refine g_aload_n o dX10_judge_0 0 rfl ?_
  refine g_iload_n o dX10_judge_1 1 rfl ?_
  refine g_iload_n o dX10_judge_2 2 rfl ?_
  refine g_iload_n o dX10_judge_3 3 rfl ?_
  refine g_iload o dX10_judge_4 4 rfl ?_
  obtain ⟨x1, e2, h⟩ := ob h
  refine g_invV0 o (rc_self hk0) (by decide) ml_X10_33 kb_X10_setLook kv_X10_setLook rfl (c_X10_setLook (cq X) (cD X) (cY X) (cB X) (d := d) (by omega) (rc_at (rc_self hk0)).2 e2) rfl rfl (by simp [cat_i, cat_l, cat_rf]) dX10_judge_6 ?_
  refine g_aload_n o dX10_judge_9 0 rfl ?_
  refine g_dup o dX10_judge_10 (cat_rf _) ?_
  refine g_getI o fl_X10_24 (rc_self hk0) (by decide) rfl dX10_judge_11 ?_
  refine g_iconst (v := (1 : Int32)) o dX10_judge_14 (by decide) ?_
  refine g_iadd o dX10_judge_15 ?_
  refine g_putI o hz fl_X10_24 (rc_self hk0) (by decide) rfl rfl rfl  dX10_judge_16 ?_
  obtain ⟨M3, e4, h⟩ := bn_at h
  refine g_mem e4 ?_
  refine g_aload_n o dX10_judge_19 0 rfl ?_
  refine g_getI o fl_X10_40 (rc_self hk0) (by decide) rfl dX10_judge_20 ?_
  refine g_aload_n o dX10_judge_23 0 rfl ?_
  refine g_getI o fl_X10_43 (rc_self hk0) (by decide) rfl dX10_judge_24 ?_
  refine g_iadd o dX10_judge_27 ?_
  refine g_aload_n o dX10_judge_28 0 rfl ?_
  refine g_getI o fl_X10_46 (rc_self hk0) (by decide) rfl dX10_judge_29 ?_
  refine g_aload_n o dX10_judge_32 0 rfl ?_
  refine g_getI o fl_X10_49 (rc_self hk0) (by decide) rfl dX10_judge_33 ?_
  refine g_iadd o dX10_judge_36 ?_
  obtain ⟨x5, e6, h⟩ := ob h
  refine g_invS0 o ml_X10_52 kb_X10_choose ks_X10_choose (c_X10_choose (cq X) (cD X) (cY X) (cB X) (d := d) (by omega) e6) rfl rfl (by simp [cat_i, cat_l, cat_rf]) dX10_judge_37 ?_
  refine g_lstore (i := 5) (ls' := [(5, .long x5), (0, va_rf (some a0)), (1, .int v1), (2, .int v2), (3, .int v3), (4, .int v4)]) o dX10_judge_40 (ltL hL (by decide)) rfl ?_
  refine g_aload_n o dX10_judge_42 1 rfl ?_
  obtain ⟨x7, e8, h⟩ := ob h
  refine g_invV0 o (rc_self hk0) (by decide) ml_X10_56 kb_X10_dealsAsFarApart kv_X10_dealsAsFarApart rfl (c_X10_dealsAsFarApart (cq X) (cD X) (cY X) (cB X) (d := d) (by omega) (rc_at (rc_self hk0)).2 e8) rfl rfl (by simp [cat_i, cat_l, cat_rf]) dX10_judge_43 ?_
  refine g_lstore (i := 7) (ls' := [(7, .long x7), (5, .long x5), (0, va_rf (some a0)), (1, .int v1), (2, .int v2), (3, .int v3), (4, .int v4)]) o dX10_judge_46 (ltL hL (by decide)) rfl ?_
  refine g_aload_n o dX10_judge_48 2 rfl ?_
  refine g_lload o dX10_judge_49 0 rfl ?_
  refine g_lload o dX10_judge_51 1 rfl ?_
  obtain ⟨x9, e10, h⟩ := ob h
  refine g_invS0 o ml_X10_60 kb_X10_inMillionths ks_X10_inMillionths (c_X10_inMillionths (cq X) (cD X) (cY X) (cB X) (d := d) (by omega) e10) rfl rfl (by simp [cat_i, cat_l, cat_rf]) dX10_judge_53 ?_
  refine g_putI o hz fl_X10_30 (rc_self hk0) (by decide) rfl rfl rfl  dX10_judge_56 ?_
  obtain ⟨M11, e12, h⟩ := bn_at h
  refine g_mem e12 ?_
  refine g_aload_n o dX10_judge_59 2 rfl ?_
  refine g_lload o dX10_judge_60 0 rfl ?_
  refine g_lload o dX10_judge_62 1 rfl ?_
  obtain ⟨x13, e14, h⟩ := ob h
  refine g_invV0 o (rc_self hk0) (by decide) ml_X10_64 kb_X10_isRare kv_X10_isRare rfl (c_X10_isRare (cq X) (cD X) (cY X) (cB X) (d := d) (by omega) (rc_at (rc_self hk0)).2 e14) rfl rfl (by simp [cat_i, cat_l, cat_rf]) dX10_judge_64 ?_
  refine g_if_eq (tgt := 81) o dX10_judge_67 (by decide) (fun z => ?_) (fun z => ?_)
  · have h := (if_pos z).symm.trans h
    refine g_aload_n o dX10_judge_81 2 rfl ?_
    refine g_aload_n o dX10_judge_82 2 rfl ?_
    refine g_getI o fl_X10_24 (rc_self hk0) (by decide) rfl dX10_judge_83 ?_
    refine g_aload_n o dX10_judge_86 2 rfl ?_
    refine g_getI o fl_X10_21 (rc_self hk0) (by decide) rfl dX10_judge_87 ?_
    refine g_icmp_lt (tgt := 97) o dX10_judge_90 (by decide) (fun z => ?_) (fun z => ?_)
    · have h := (if_pos z).symm.trans h
      refine g_iconst (v := (0 : Int32)) o dX10_judge_97 (by decide) ?_
      refine g_putI o hz fl_X10_27 (rc_self hk0) (by decide) rfl rfl rfl  dX10_judge_98 ?_
      obtain ⟨M15, e16, h⟩ := bn_at h
      refine g_mem e16 ?_
      refine g_aload_n o dX10_judge_101 2 rfl ?_
      refine g_getI o fl_X10_27 (rc_self hk0) (by decide) rfl dX10_judge_102 ?_
      cases h
      exact g_iret o hr hE dX10_judge_105
    · have h := (if_neg z).symm.trans h
      refine g_iconst (v := (3 : Int32)) o dX10_judge_93 (by decide) ?_
      refine g_goto (tgt := 98) o dX10_judge_94 (by decide) ?_
      refine g_putI o hz fl_X10_27 (rc_self hk0) (by decide) rfl rfl rfl  dX10_judge_98 ?_
      obtain ⟨M17, e18, h⟩ := bn_at h
      refine g_mem e18 ?_
      refine g_aload_n o dX10_judge_101 2 rfl ?_
      refine g_getI o fl_X10_27 (rc_self hk0) (by decide) rfl dX10_judge_102 ?_
      cases h
      exact g_iret o hr hE dX10_judge_105
  · have h := (if_neg z).symm.trans h
    refine g_aload_n o dX10_judge_70 2 rfl ?_
    refine g_aload_n o dX10_judge_71 2 rfl ?_
    obtain ⟨x19, e20, h⟩ := ob h
    refine g_invV0 o (rc_self hk0) (by decide) ml_X10_68 kb_X10_better kv_X10_better rfl (c_X10_better (cq X) (cD X) (cY X) (cB X) (d := d) (by omega) (rc_at (rc_self hk0)).2 e20) rfl rfl (by simp [cat_i, cat_l, cat_rf]) dX10_judge_72 ?_
    refine g_putI o hz fl_X10_27 (rc_self hk0) (by decide) rfl rfl rfl  dX10_judge_75 ?_
    obtain ⟨M21, e22, h⟩ := bn_at h
    refine g_mem e22 ?_
    refine g_goto (tgt := 101) o dX10_judge_78 (by decide) ?_
    refine g_aload_n o dX10_judge_101 2 rfl ?_
    refine g_getI o fl_X10_27 (rc_self hk0) (by decide) rfl dX10_judge_102 ?_
    cases h
    exact g_iret o hr hE dX10_judge_105
theorem c_X10_judge (l : Launch) (D : va_G) (Y : Nat → ClassId) (B : Nat) {d : Nat} {n : Nat} {K L : Nat → Nat} {fu : Nat} {M : Mm} {a0 : Nat} {v1 : Int32} {v2 : Int32} {v3 : Int32} {v4 : Int32} {r : (Int32 × Mm)} (hd : 2 ≤ d) (hk0 : K a0 = 10) (h : f_X10_judge K L fu a0 v1 v2 v3 v4 M = some r) : mC l D Y B d yX10_judge cX10_judge 9 (some .int) [va_rf (some a0), .int v1, .int v2, .int v3, .int v4] n K L M n K L r.2 (some (.int r.1)) 0 0 := by
  obtain ⟨d, rfl⟩ : ∃ e, d = e + 1 := ⟨d - 1, by omega⟩
  refine mk_met (by decide) (by simp [lgs_r, lgs_i, lgs_l, lgs_n]) (fun X e1 e2 e3 e4 o hL hr hnm hz hc hs hE => ?_)
  subst e1 e2 e3 e4
  rw [show lv_args 0 [va_rf (some a0), .int v1, .int v2, .int v3, .int v4] = [(0, va_rf (some a0)), (1, .int v1), (2, .int v2), (3, .int v3), (4, .int v4)] by simp [lva_r, lva_i, lva_l, lva_n]]
  exact w_X10_judge_0 o hL hr hz hk0 hE hd h
def f_X11_isRefusal  (v0 : Int32) : Option Int32 :=
  if (-2 : Int32) < v0 then
    some (0 : Int32)
  else
    if v0 < (-13 : Int32) then
      some (0 : Int32)
    else
      some (1 : Int32)
set_option maxHeartbeats 4000000 in
theorem w_X11_isRefusal_0 {X : Cx} {d n : Nat} {K L : Nat → Nat} {M : Mm} {r : Int32} {v0 : Int32} (o : cOk X cX11_isRefusal RX11 d) (hL : cL X = 1) (hr : (ch X).sig.returnType = some .boolean) (hE : cE X n K L M (some (.int r)) 0 0) (h : f_X11_isRefusal  v0 = some r) : gW X 0 0 n K L M 0 [(0, .int v0)] [] := by
  unfold f_X11_isRefusal at h
  refine g_iload_n o dX11_isRefusal_0 0 rfl ?_
  refine g_bipush (v := (-2 : Int32)) o dX11_isRefusal_1 (by decide) ?_
  refine g_icmp_gt (tgt := 16) o dX11_isRefusal_3 (by decide) (fun z => ?_) (fun z => ?_)
  · have h := (if_pos z).symm.trans h
    refine g_iconst (v := (0 : Int32)) o dX11_isRefusal_16 (by decide) ?_
    cases h
    exact g_zret o hr (by decide) hE dX11_isRefusal_17
  · have h := (if_neg z).symm.trans h
    refine g_iload_n o dX11_isRefusal_6 0 rfl ?_
    refine g_bipush (v := (-13 : Int32)) o dX11_isRefusal_7 (by decide) ?_
    refine g_icmp_lt (tgt := 16) o dX11_isRefusal_9 (by decide) (fun z => ?_) (fun z => ?_)
    · have h := (if_pos z).symm.trans h
      refine g_iconst (v := (0 : Int32)) o dX11_isRefusal_16 (by decide) ?_
      cases h
      exact g_zret o hr (by decide) hE dX11_isRefusal_17
    · have h := (if_neg z).symm.trans h
      refine g_iconst (v := (1 : Int32)) o dX11_isRefusal_12 (by decide) ?_
      refine g_goto (tgt := 17) o dX11_isRefusal_13 (by decide) ?_
      cases h
      exact g_zret o hr (by decide) hE dX11_isRefusal_17
theorem c_X11_isRefusal (l : Launch) (D : va_G) (Y : Nat → ClassId) (B : Nat) {d : Nat} {n : Nat} {K L : Nat → Nat} {M : Mm} {v0 : Int32} {r : Int32} (hd : 0 ≤ d) (h : f_X11_isRefusal  v0 = some r) : mC l D Y B d yX11_isRefusal cX11_isRefusal 1 (some .boolean) [.int v0] n K L M n K L M (some (.int r)) 0 0 := by
  refine mk_met (by decide) (by simp [lgs_r, lgs_i, lgs_l, lgs_n]) (fun X e1 e2 e3 e4 o hL hr hnm hz hc hs hE => ?_)
  subst e1 e2 e3 e4
  rw [show lv_args 0 [.int v0] = [(0, .int v0)] by simp [lva_r, lva_i, lva_l, lva_n]]
  exact w_X11_isRefusal_0 o hL hr hE h
def f_X11_refuse (K L : Nat → Nat) (a0 : Nat) (v1 : Int32) (M : Mm) : Option (Int32 × Mm) :=
  Option.bind (f_X11_isRefusal v1) (fun x1 =>
  if x1 = 0 then
    some (v1, M)
  else
    Option.bind (rx K L (mm_R M (32 * 11 + 5) a0) 13 (-v1)) (fun a3 =>
    bn (ms_A M a3 (upd (mm_A M a3) (-v1).toNatClampNeg ((mm_A M a3 (-v1).toNatClampNeg) + (1 : Int32)))) (fun M5 =>
    some (v1, M5))))
set_option maxHeartbeats 4000000 in
theorem w_X11_refuse_0 {X : Cx} {d n : Nat} {K L : Nat → Nat} {a0 : Nat} {r : (Int32 × Mm)} {v1 : Int32} {M : Mm} (o : cOk X cX11_refuse RX11 (d + 1)) (hL : cL X = 2) (hr : (ch X).sig.returnType = some .int) (hz : (cs X).heap.size + 0 = cB X + n) (hk0 : K a0 = 11) (hE : cE X n K L r.2 (some (.int r.1)) 0 0) (hd : 1 ≤ d + 1) (h : f_X11_refuse K L a0 v1 M = some r) : gW X 0 0 n K L M 0 [(0, va_rf (some a0)), (1, .int v1)] [] := by
  unfold f_X11_refuse at h
  refine g_iload_n o dX11_refuse_0 1 rfl ?_
  obtain ⟨x1, e2, h⟩ := ob h
  refine g_invS0 o ml_X11_360 kb_X11_isRefusal ks_X11_isRefusal (c_X11_isRefusal (cq X) (cD X) (cY X) (cB X) (d := d) (by omega) e2) rfl rfl (by simp [cat_i, cat_l, cat_rf]) dX11_refuse_1 ?_
  refine g_if_eq (tgt := 18) o dX11_refuse_4 (by decide) (fun z => ?_) (fun z => ?_)
  · have h := (if_pos z).symm.trans h
    refine g_iload_n o dX11_refuse_18 1 rfl ?_
    cases h
    exact g_iret o hr hE dX11_refuse_19
  · have h := (if_neg z).symm.trans h
    refine g_aload_n o dX11_refuse_7 0 rfl ?_
    refine g_getR o fl_X11_37 (rc_self hk0) (by decide) rfl dX11_refuse_8 ?_
    refine g_iload_n o dX11_refuse_11 1 rfl ?_
    refine g_ineg o dX11_refuse_12 ?_
    refine g_dup2 o dX11_refuse_13 rfl (cat_rf _) ?_
    obtain ⟨a3, e4, h⟩ := ob h
    refine g_iald o e4 dX11_refuse_14 ?_
    refine g_iconst (v := (1 : Int32)) o dX11_refuse_15 (by decide) ?_
    refine g_iadd o dX11_refuse_16 ?_
    refine g_iast o hz e4  dX11_refuse_17 ?_
    obtain ⟨M5, e6, h⟩ := bn_at h
    refine g_mem e6 ?_
    refine g_iload_n o dX11_refuse_18 1 rfl ?_
    cases h
    exact g_iret o hr hE dX11_refuse_19
theorem c_X11_refuse (l : Launch) (D : va_G) (Y : Nat → ClassId) (B : Nat) {d : Nat} {n : Nat} {K L : Nat → Nat} {M : Mm} {a0 : Nat} {v1 : Int32} {r : (Int32 × Mm)} (hd : 1 ≤ d) (hk0 : K a0 = 11) (h : f_X11_refuse K L a0 v1 M = some r) : mC l D Y B d yX11_refuse cX11_refuse 2 (some .int) [va_rf (some a0), .int v1] n K L M n K L r.2 (some (.int r.1)) 0 0 := by
  obtain ⟨d, rfl⟩ : ∃ e, d = e + 1 := ⟨d - 1, by omega⟩
  refine mk_met (by decide) (by simp [lgs_r, lgs_i, lgs_l, lgs_n]) (fun X e1 e2 e3 e4 o hL hr hnm hz hc hs hE => ?_)
  subst e1 e2 e3 e4
  rw [show lv_args 0 [va_rf (some a0), .int v1] = [(0, va_rf (some a0)), (1, .int v1)] by simp [lva_r, lva_i, lva_l, lva_n]]
  exact w_X11_refuse_0 o hL hr hz hk0 hE hd h
