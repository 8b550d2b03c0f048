/-! methods: X11_both X11_moves X11_status X12_isIn X12_no X12_of X12_to X12_isPlace X12_isSwitch X12_isStepped X12_hangs X12_why X12_caller X12_seatOf X12_ruleOf X12_wayOfSeat X12_ownWay X12_hangsOn X12_stops X12_isReady X12_stoppedBy X12_isOther X12_findWays -/
def f_X11_both_88b (K L : Nat → Nat) (fu : Nat) (k88 : Int32 → Int32 → Int32 → Int32 → Int32 → Int32 → Mm → Option (Int32 × Mm)) (a0 : Nat) (v1 : Int32) (v2 : Int32) (v3 : Int32) (v4 : Int32) (v6 : Int32) (v7 : Int32) (M : Mm) : Option (Int32 × Mm) :=
  if v4 ≤ v7 then
    some (v6, M)
  else
    Option.bind (rc K (mm_R M (32 * 11 + 3) a0) 1) (fun a1 =>
    Option.bind (f_X1_ask K L a1 (v3 + v7) M) (fun x3 =>
    Option.bind (rc K (mm_R x3 (32 * 11 + 3) a0) 1) (fun a5 =>
    Option.bind (f_X1_wayAt K L fu 20 a5 (mm_R x3 (32 * 11 + 0) a0) v1 (0 : Int32) x3) (fun x7 =>
    if (x7.1) = (1 : Int32) then
      Option.bind (rc K (mm_R x7.2 (32 * 11 + 3) a0) 1) (fun a9 =>
      Option.bind (f_X1_wayAt K L fu 20 a9 (mm_R x7.2 (32 * 11 + 0) a0) v2 (0 : Int32) x7.2) (fun x11 =>
      if (x11.1) = (1 : Int32) then
        k88 v1 v2 v3 v4 (v6 + 1) (v7 + 1) (x11.2)
      else
        k88 v1 v2 v3 v4 v6 (v7 + 1) (x11.2)))
    else
      k88 v1 v2 v3 v4 v6 (v7 + 1) (x7.2)))))
def f_X11_both_88 (K L : Nat → Nat) (fu : Nat) (a0 : Nat) : Nat → Int32 → Int32 → Int32 → Int32 → Int32 → Int32 → Mm → Option (Int32 × Mm)
  | 0, _, _, _, _, _, _, _ => none
  | g + 1, v1, v2, v3, v4, v6, v7, M => f_X11_both_88b K L fu (f_X11_both_88 K L fu a0 g) a0 v1 v2 v3 v4 v6 v7 M
set_option maxHeartbeats 4000000 in
theorem w_X11_both_88b {X : Cx} {d n : Nat} {K L : Nat → Nat} {fu : Nat} {a0 : Nat} {r : (Int32 × Mm)} {k88 : Int32 → Int32 → Int32 → Int32 → Int32 → Int32 → Mm → Option (Int32 × Mm)} {v1 : Int32} {v2 : Int32} {v3 : Int32} {v4 : Int32} {v6 : Int32} {v7 : Int32} {M : Mm} (o : cOk X cX11_both RX11 (d + 1)) (hL : cL X = 8) (hr : (ch X).sig.returnType = some .int) (hz : (cs X).heap.size + 0 = cB X + n) (hk0 : K a0 = 11) (hE : cE X n K L r.2 (some (.int r.1)) 0 0) (hk88 : ∀ (v1 : Int32) (v2 : Int32) (v3 : Int32) (v4 : Int32) (v6 : Int32) (v7 : Int32) (M : Mm), k88 v1 v2 v3 v4 v6 v7 M = some r → gW X 0 0 n K L M 88 [(0, va_rf (some a0)), (1, .int v1), (2, .int v2), (3, .int v3), (4, .int v4), (6, .int v6), (7, .int v7)] []) (hd : 130 ≤ d + 1) (h : f_X11_both_88b K L fu k88 a0 v1 v2 v3 v4 v6 v7 M = some r) : gW X 0 0 n K L M 88 [(0, va_rf (some a0)), (1, .int v1), (2, .int v2), (3, .int v3), (4, .int v4), (6, .int v6), (7, .int v7)] [] := by
  unfold f_X11_both_88b at h
  refine g_iload o dX11_both_88 6 rfl ?_
  refine g_iload o dX11_both_90 4 rfl ?_
  refine g_icmp_ge (tgt := 149) o dX11_both_92 (by decide) (fun z => ?_) (fun z => ?_)
  · have h := (if_pos z).symm.trans h
    refine g_iload o dX11_both_149 5 rfl ?_
    cases h
    exact g_iret o hr hE dX11_both_151
  · have h := (if_neg z).symm.trans h
    refine g_aload_n o dX11_both_95 0 rfl ?_
    refine g_getR o fl_X11_26 (rc_self hk0) (by decide) rfl dX11_both_96 ?_
    refine g_iload_n o dX11_both_99 3 rfl ?_
    refine g_iload o dX11_both_100 6 rfl ?_
    refine g_iadd o dX11_both_102 ?_
    obtain ⟨a1, e2, h⟩ := ob h
    obtain ⟨x3, e4, h⟩ := ob h
    refine g_invV0 o e2 (by decide) ml_X11_75 kb_X1_ask kv_X1_ask rfl (c_X1_ask (cq X) (cD X) (cY X) (cB X) (d := d) (by omega) (rc_at e2).2 e4) rfl rfl (by simp [cat_i, cat_l, cat_rf]) dX11_both_103 ?_
    refine g_aload_n o dX11_both_106 0 rfl ?_
    refine g_getR o fl_X11_26 (rc_self hk0) (by decide) rfl dX11_both_107 ?_
    refine g_aload_n o dX11_both_110 0 rfl ?_
    refine g_getR o fl_X11_10 (rc_self hk0) (by decide) rfl dX11_both_111 ?_
    refine g_iload_n o dX11_both_114 1 rfl ?_
    refine g_iconst (v := (0 : Int32)) o dX11_both_115 (by decide) ?_
    obtain ⟨a5, e6, h⟩ := ob h
    obtain ⟨x7, e8, h⟩ := ob h
    refine g_invVN0 o e6 (by decide) mn_X11_79 kb_X1_wayAt kv_X1_wayAt rfl (cw_X1_wayAt (cq X) (cD X) (cY X) (cB X) 20 d (by omega) (rc_at e6).2 e8) rfl rfl (by simp [cat_i, cat_l, cat_rf]) dX11_both_116 ?_
    refine g_iconst (v := (1 : Int32)) o dX11_both_119 (by decide) ?_
    refine g_icmp_ne (tgt := 143) o dX11_both_120 (by decide) (fun z => ?_) (fun z => ?_)
    · have h := (if_neg z).symm.trans h
      refine g_iinc (i := 7) (v := v7 + 1) (ls' := [(7, .int (v7 + 1)), (0, va_rf (some a0)), (1, .int v1), (2, .int v2), (3, .int v3), (4, .int v4), (6, .int v6)]) o dX11_both_143 6 rfl (by first | rfl | (congr 1)) (ltL hL (by decide)) rfl ?_
      refine g_goto (tgt := 88) o dX11_both_146 (by decide) ?_
      refine gsub [1, 2, 3, 4, 5, 6, 0] rfl ?_
      exact hk88 _ _ _ _ _ _ _ h
    · have h := (if_pos z).symm.trans h
      refine g_aload_n o dX11_both_123 0 rfl ?_
      refine g_getR o fl_X11_26 (rc_self hk0) (by decide) rfl dX11_both_124 ?_
      refine g_aload_n o dX11_both_127 0 rfl ?_
      refine g_getR o fl_X11_10 (rc_self hk0) (by decide) rfl dX11_both_128 ?_
      refine g_iload_n o dX11_both_131 2 rfl ?_
      refine g_iconst (v := (0 : Int32)) o dX11_both_132 (by decide) ?_
      obtain ⟨a9, e10, h⟩ := ob h
      obtain ⟨x11, e12, h⟩ := ob h
      refine g_invVN0 o e10 (by decide) mn_X11_79 kb_X1_wayAt kv_X1_wayAt rfl (cw_X1_wayAt (cq X) (cD X) (cY X) (cB X) 20 d (by omega) (rc_at e10).2 e12) rfl rfl (by simp [cat_i, cat_l, cat_rf]) dX11_both_133 ?_
      refine g_iconst (v := (1 : Int32)) o dX11_both_136 (by decide) ?_
      refine g_icmp_ne (tgt := 143) o dX11_both_137 (by decide) (fun z => ?_) (fun z => ?_)
      · have h := (if_neg z).symm.trans h
        refine g_iinc (i := 7) (v := v7 + 1) (ls' := [(7, .int (v7 + 1)), (0, va_rf (some a0)), (1, .int v1), (2, .int v2), (3, .int v3), (4, .int v4), (6, .int v6)]) o dX11_both_143 6 rfl (by first | rfl | (congr 1)) (ltL hL (by decide)) rfl ?_
        refine g_goto (tgt := 88) o dX11_both_146 (by decide) ?_
        refine gsub [1, 2, 3, 4, 5, 6, 0] rfl ?_
        exact hk88 _ _ _ _ _ _ _ h
      · have h := (if_pos z).symm.trans h
        refine g_iinc (i := 6) (v := v6 + 1) (ls' := [(6, .int (v6 + 1)), (0, va_rf (some a0)), (1, .int v1), (2, .int v2), (3, .int v3), (4, .int v4), (7, .int v7)]) o dX11_both_140 5 rfl (by first | rfl | (congr 1)) (ltL hL (by decide)) rfl ?_
        refine g_iinc (i := 7) (v := v7 + 1) (ls' := [(7, .int (v7 + 1)), (6, .int (v6 + 1)), (0, va_rf (some a0)), (1, .int v1), (2, .int v2), (3, .int v3), (4, .int v4)]) o dX11_both_143 6 rfl (by first | rfl | (congr 1)) (ltL hL (by decide)) rfl ?_
        refine g_goto (tgt := 88) o dX11_both_146 (by decide) ?_
        refine gsub [2, 3, 4, 5, 6, 1, 0] rfl ?_
        exact hk88 _ _ _ _ _ _ _ h
theorem w_X11_both_88_n {X : Cx} {d n : Nat} {K L : Nat → Nat} {fu : Nat} {a0 : Nat} {r : (Int32 × Mm)} (o : cOk X cX11_both RX11 (d + 1)) (hL : cL X = 8) (hr : (ch X).sig.returnType = some .int) (hz : (cs X).heap.size + 0 = cB X + n) (hk0 : K a0 = 11) (hE : cE X n K L r.2 (some (.int r.1)) 0 0) (hd : 130 ≤ d + 1) : ∀ (g : Nat) (v1 : Int32) (v2 : Int32) (v3 : Int32) (v4 : Int32) (v6 : Int32) (v7 : Int32) (M : Mm), f_X11_both_88 K L fu a0 g v1 v2 v3 v4 v6 v7 M = some r → gW X 0 0 n K L M 88 [(0, va_rf (some a0)), (1, .int v1), (2, .int v2), (3, .int v3), (4, .int v4), (6, .int v6), (7, .int v7)] []
  | 0, _, _, _, _, _, _, _, h => by cases h
  | g + 1, v1, v2, v3, v4, v6, v7, M, h => w_X11_both_88b o hL hr hz hk0 hE (w_X11_both_88_n o hL hr hz hk0 hE hd g) hd h
theorem w_X11_both_88 {X : Cx} {d n : Nat} {K L : Nat → Nat} {fu : Nat} {a0 : Nat} {r : (Int32 × Mm)} {v1 : Int32} {v2 : Int32} {v3 : Int32} {v4 : Int32} {v6 : Int32} {v7 : Int32} {M : Mm} (o : cOk X cX11_both RX11 (d + 1)) (hL : cL X = 8) (hr : (ch X).sig.returnType = some .int) (hz : (cs X).heap.size + 0 = cB X + n) (hk0 : K a0 = 11) (hE : cE X n K L r.2 (some (.int r.1)) 0 0) (hd : 130 ≤ d + 1) (h : f_X11_both_88 K L fu a0 fu v1 v2 v3 v4 v6 v7 M = some r) : gW X 0 0 n K L M 88 [(0, va_rf (some a0)), (1, .int v1), (2, .int v2), (3, .int v3), (4, .int v4), (6, .int v6), (7, .int v7)] [] := w_X11_both_88_n o hL hr hz hk0 hE hd fu v1 v2 v3 v4 v6 v7 M h
def f_X11_both_42 (K L : Nat → Nat) (fu : Nat) (a0 : Nat) (v1 : Int32) (v2 : Int32) (M : Mm) : Option (Int32 × Mm) :=
  Option.bind (f_X11_refuseAtEither K L a0 v1 v2 (31 : Int32) M) (fun x1 =>
  some (x1.1, x1.2))
set_option maxHeartbeats 4000000 in
theorem w_X11_both_42 {X : Cx} {d n : Nat} {K L : Nat → Nat} {fu : Nat} {a0 : Nat} {r : (Int32 × Mm)} {v1 : Int32} {v2 : Int32} {M : Mm} (o : cOk X cX11_both RX11 (d + 1)) (hL : cL X = 8) (hr : (ch X).sig.returnType = some .int) (hz : (cs X).heap.size + 0 = cB X + n) (hk0 : K a0 = 11) (hE : cE X n K L r.2 (some (.int r.1)) 0 0) (hd : 130 ≤ d + 1) (h : f_X11_both_42 K L fu a0 v1 v2 M = some r) : gW X 0 0 n K L M 42 [(0, va_rf (some a0)), (1, .int v1), (2, .int v2)] [] := by
  unfold f_X11_both_42 at h
  refine g_aload_n o dX11_both_42 0 rfl ?_
  refine g_iload_n o dX11_both_43 1 rfl ?_
  refine g_iload_n o dX11_both_44 2 rfl ?_
  refine g_bipush (v := (31 : Int32)) o dX11_both_45 (by decide) ?_
  obtain ⟨x1, e2, h⟩ := ob h
  refine g_invV0 o (rc_self hk0) (by decide) ml_X11_220 kb_X11_refuseAtEither kv_X11_refuseAtEither rfl (c_X11_refuseAtEither (cq X) (cD X) (cY X) (cB X) (d := d) (by omega) (rc_at (rc_self hk0)).2 e2) rfl rfl (by simp [cat_i, cat_l, cat_rf]) dX11_both_47 ?_
  cases h
  exact g_iret o hr hE dX11_both_50
def f_X11_both (K L : Nat → Nat) (fu : Nat) (a0 : Nat) (v1 : Int32) (v2 : Int32) (v3 : Int32) (v4 : Int32) (M : Mm) : Option (Int32 × Mm) :=
  Option.bind (f_X11_within v3 (999999 : Int32)) (fun x1 =>
  if x1 = 0 then
    Option.bind (f_X11_refuse K L a0 (-3 : Int32) M) (fun x17 =>
    some (x17.1, x17.2))
  else
    Option.bind (rc K (mm_R M (32 * 11 + 0) a0) 8) (fun a3 =>
    Option.bind (f_X8_find K L M a3 v1 (31 : Int32)) (fun x5 =>
    if x5 = none then
      f_X11_both_42 K L fu a0 v1 v2 M
    else
      Option.bind (f_X8_find K L M a3 v2 (31 : Int32)) (fun x7 =>
      if x7 = none then
        f_X11_both_42 K L fu a0 v1 v2 M
      else
        Option.bind (f_X11_crowdFault v3 v4) (fun x9 =>
        if x9 = 0 then
          Option.bind (rc K (mm_R M (32 * 11 + 3) a0) 1) (fun a11 =>
          Option.bind (f_X1_begin K L fu a11 (mm_R M (32 * 11 + 0) a0) M) (fun x13 =>
          f_X11_both_88 K L fu a0 fu v1 v2 v3 v4 (0 : Int32) (0 : Int32) x13))
        else
          Option.bind (f_X11_refuse K L a0 x9 M) (fun x15 =>
          some (x15.1, x15.2)))))))
set_option maxHeartbeats 4000000 in
theorem w_X11_both_0 {X : Cx} {d n : Nat} {K L : Nat → Nat} {fu : Nat} {a0 : Nat} {r : (Int32 × Mm)} {v1 : Int32} {v2 : Int32} {v3 : Int32} {v4 : Int32} {M : Mm} (o : cOk X cX11_both RX11 (d + 1)) (hL : cL X = 8) (hr : (ch X).sig.returnType = some .int) (hz : (cs X).heap.size + 0 = cB X + n) (hk0 : K a0 = 11) (hE : cE X n K L r.2 (some (.int r.1)) 0 0) (hd : 130 ≤ d + 1) (h : f_X11_both K L fu a0 v1 v2 v3 v4 M = some r) : gW X 0 0 n K L M 0 [(0, va_rf (some a0)), (1, .int v1), (2, .int v2), (3, .int v3), (4, .int v4)] [] := by
  unfold f_X11_both at h
  refine g_iload_n o dX11_both_0 3 rfl ?_
  refine g_ldc (v := (999999 : Int32)) o kc_X11_41 dX11_both_1 ?_
  obtain ⟨x1, e2, h⟩ := ob h
  refine g_invS0 o ml_X11_42 kb_X11_within ks_X11_within (c_X11_within (cq X) (cD X) (cY X) (cB X) (d := d) (by omega) e2) rfl rfl (by simp [cat_i, cat_l, cat_rf]) dX11_both_3 ?_
  refine g_if_ne (tgt := 16) o dX11_both_6 (by decide) (fun z => ?_) (fun z => ?_)
  · have h := (if_neg z).symm.trans h
    refine g_aload_n o dX11_both_16 0 rfl ?_
    refine g_getR o fl_X11_10 (rc_self hk0) (by decide) rfl dX11_both_17 ?_
    refine g_iload_n o dX11_both_20 1 rfl ?_
    refine g_bipush (v := (31 : Int32)) o dX11_both_21 (by decide) ?_
    obtain ⟨a3, e4, h⟩ := ob h
    obtain ⟨x5, e6, h⟩ := ob h
    refine g_invV0 o e4 (by decide) ml_X11_54 kb_X8_find kv_X8_find rfl (c_X8_find (cq X) (cD X) (cY X) (cB X) (d := d) (by omega) (rc_at e4).2 e6) rfl rfl (by simp [cat_i, cat_l, cat_rf]) dX11_both_23 ?_
    refine g_ifnull (tgt := 42) o dX11_both_26 (by decide) (fun z => ?_) (fun z => ?_)
    · have h := (if_pos z).symm.trans h
      refine gsub [0, 1, 2] rfl ?_
      exact w_X11_both_42 o hL hr hz hk0 hE hd h
    · have h := (if_neg z).symm.trans h
      refine g_aload_n o dX11_both_29 0 rfl ?_
      refine g_getR o fl_X11_10 (rc_self hk0) (by decide) rfl dX11_both_30 ?_
      refine g_iload_n o dX11_both_33 2 rfl ?_
      refine g_bipush (v := (31 : Int32)) o dX11_both_34 (by decide) ?_
      obtain ⟨x7, e8, h⟩ := ob h
      refine g_invV0 o e4 (by decide) ml_X11_54 kb_X8_find kv_X8_find rfl (c_X8_find (cq X) (cD X) (cY X) (cB X) (d := d) (by omega) (rc_at e4).2 e8) rfl rfl (by simp [cat_i, cat_l, cat_rf]) dX11_both_36 ?_
      refine g_ifnonnull (tgt := 51) o dX11_both_39 (by decide) (fun z => ?_) (fun z => ?_)
      · have h := (if_neg z).symm.trans h
        refine g_iload_n o dX11_both_51 3 rfl ?_
        refine g_iload o dX11_both_52 4 rfl ?_
        obtain ⟨x9, e10, h⟩ := ob h
        refine g_invS0 o ml_X11_348 kb_X11_crowdFault ks_X11_crowdFault (c_X11_crowdFault (cq X) (cD X) (cY X) (cB X) (d := d) (by omega) e10) rfl rfl (by simp [cat_i, cat_l, cat_rf]) dX11_both_54 ?_
        refine g_istore (i := 5) (ls' := [(5, .int x9), (0, va_rf (some a0)), (1, .int v1), (2, .int v2), (3, .int v3), (4, .int v4)]) o dX11_both_57 (ltL hL (by decide)) rfl ?_
        refine g_iload o dX11_both_59 0 rfl ?_
        refine g_if_eq (tgt := 71) o dX11_both_61 (by decide) (fun z => ?_) (fun z => ?_)
        · have h := (if_pos z).symm.trans h
          refine g_aload_n o dX11_both_71 1 rfl ?_
          refine g_getR o fl_X11_26 (rc_self hk0) (by decide) rfl dX11_both_72 ?_
          refine g_aload_n o dX11_both_75 1 rfl ?_
          refine g_getR o fl_X11_10 (rc_self hk0) (by decide) rfl dX11_both_76 ?_
          obtain ⟨a11, e12, h⟩ := ob h
          obtain ⟨x13, e14, h⟩ := ob h
          refine g_invV0 o e12 (by decide) ml_X11_71 kb_X1_begin kv_X1_begin rfl (c_X1_begin (cq X) (cD X) (cY X) (cB X) (d := d) (by omega) (rc_at e12).2 e14) rfl rfl (by simp [cat_i, cat_l, cat_rf]) dX11_both_79 ?_
          refine g_iconst (v := (0 : Int32)) o dX11_both_82 (by decide) ?_
          refine g_istore (i := 6) (ls' := [(6, .int (0 : Int32)), (5, .int x9), (0, va_rf (some a0)), (1, .int v1), (2, .int v2), (3, .int v3), (4, .int v4)]) o dX11_both_83 (ltL hL (by decide)) rfl ?_
          refine g_iconst (v := (0 : Int32)) o dX11_both_85 (by decide) ?_
          refine g_istore (i := 7) (ls' := [(7, .int (0 : Int32)), (6, .int (0 : Int32)), (5, .int x9), (0, va_rf (some a0)), (1, .int v1), (2, .int v2), (3, .int v3), (4, .int v4)]) o dX11_both_86 (ltL hL (by decide)) rfl ?_
          refine gsub [3, 4, 5, 6, 7, 1, 0] rfl ?_
          exact w_X11_both_88 o hL hr hz hk0 hE hd h
        · have h := (if_neg z).symm.trans h
          refine g_aload_n o dX11_both_64 1 rfl ?_
          refine g_iload o dX11_both_65 0 rfl ?_
          obtain ⟨x15, e16, h⟩ := ob h
          refine g_invV0 o (rc_self hk0) (by decide) ml_X11_46 kb_X11_refuse kv_X11_refuse rfl (c_X11_refuse (cq X) (cD X) (cY X) (cB X) (d := d) (by omega) (rc_at (rc_self hk0)).2 e16) rfl rfl (by simp [cat_i, cat_l, cat_rf]) dX11_both_67 ?_
          cases h
          exact g_iret o hr hE dX11_both_70
      · have h := (if_pos z).symm.trans h
        refine gsub [0, 1, 2] rfl ?_
        exact w_X11_both_42 o hL hr hz hk0 hE hd h
  · have h := (if_pos z).symm.trans h
    refine g_aload_n o dX11_both_9 0 rfl ?_
    refine g_bipush (v := (-3 : Int32)) o dX11_both_10 (by decide) ?_
    obtain ⟨x17, e18, h⟩ := ob h
    refine g_invV0 o (rc_self hk0) (by decide) ml_X11_46 kb_X11_refuse kv_X11_refuse rfl (c_X11_refuse (cq X) (cD X) (cY X) (cB X) (d := d) (by omega) (rc_at (rc_self hk0)).2 e18) rfl rfl (by simp [cat_i, cat_l, cat_rf]) dX11_both_12 ?_
    cases h
    exact g_iret o hr hE dX11_both_15
theorem c_X11_both (l : Launch) (D : va_G) (Y : Nat → ClassId) (B : Nat) {d : Nat} {n : Nat} {K L : Nat → Nat} {fu : Nat} {M : Mm} {a0 : Nat} {v1 : Int32} {v2 : Int32} {v3 : Int32} {v4 : Int32} {r : (Int32 × Mm)} (hd : 130 ≤ d) (hk0 : K a0 = 11) (h : f_X11_both K L fu a0 v1 v2 v3 v4 M = some r) : mC l D Y B d yX11_both cX11_both 8 (some .int) [va_rf (some a0), .int v1, .int v2, .int v3, .int v4] n K L M n K L r.2 (some (.int r.1)) 0 0 := by
  obtain ⟨d, rfl⟩ : ∃ e, d = e + 1 := ⟨d - 1, by omega⟩
  refine mk_met (by decide) (by simp [lgs_r, lgs_i, lgs_l, lgs_n]) (fun X e1 e2 e3 e4 o hL hr hnm hz hc hs hE => ?_)
  subst e1 e2 e3 e4
  rw [show lv_args 0 [va_rf (some a0), .int v1, .int v2, .int v3, .int v4] = [(0, va_rf (some a0)), (1, .int v1), (2, .int v2), (3, .int v3), (4, .int v4)] by simp [lva_r, lva_i, lva_l, lva_n]]
  exact w_X11_both_0 o hL hr hz hk0 hE hd h
def f_X11_moves_107b (K L : Nat → Nat) (fu : Nat) (k107 : Int32 → Int32 → Int32 → Int32 → (Option Nat) → Int32 → Int32 → Mm → Option (Int32 × Mm)) (a0 : Nat) (v1 : Int32) (v2 : Int32) (v3 : Int32) (v4 : Int32) (v5 : (Option Nat)) (v7 : Int32) (v8 : Int32) (M : Mm) : Option (Int32 × Mm) :=
  if v4 ≤ v8 then
    some (v7, M)
  else
    Option.bind (rc K (mm_R M (32 * 11 + 3) a0) 1) (fun a1 =>
    Option.bind (f_X1_ask K L a1 (v3 + v8) M) (fun x3 =>
    Option.bind (rc K v5 9) (fun a5 =>
    Option.bind (f_X9_seatOf K L x3 a5 (v3 + v8)) (fun x7 =>
    Option.bind (rc K (mm_R x3 (32 * 9 + 4) a5) 7) (fun a9 =>
    Option.bind (f_X7_wouldMove K L x3 a9 x7 v2) (fun x11 =>
    if x11 = 0 then
      k107 v1 v2 v3 v4 v5 v7 (v8 + 1) x3
    else
      Option.bind (rc K (mm_R x3 (32 * 11 + 3) a0) 1) (fun a13 =>
      Option.bind (f_X1_whyAt K L fu (f_X1_wayAt K L fu 19) a13 (mm_R x3 (32 * 11 + 0) a0) v1 (0 : Int32) x3) (fun x15 =>
      if (x15.1) = 0 then
        k107 v1 v2 v3 v4 v5 (v7 + 1) (v8 + 1) (x15.2)
      else
        k107 v1 v2 v3 v4 v5 v7 (v8 + 1) (x15.2)))))))))
def f_X11_moves_107 (K L : Nat → Nat) (fu : Nat) (a0 : Nat) : Nat → Int32 → Int32 → Int32 → Int32 → (Option Nat) → Int32 → Int32 → Mm → Option (Int32 × Mm)
  | 0, _, _, _, _, _, _, _, _ => none
  | g + 1, v1, v2, v3, v4, v5, v7, v8, M => f_X11_moves_107b K L fu (f_X11_moves_107 K L fu a0 g) a0 v1 v2 v3 v4 v5 v7 v8 M
set_option maxHeartbeats 4000000 in
theorem w_X11_moves_107b {X : Cx} {d n : Nat} {K L : Nat → Nat} {fu : Nat} {a0 : Nat} {r : (Int32 × Mm)} {k107 : Int32 → Int32 → Int32 → Int32 → (Option Nat) → Int32 → Int32 → Mm → Option (Int32 × Mm)} {v1 : Int32} {v2 : Int32} {v3 : Int32} {v4 : Int32} {v5 : (Option Nat)} {v7 : Int32} {v8 : Int32} {M : Mm} (o : cOk X cX11_moves RX11 (d + 1)) (hL : cL X = 10) (hr : (ch X).sig.returnType = some .int) (hz : (cs X).heap.size + 0 = cB X + n) (hk0 : K a0 = 11) (hE : cE X n K L r.2 (some (.int r.1)) 0 0) (hk107 : ∀ (v1 : Int32) (v2 : Int32) (v3 : Int32) (v4 : Int32) (v5 : (Option Nat)) (v7 : Int32) (v8 : Int32) (M : Mm), k107 v1 v2 v3 v4 v5 v7 v8 M = some r → gW X 0 0 n K L M 107 [(0, va_rf (some a0)), (1, .int v1), (2, .int v2), (3, .int v3), (4, .int v4), (5, va_rf v5), (7, .int v7), (8, .int v8)] []) (hd : 130 ≤ d + 1) (h : f_X11_moves_107b K L fu k107 a0 v1 v2 v3 v4 v5 v7 v8 M = some r) : gW X 0 0 n K L M 107 [(0, va_rf (some a0)), (1, .int v1), (2, .int v2), (3, .int v3), (4, .int v4), (5, va_rf v5), (7, .int v7), (8, .int v8)] [] := by
  unfold f_X11_moves_107b at h
  refine g_iload o dX11_moves_107 7 rfl ?_
  refine g_iload o dX11_moves_109 4 rfl ?_
  refine g_icmp_ge (tgt := 175) o dX11_moves_111 (by decide) (fun z => ?_) (fun z => ?_)
  · have h := (if_pos z).symm.trans h
    refine g_iload o dX11_moves_175 6 rfl ?_
    cases h
    exact g_iret o hr hE dX11_moves_177
  · have h := (if_neg z).symm.trans h
    refine g_aload_n o dX11_moves_114 0 rfl ?_
    refine g_getR o fl_X11_26 (rc_self hk0) (by decide) rfl dX11_moves_115 ?_
    refine g_iload_n o dX11_moves_118 3 rfl ?_
    refine g_iload o dX11_moves_119 7 rfl ?_
    refine g_iadd o dX11_moves_121 ?_
    obtain ⟨a1, e2, h⟩ := ob h
    obtain ⟨x3, e4, h⟩ := ob h
    refine g_invV0 o e2 (by decide) ml_X11_75 kb_X1_ask kv_X1_ask rfl (c_X1_ask (cq X) (cD X) (cY X) (cB X) (d := d) (by omega) (rc_at e2).2 e4) rfl rfl (by simp [cat_i, cat_l, cat_rf]) dX11_moves_122 ?_
    refine g_aload o dX11_moves_125 5 rfl ?_
    obtain ⟨a5, e6, h⟩ := ob h
    refine g_getR o fl_X11_151 e6 (by decide) rfl dX11_moves_127 ?_
    refine g_aload o dX11_moves_130 5 rfl ?_
    refine g_iload_n o dX11_moves_132 3 rfl ?_
    refine g_iload o dX11_moves_133 7 rfl ?_
    refine g_iadd o dX11_moves_135 ?_
    obtain ⟨x7, e8, h⟩ := ob h
    refine g_invV0 o e6 (by decide) ml_X11_66 kb_X9_seatOf kv_X9_seatOf rfl (c_X9_seatOf (cq X) (cD X) (cY X) (cB X) (d := d) (by omega) (rc_at e6).2 e8) rfl rfl (by simp [cat_i, cat_l, cat_rf]) dX11_moves_136 ?_
    refine g_iload_n o dX11_moves_139 2 rfl ?_
    obtain ⟨a9, e10, h⟩ := ob h
    obtain ⟨x11, e12, h⟩ := ob h
    refine g_invV0 o e10 (by decide) ml_X11_351 kb_X7_wouldMove kv_X7_wouldMove rfl (c_X7_wouldMove (cq X) (cD X) (cY X) (cB X) (d := d) (by omega) (rc_at e10).2 e12) rfl rfl (by simp [cat_i, cat_l, cat_rf]) dX11_moves_140 ?_
    refine g_istore (i := 9) (ls' := [(9, .int x11), (0, va_rf (some a0)), (1, .int v1), (2, .int v2), (3, .int v3), (4, .int v4), (5, va_rf v5), (7, .int v7), (8, .int v8)]) o dX11_moves_143 (ltL hL (by decide)) rfl ?_
    refine g_iload o dX11_moves_145 0 rfl ?_
    refine g_if_eq (tgt := 169) o dX11_moves_147 (by decide) (fun z => ?_) (fun z => ?_)
    · have h := (if_pos z).symm.trans h
      refine g_iinc (i := 8) (v := v8 + 1) (ls' := [(8, .int (v8 + 1)), (9, .int x11), (0, va_rf (some a0)), (1, .int v1), (2, .int v2), (3, .int v3), (4, .int v4), (5, va_rf v5), (7, .int v7)]) o dX11_moves_169 8 rfl (by first | rfl | (congr 1)) (ltL hL (by decide)) rfl ?_
      refine g_goto (tgt := 107) o dX11_moves_172 (by decide) ?_
      refine gsub [2, 3, 4, 5, 6, 7, 8, 0] rfl ?_
      exact hk107 _ _ _ _ _ _ _ _ h
    · have h := (if_neg z).symm.trans h
      refine g_aload_n o dX11_moves_150 1 rfl ?_
      refine g_getR o fl_X11_26 (rc_self hk0) (by decide) rfl dX11_moves_151 ?_
      refine g_aload_n o dX11_moves_154 1 rfl ?_
      refine g_getR o fl_X11_10 (rc_self hk0) (by decide) rfl dX11_moves_155 ?_
      refine g_iload_n o dX11_moves_158 2 rfl ?_
      refine g_iconst (v := (0 : Int32)) o dX11_moves_159 (by decide) ?_
      obtain ⟨a13, e14, h⟩ := ob h
      obtain ⟨x15, e16, h⟩ := ob h
      refine g_invVN0 o e14 (by decide) mn_X11_83 kb_X1_whyAt kv_X1_whyAt rfl (c_X1_whyAt (cq X) (cD X) (cY X) (cB X) (d := d) (D0 := 107) (fun e he => cw_X1_wayAt _ _ _ _ 19 e (by omega)) (by omega) (by omega) (rc_at e14).2 e16) rfl rfl (by simp [cat_i, cat_l, cat_rf]) dX11_moves_160 ?_
      refine g_if_ne (tgt := 169) o dX11_moves_163 (by decide) (fun z => ?_) (fun z => ?_)
      · have h := (if_neg z).symm.trans h
        refine g_iinc (i := 8) (v := v8 + 1) (ls' := [(8, .int (v8 + 1)), (9, .int x11), (0, va_rf (some a0)), (1, .int v1), (2, .int v2), (3, .int v3), (4, .int v4), (5, va_rf v5), (7, .int v7)]) o dX11_moves_169 8 rfl (by first | rfl | (congr 1)) (ltL hL (by decide)) rfl ?_
        refine g_goto (tgt := 107) o dX11_moves_172 (by decide) ?_
        refine gsub [2, 3, 4, 5, 6, 7, 8, 0] rfl ?_
        exact hk107 _ _ _ _ _ _ _ _ h
      · have h := (if_pos z).symm.trans h
        refine g_iinc (i := 7) (v := v7 + 1) (ls' := [(7, .int (v7 + 1)), (9, .int x11), (0, va_rf (some a0)), (1, .int v1), (2, .int v2), (3, .int v3), (4, .int v4), (5, va_rf v5), (8, .int v8)]) o dX11_moves_166 7 rfl (by first | rfl | (congr 1)) (ltL hL (by decide)) rfl ?_
        refine g_iinc (i := 8) (v := v8 + 1) (ls' := [(8, .int (v8 + 1)), (7, .int (v7 + 1)), (9, .int x11), (0, va_rf (some a0)), (1, .int v1), (2, .int v2), (3, .int v3), (4, .int v4), (5, va_rf v5)]) o dX11_moves_169 8 rfl (by first | rfl | (congr 1)) (ltL hL (by decide)) rfl ?_
        refine g_goto (tgt := 107) o dX11_moves_172 (by decide) ?_
        refine gsub [3, 4, 5, 6, 7, 8, 1, 0] rfl ?_
        exact hk107 _ _ _ _ _ _ _ _ h
theorem w_X11_moves_107_n {X : Cx} {d n : Nat} {K L : Nat → Nat} {fu : Nat} {a0 : Nat} {r : (Int32 × Mm)} (o : cOk X cX11_moves RX11 (d + 1)) (hL : cL X = 10) (hr : (ch X).sig.returnType = some .int) (hz : (cs X).heap.size + 0 = cB X + n) (hk0 : K a0 = 11) (hE : cE X n K L r.2 (some (.int r.1)) 0 0) (hd : 130 ≤ d + 1) : ∀ (g : Nat) (v1 : Int32) (v2 : Int32) (v3 : Int32) (v4 : Int32) (v5 : (Option Nat)) (v7 : Int32) (v8 : Int32) (M : Mm), f_X11_moves_107 K L fu a0 g v1 v2 v3 v4 v5 v7 v8 M = some r → gW X 0 0 n K L M 107 [(0, va_rf (some a0)), (1, .int v1), (2, .int v2), (3, .int v3), (4, .int v4), (5, va_rf v5), (7, .int v7), (8, .int v8)] []
  | 0, _, _, _, _, _, _, _, _, h => by cases h
  | g + 1, v1, v2, v3, v4, v5, v7, v8, M, h => w_X11_moves_107b o hL hr hz hk0 hE (w_X11_moves_107_n o hL hr hz hk0 hE hd g) hd h
theorem w_X11_moves_107 {X : Cx} {d n : Nat} {K L : Nat → Nat} {fu : Nat} {a0 : Nat} {r : (Int32 × Mm)} {v1 : Int32} {v2 : Int32} {v3 : Int32} {v4 : Int32} {v5 : (Option Nat)} {v7 : Int32} {v8 : Int32} {M : Mm} (o : cOk X cX11_moves RX11 (d + 1)) (hL : cL X = 10) (hr : (ch X).sig.returnType = some .int) (hz : (cs X).heap.size + 0 = cB X + n) (hk0 : K a0 = 11) (hE : cE X n K L r.2 (some (.int r.1)) 0 0) (hd : 130 ≤ d + 1) (h : f_X11_moves_107 K L fu a0 fu v1 v2 v3 v4 v5 v7 v8 M = some r) : gW X 0 0 n K L M 107 [(0, va_rf (some a0)), (1, .int v1), (2, .int v2), (3, .int v3), (4, .int v4), (5, va_rf v5), (7, .int v7), (8, .int v8)] [] := w_X11_moves_107_n o hL hr hz hk0 hE hd fu v1 v2 v3 v4 v5 v7 v8 M h
def f_X11_moves (K L : Nat → Nat) (fu : Nat) (a0 : Nat) (v1 : Int32) (v2 : Int32) (v3 : Int32) (v4 : Int32) (M : Mm) : Option (Int32 × Mm) :=
  Option.bind (f_X11_within v3 (999999 : Int32)) (fun x1 =>
  if x1 = 0 then
    Option.bind (f_X11_refuse K L a0 (-3 : Int32) M) (fun x27 =>
    some (x27.1, x27.2))
  else
    Option.bind (rc K (mm_R M (32 * 11 + 0) a0) 8) (fun a3 =>
    Option.bind (f_X8_find K L M a3 v1 (31 : Int32)) (fun x5 =>
    if x5 = none then
      Option.bind (f_X11_refuseAt K L a0 v1 (31 : Int32) M) (fun x25 =>
      some (x25.1, x25.2))
    else
      Option.bind (f_X11_crowdFault v3 v4) (fun x7 =>
      if x7 = 0 then
        Option.bind (rc K x5 9) (fun a9 =>
        Option.bind (rc K (mm_R M (32 * 9 + 4) a9) 7) (fun a11 =>
        Option.bind (f_X7_firstOf K L M a11 (1 : Int32)) (fun x13 =>
        Option.bind (f_X7_fits K L fu M a11 (1 : Int32) x13 v2) (fun x15 =>
        if x15 = 0 then
          Option.bind (f_X11_refuse K L a0 (-12 : Int32) M) (fun x21 =>
          some (x21.1, x21.2))
        else
          Option.bind (rc K (mm_R M (32 * 11 + 3) a0) 1) (fun a17 =>
          Option.bind (f_X1_begin K L fu a17 (mm_R M (32 * 11 + 0) a0) M) (fun x19 =>
          f_X11_moves_107 K L fu a0 fu v1 v2 v3 v4 x5 (0 : Int32) (0 : Int32) x19))))))
      else
        Option.bind (f_X11_refuse K L a0 x7 M) (fun x23 =>
        some (x23.1, x23.2))))))
set_option maxHeartbeats 4000000 in
theorem w_X11_moves_0 {X : Cx} {d n : Nat} {K L : Nat → Nat} {fu : Nat} {a0 : Nat} {r : (Int32 × Mm)} {v1 : Int32} {v2 : Int32} {v3 : Int32} {v4 : Int32} {M : Mm} (o : cOk X cX11_moves RX11 (d + 1)) (hL : cL X = 10) (hr : (ch X).sig.returnType = some .int) (hz : (cs X).heap.size + 0 = cB X + n) (hk0 : K a0 = 11) (hE : cE X n K L r.2 (some (.int r.1)) 0 0) (hd : 130 ≤ d + 1) (h : f_X11_moves K L fu a0 v1 v2 v3 v4 M = some r) : gW X 0 0 n K L M 0 [(0, va_rf (some a0)), (1, .int v1), (2, .int v2), (3, .int v3), (4, .int v4)] [] := by
  unfold f_X11_moves at h
  refine g_iload_n o dX11_moves_0 3 rfl ?_
  refine g_ldc (v := (999999 : Int32)) o kc_X11_41 dX11_moves_1 ?_
  obtain ⟨x1, e2, h⟩ := ob h
  refine g_invS0 o ml_X11_42 kb_X11_within ks_X11_within (c_X11_within (cq X) (cD X) (cY X) (cB X) (d := d) (by omega) e2) rfl rfl (by simp [cat_i, cat_l, cat_rf]) dX11_moves_3 ?_
  refine g_if_ne (tgt := 16) o dX11_moves_6 (by decide) (fun z => ?_) (fun z => ?_)
  · have h := (if_neg z).symm.trans h
    refine g_aload_n o dX11_moves_16 0 rfl ?_
    refine g_getR o fl_X11_10 (rc_self hk0) (by decide) rfl dX11_moves_17 ?_
    refine g_iload_n o dX11_moves_20 1 rfl ?_
    refine g_bipush (v := (31 : Int32)) o dX11_moves_21 (by decide) ?_
    obtain ⟨a3, e4, h⟩ := ob h
    obtain ⟨x5, e6, h⟩ := ob h
    refine g_invV0 o e4 (by decide) ml_X11_54 kb_X8_find kv_X8_find rfl (c_X8_find (cq X) (cD X) (cY X) (cB X) (d := d) (by omega) (rc_at e4).2 e6) rfl rfl (by simp [cat_i, cat_l, cat_rf]) dX11_moves_23 ?_
    refine g_astore (i := 5) (ls' := [(5, va_rf x5), (0, va_rf (some a0)), (1, .int v1), (2, .int v2), (3, .int v3), (4, .int v4)]) o dX11_moves_26 (ltL hL (by decide)) rfl ?_
    refine g_aload o dX11_moves_28 0 rfl ?_
    refine g_ifnonnull (tgt := 41) o dX11_moves_30 (by decide) (fun z => ?_) (fun z => ?_)
    · have h := (if_neg z).symm.trans h
      refine g_iload_n o dX11_moves_41 4 rfl ?_
      refine g_iload o dX11_moves_42 5 rfl ?_
      obtain ⟨x7, e8, h⟩ := ob h
      refine g_invS0 o ml_X11_348 kb_X11_crowdFault ks_X11_crowdFault (c_X11_crowdFault (cq X) (cD X) (cY X) (cB X) (d := d) (by omega) e8) rfl rfl (by simp [cat_i, cat_l, cat_rf]) dX11_moves_44 ?_
      refine g_istore (i := 6) (ls' := [(6, .int x7), (5, va_rf x5), (0, va_rf (some a0)), (1, .int v1), (2, .int v2), (3, .int v3), (4, .int v4)]) o dX11_moves_47 (ltL hL (by decide)) (by simp [cat_rf]) ?_
      refine g_iload o dX11_moves_49 0 rfl ?_
      refine g_if_eq (tgt := 61) o dX11_moves_51 (by decide) (fun z => ?_) (fun z => ?_)
      · have h := (if_pos z).symm.trans h
        refine g_aload o dX11_moves_61 1 rfl ?_
        obtain ⟨a9, e10, h⟩ := ob h
        refine g_getR o fl_X11_151 e10 (by decide) rfl dX11_moves_63 ?_
        refine g_iconst (v := (1 : Int32)) o dX11_moves_66 (by decide) ?_
        refine g_aload o dX11_moves_67 1 rfl ?_
        refine g_getR o fl_X11_151 e10 (by decide) rfl dX11_moves_69 ?_
        refine g_iconst (v := (1 : Int32)) o dX11_moves_72 (by decide) ?_
        obtain ⟨a11, e12, h⟩ := ob h
        obtain ⟨x13, e14, h⟩ := ob h
        refine g_invV0 o e12 (by decide) ml_X11_167 kb_X7_firstOf kv_X7_firstOf rfl (c_X7_firstOf (cq X) (cD X) (cY X) (cB X) (d := d) (by omega) (rc_at e12).2 e14) rfl rfl (by simp [cat_i, cat_l, cat_rf]) dX11_moves_73 ?_
        refine g_iload_n o dX11_moves_76 4 rfl ?_
        obtain ⟨x15, e16, h⟩ := ob h
        refine g_invV0 o e12 (by decide) ml_X11_155 kb_X7_fits kv_X7_fits rfl (c_X7_fits (cq X) (cD X) (cY X) (cB X) (d := d) (by omega) (rc_at e12).2 e16) rfl rfl (by simp [cat_i, cat_l, cat_rf]) dX11_moves_77 ?_
        refine g_if_ne (tgt := 90) o dX11_moves_80 (by decide) (fun z => ?_) (fun z => ?_)
        · have h := (if_neg z).symm.trans h
          refine g_aload_n o dX11_moves_90 2 rfl ?_
          refine g_getR o fl_X11_26 (rc_self hk0) (by decide) rfl dX11_moves_91 ?_
          refine g_aload_n o dX11_moves_94 2 rfl ?_
          refine g_getR o fl_X11_10 (rc_self hk0) (by decide) rfl dX11_moves_95 ?_
          obtain ⟨a17, e18, h⟩ := ob h
          obtain ⟨x19, e20, h⟩ := ob h
          refine g_invV0 o e18 (by decide) ml_X11_71 kb_X1_begin kv_X1_begin rfl (c_X1_begin (cq X) (cD X) (cY X) (cB X) (d := d) (by omega) (rc_at e18).2 e20) rfl rfl (by simp [cat_i, cat_l, cat_rf]) dX11_moves_98 ?_
          refine g_iconst (v := (0 : Int32)) o dX11_moves_101 (by decide) ?_
          refine g_istore (i := 7) (ls' := [(7, .int (0 : Int32)), (6, .int x7), (5, va_rf x5), (0, va_rf (some a0)), (1, .int v1), (2, .int v2), (3, .int v3), (4, .int v4)]) o dX11_moves_102 (ltL hL (by decide)) rfl ?_
          refine g_iconst (v := (0 : Int32)) o dX11_moves_104 (by decide) ?_
          refine g_istore (i := 8) (ls' := [(8, .int (0 : Int32)), (7, .int (0 : Int32)), (6, .int x7), (5, va_rf x5), (0, va_rf (some a0)), (1, .int v1), (2, .int v2), (3, .int v3), (4, .int v4)]) o dX11_moves_105 (ltL hL (by decide)) rfl ?_
          refine gsub [4, 5, 6, 7, 8, 3, 1, 0] rfl ?_
          exact w_X11_moves_107 o hL hr hz hk0 hE hd h
        · have h := (if_pos z).symm.trans h
          refine g_aload_n o dX11_moves_83 2 rfl ?_
          refine g_bipush (v := (-12 : Int32)) o dX11_moves_84 (by decide) ?_
          obtain ⟨x21, e22, h⟩ := ob h
          refine g_invV0 o (rc_self hk0) (by decide) ml_X11_46 kb_X11_refuse kv_X11_refuse rfl (c_X11_refuse (cq X) (cD X) (cY X) (cB X) (d := d) (by omega) (rc_at (rc_self hk0)).2 e22) rfl rfl (by simp [cat_i, cat_l, cat_rf]) dX11_moves_86 ?_
          cases h
          exact g_iret o hr hE dX11_moves_89
      · have h := (if_neg z).symm.trans h
        refine g_aload_n o dX11_moves_54 2 rfl ?_
        refine g_iload o dX11_moves_55 0 rfl ?_
        obtain ⟨x23, e24, h⟩ := ob h
        refine g_invV0 o (rc_self hk0) (by decide) ml_X11_46 kb_X11_refuse kv_X11_refuse rfl (c_X11_refuse (cq X) (cD X) (cY X) (cB X) (d := d) (by omega) (rc_at (rc_self hk0)).2 e24) rfl rfl (by simp [cat_i, cat_l, cat_rf]) dX11_moves_57 ?_
        cases h
        exact g_iret o hr hE dX11_moves_60
    · have h := (if_pos z).symm.trans h
      refine g_aload_n o dX11_moves_33 1 rfl ?_
      refine g_iload_n o dX11_moves_34 2 rfl ?_
      refine g_bipush (v := (31 : Int32)) o dX11_moves_35 (by decide) ?_
      obtain ⟨x25, e26, h⟩ := ob h
      refine g_invV0 o (rc_self hk0) (by decide) ml_X11_58 kb_X11_refuseAt kv_X11_refuseAt rfl (c_X11_refuseAt (cq X) (cD X) (cY X) (cB X) (d := d) (by omega) (rc_at (rc_self hk0)).2 e26) rfl rfl (by simp [cat_i, cat_l, cat_rf]) dX11_moves_37 ?_
      cases h
      exact g_iret o hr hE dX11_moves_40
  · have h := (if_pos z).symm.trans h
    refine g_aload_n o dX11_moves_9 0 rfl ?_
    refine g_bipush (v := (-3 : Int32)) o dX11_moves_10 (by decide) ?_
    obtain ⟨x27, e28, h⟩ := ob h
    refine g_invV0 o (rc_self hk0) (by decide) ml_X11_46 kb_X11_refuse kv_X11_refuse rfl (c_X11_refuse (cq X) (cD X) (cY X) (cB X) (d := d) (by omega) (rc_at (rc_self hk0)).2 e28) rfl rfl (by simp [cat_i, cat_l, cat_rf]) dX11_moves_12 ?_
    cases h
    exact g_iret o hr hE dX11_moves_15
theorem c_X11_moves (l : Launch) (D : va_G) (Y : Nat → ClassId) (B : Nat) {d : Nat} {n : Nat} {K L : Nat → Nat} {fu : Nat} {M : Mm} {a0 : Nat} {v1 : Int32} {v2 : Int32} {v3 : Int32} {v4 : Int32} {r : (Int32 × Mm)} (hd : 130 ≤ d) (hk0 : K a0 = 11) (h : f_X11_moves K L fu a0 v1 v2 v3 v4 M = some r) : mC l D Y B d yX11_moves cX11_moves 10 (some .int) [va_rf (some a0), .int v1, .int v2, .int v3, .int v4] n K L M n K L r.2 (some (.int r.1)) 0 0 := by
  obtain ⟨d, rfl⟩ : ∃ e, d = e + 1 := ⟨d - 1, by omega⟩
  refine mk_met (by decide) (by simp [lgs_r, lgs_i, lgs_l, lgs_n]) (fun X e1 e2 e3 e4 o hL hr hnm hz hc hs hE => ?_)
  subst e1 e2 e3 e4
  rw [show lv_args 0 [va_rf (some a0), .int v1, .int v2, .int v3, .int v4] = [(0, va_rf (some a0)), (1, .int v1), (2, .int v2), (3, .int v3), (4, .int v4)] by simp [lva_r, lva_i, lva_l, lva_n]]
  exact w_X11_moves_0 o hL hr hz hk0 hE hd h
def f_X11_status (K L : Nat → Nat) (a0 : Nat) (v1 : Int32) (M : Mm) : Option (Int32 × Mm) :=
  Option.bind (f_X11_isRefusal v1) (fun x1 =>
  if x1 = 0 then
    Option.bind (f_X11_refuse K L a0 (-12 : Int32) M) (fun x5 =>
    some (x5.1, x5.2))
  else
    Option.bind (rx K L (mm_R M (32 * 11 + 5) a0) 13 (-v1)) (fun a3 =>
    some (mm_A M a3 (-v1).toNatClampNeg, M)))
set_option maxHeartbeats 4000000 in
theorem w_X11_status_0 {X : Cx} {d n : Nat} {K L : Nat → Nat} {a0 : Nat} {r : (Int32 × Mm)} {v1 : Int32} {M : Mm} (o : cOk X cX11_status RX11 (d + 1)) (hL : cL X = 2) (hr : (ch X).sig.returnType = some .int) (hz : (cs X).heap.size + 0 = cB X + n) (hk0 : K a0 = 11) (hE : cE X n K L r.2 (some (.int r.1)) 0 0) (hd : 2 ≤ d + 1) (h : f_X11_status K L a0 v1 M = some r) : gW X 0 0 n K L M 0 [(0, va_rf (some a0)), (1, .int v1)] [] := by
  unfold f_X11_status at h
  refine g_iload_n o dX11_status_0 1 rfl ?_
  obtain ⟨x1, e2, h⟩ := ob h
  refine g_invS0 o ml_X11_360 kb_X11_isRefusal ks_X11_isRefusal (c_X11_isRefusal (cq X) (cD X) (cY X) (cB X) (d := d) (by omega) e2) rfl rfl (by simp [cat_i, cat_l, cat_rf]) dX11_status_1 ?_
  refine g_if_ne (tgt := 14) o dX11_status_4 (by decide) (fun z => ?_) (fun z => ?_)
  · have h := (if_neg z).symm.trans h
    refine g_aload_n o dX11_status_14 0 rfl ?_
    refine g_getR o fl_X11_37 (rc_self hk0) (by decide) rfl dX11_status_15 ?_
    refine g_iload_n o dX11_status_18 1 rfl ?_
    refine g_ineg o dX11_status_19 ?_
    obtain ⟨a3, e4, h⟩ := ob h
    refine g_iald o e4 dX11_status_20 ?_
    cases h
    exact g_iret o hr hE dX11_status_21
  · have h := (if_pos z).symm.trans h
    refine g_aload_n o dX11_status_7 0 rfl ?_
    refine g_bipush (v := (-12 : Int32)) o dX11_status_8 (by decide) ?_
    obtain ⟨x5, e6, h⟩ := ob h
    refine g_invV0 o (rc_self hk0) (by decide) ml_X11_46 kb_X11_refuse kv_X11_refuse rfl (c_X11_refuse (cq X) (cD X) (cY X) (cB X) (d := d) (by omega) (rc_at (rc_self hk0)).2 e6) rfl rfl (by simp [cat_i, cat_l, cat_rf]) dX11_status_10 ?_
    cases h
    exact g_iret o hr hE dX11_status_13
theorem c_X11_status (l : Launch) (D : va_G) (Y : Nat → ClassId) (B : Nat) {d : Nat} {n : Nat} {K L : Nat → Nat} {M : Mm} {a0 : Nat} {v1 : Int32} {r : (Int32 × Mm)} (hd : 2 ≤ d) (hk0 : K a0 = 11) (h : f_X11_status K L a0 v1 M = some r) : mC l D Y B d yX11_status cX11_status 2 (some .int) [va_rf (some a0), .int v1] n K L M n K L r.2 (some (.int r.1)) 0 0 := by
  obtain ⟨d, rfl⟩ : ∃ e, d = e + 1 := ⟨d - 1, by omega⟩
  refine mk_met (by decide) (by simp [lgs_r, lgs_i, lgs_l, lgs_n]) (fun X e1 e2 e3 e4 o hL hr hnm hz hc hs hE => ?_)
  subst e1 e2 e3 e4
  rw [show lv_args 0 [va_rf (some a0), .int v1] = [(0, va_rf (some a0)), (1, .int v1)] by simp [lva_r, lva_i, lva_l, lva_n]]
  exact w_X11_status_0 o hL hr hz hk0 hE hd h
def f_X12_isIn  (v0 : Int64) (v2 : Int64) (v4 : Int64) : Option Int32 :=
  if (lg_cmp v0 v2) < 0 then
    some (0 : Int32)
  else
    if 0 < (lg_cmp v0 v4) then
      some (0 : Int32)
    else
      some (1 : Int32)
set_option maxHeartbeats 4000000 in
theorem w_X12_isIn_0 {X : Cx} {d n : Nat} {K L : Nat → Nat} {M : Mm} {r : Int32} {v0 : Int64} {v2 : Int64} {v4 : Int64} (o : cOk X cX12_isIn RX12 d) (hL : cL X = 6) (hr : (ch X).sig.returnType = some .boolean) (hE : cE X n K L M (some (.int r)) 0 0) (h : f_X12_isIn  v0 v2 v4 = some r) : gW X 0 0 n K L M 0 [(0, .long v0), (2, .long v2), (4, .long v4)] [] := by
  unfold f_X12_isIn at h
  refine g_lload_n o dX12_isIn_0 0 rfl ?_
  refine g_lload_n o dX12_isIn_1 1 rfl ?_
  refine g_lcmp o dX12_isIn_2 ?_
  refine g_if_lt (tgt := 17) o dX12_isIn_3 (by decide) (fun z => ?_) (fun z => ?_)
  · have h := (if_pos z).symm.trans h
    refine g_iconst (v := (0 : Int32)) o dX12_isIn_17 (by decide) ?_
    cases h
    exact g_zret o hr (by decide) hE dX12_isIn_18
  · have h := (if_neg z).symm.trans h
    refine g_lload_n o dX12_isIn_6 0 rfl ?_
    refine g_lload o dX12_isIn_7 2 rfl ?_
    refine g_lcmp o dX12_isIn_9 ?_
    refine g_if_gt (tgt := 17) o dX12_isIn_10 (by decide) (fun z => ?_) (fun z => ?_)
    · have h := (if_pos z).symm.trans h
      refine g_iconst (v := (0 : Int32)) o dX12_isIn_17 (by decide) ?_
      cases h
      exact g_zret o hr (by decide) hE dX12_isIn_18
    · have h := (if_neg z).symm.trans h
      refine g_iconst (v := (1 : Int32)) o dX12_isIn_13 (by decide) ?_
      refine g_goto (tgt := 18) o dX12_isIn_14 (by decide) ?_
      cases h
      exact g_zret o hr (by decide) hE dX12_isIn_18
theorem c_X12_isIn (l : Launch) (D : va_G) (Y : Nat → ClassId) (B : Nat) {d : Nat} {n : Nat} {K L : Nat → Nat} {M : Mm} {v0 : Int64} {v2 : Int64} {v4 : Int64} {r : Int32} (hd : 0 ≤ d) (h : f_X12_isIn  v0 v2 v4 = some r) : mC l D Y B d yX12_isIn cX12_isIn 6 (some .boolean) [.long v0, .long v2, .long v4] n K L M n K L M (some (.int r)) 0 0 := by
  refine mk_met (by decide) (by simp [lgs_r, lgs_i, lgs_l, lgs_n]) (fun X e1 e2 e3 e4 o hL hr hnm hz hc hs hE => ?_)
  subst e1 e2 e3 e4
  rw [show lv_args 0 [.long v0, .long v2, .long v4] = [(0, .long v0), (2, .long v2), (4, .long v4)] by simp [lva_r, lva_i, lva_l, lva_n]]
  exact w_X12_isIn_0 o hL hr hE h
def f_X12_no (K L : Nat → Nat) (a0 : Nat) (v1 : Int32) (M : Mm) : Option (Int32 × Mm) :=
  Option.bind (rx K L (mm_R M (32 * 12 + 5) a0) 13 (-v1)) (fun a1 =>
  bn (ms_A M a1 (upd (mm_A M a1) (-v1).toNatClampNeg ((mm_A M a1 (-v1).toNatClampNeg) + (1 : Int32)))) (fun M3 =>
  some (v1, M3)))
set_option maxHeartbeats 4000000 in
theorem w_X12_no_0 {X : Cx} {d n : Nat} {K L : Nat → Nat} {a0 : Nat} {r : (Int32 × Mm)} {v1 : Int32} {M : Mm} (o : cOk X cX12_no RX12 d) (hL : cL X = 2) (hr : (ch X).sig.returnType = some .int) (hz : (cs X).heap.size + 0 = cB X + n) (hk0 : K a0 = 12) (hE : cE X n K L r.2 (some (.int r.1)) 0 0) (h : f_X12_no K L a0 v1 M = some r) : gW X 0 0 n K L M 0 [(0, va_rf (some a0)), (1, .int v1)] [] := by
  unfold f_X12_no at h
  refine g_aload_n o dX12_no_0 0 rfl ?_
  refine g_getR o fl_X12_24 (rc_self hk0) (by decide) rfl dX12_no_1 ?_
  refine g_iload_n o dX12_no_4 1 rfl ?_
  refine g_ineg o dX12_no_5 ?_
  refine g_dup2 o dX12_no_6 rfl (cat_rf _) ?_
  obtain ⟨a1, e2, h⟩ := ob h
  refine g_iald o e2 dX12_no_7 ?_
  refine g_iconst (v := (1 : Int32)) o dX12_no_8 (by decide) ?_
  refine g_iadd o dX12_no_9 ?_
  refine g_iast o hz e2  dX12_no_10 ?_
  obtain ⟨M3, e4, h⟩ := bn_at h
  refine g_mem e4 ?_
  refine g_iload_n o dX12_no_11 1 rfl ?_
  cases h
  exact g_iret o hr hE dX12_no_12
theorem c_X12_no (l : Launch) (D : va_G) (Y : Nat → ClassId) (B : Nat) {d : Nat} {n : Nat} {K L : Nat → Nat} {M : Mm} {a0 : Nat} {v1 : Int32} {r : (Int32 × Mm)} (hd : 0 ≤ d) (hk0 : K a0 = 12) (h : f_X12_no K L a0 v1 M = some r) : mC l D Y B d yX12_no cX12_no 2 (some .int) [va_rf (some a0), .int v1] n K L M n K L r.2 (some (.int r.1)) 0 0 := by
  refine mk_met (by decide) (by simp [lgs_r, lgs_i, lgs_l, lgs_n]) (fun X e1 e2 e3 e4 o hL hr hnm hz hc hs hE => ?_)
  subst e1 e2 e3 e4
  rw [show lv_args 0 [va_rf (some a0), .int v1] = [(0, va_rf (some a0)), (1, .int v1)] by simp [lva_r, lva_i, lva_l, lva_n]]
  exact w_X12_no_0 o hL hr hz hk0 hE h
def f_X12_of (K L : Nat → Nat) (M : Mm) (a0 : Nat) (v1 : Int32) (v2 : Int32) : Option Int32 :=
  Option.bind (rx K L (mm_R M (32 * 12 + 0) a0) 13 (((3940 : Int32) * v1) + v2)) (fun a1 =>
  some (mm_A M a1 (((3940 : Int32) * v1) + v2).toNatClampNeg))
set_option maxHeartbeats 4000000 in
theorem w_X12_of_0 {X : Cx} {d n : Nat} {K L : Nat → Nat} {M : Mm} {a0 : Nat} {r : Int32} {v1 : Int32} {v2 : Int32} (o : cOk X cX12_of RX12 d) (hL : cL X = 3) (hr : (ch X).sig.returnType = some .int) (hk0 : K a0 = 12) (hE : cE X n K L M (some (.int r)) 0 0) (h : f_X12_of K L M a0 v1 v2 = some r) : gW X 0 0 n K L M 0 [(0, va_rf (some a0)), (1, .int v1), (2, .int v2)] [] := by
  unfold f_X12_of at h
  refine g_aload_n o dX12_of_0 0 rfl ?_
  refine g_getR o fl_X12_8 (rc_self hk0) (by decide) rfl dX12_of_1 ?_
  refine g_sipush (v := (3940 : Int32)) o dX12_of_4 (by decide) ?_
  refine g_iload_n o dX12_of_7 1 rfl ?_
  refine g_imul o dX12_of_8 ?_
  refine g_iload_n o dX12_of_9 2 rfl ?_
  refine g_iadd o dX12_of_10 ?_
  obtain ⟨a1, e2, h⟩ := ob h
  refine g_iald o e2 dX12_of_11 ?_
  cases h
  exact g_iret o hr hE dX12_of_12
theorem c_X12_of (l : Launch) (D : va_G) (Y : Nat → ClassId) (B : Nat) {d : Nat} {n : Nat} {K L : Nat → Nat} {M : Mm} {a0 : Nat} {v1 : Int32} {v2 : Int32} {r : Int32} (hd : 0 ≤ d) (hk0 : K a0 = 12) (h : f_X12_of K L M a0 v1 v2 = some r) : mC l D Y B d yX12_of cX12_of 3 (some .int) [va_rf (some a0), .int v1, .int v2] n K L M n K L M (some (.int r)) 0 0 := by
  refine mk_met (by decide) (by simp [lgs_r, lgs_i, lgs_l, lgs_n]) (fun X e1 e2 e3 e4 o hL hr hnm hz hc hs hE => ?_)
  subst e1 e2 e3 e4
  rw [show lv_args 0 [va_rf (some a0), .int v1, .int v2] = [(0, va_rf (some a0)), (1, .int v1), (2, .int v2)] by simp [lva_r, lva_i, lva_l, lva_n]]
  exact w_X12_of_0 o hL hr hk0 hE h
def f_X12_to (K L : Nat → Nat) (a0 : Nat) (v1 : Int32) (v2 : Int32) (v3 : Int32) (M : Mm) : Option Mm :=
  Option.bind (rx K L (mm_R M (32 * 12 + 0) a0) 13 (((3940 : Int32) * v1) + v2)) (fun a1 =>
  bn (ms_A M a1 (upd (mm_A M a1) (((3940 : Int32) * v1) + v2).toNatClampNeg v3)) (fun M3 =>
  some M3))
set_option maxHeartbeats 4000000 in
theorem w_X12_to_0 {X : Cx} {d n : Nat} {K L : Nat → Nat} {a0 : Nat} {r : Mm} {v1 : Int32} {v2 : Int32} {v3 : Int32} {M : Mm} (o : cOk X cX12_to RX12 d) (hL : cL X = 4) (hr : (ch X).sig.returnType = none) (hz : (cs X).heap.size + 0 = cB X + n) (hk0 : K a0 = 12) (hE : cE X n K L r none 0 0) (h : f_X12_to K L a0 v1 v2 v3 M = some r) : gW X 0 0 n K L M 0 [(0, va_rf (some a0)), (1, .int v1), (2, .int v2), (3, .int v3)] [] := by
  unfold f_X12_to at h
  refine g_aload_n o dX12_to_0 0 rfl ?_
  refine g_getR o fl_X12_8 (rc_self hk0) (by decide) rfl dX12_to_1 ?_
  refine g_sipush (v := (3940 : Int32)) o dX12_to_4 (by decide) ?_
  refine g_iload_n o dX12_to_7 1 rfl ?_
  refine g_imul o dX12_to_8 ?_
  refine g_iload_n o dX12_to_9 2 rfl ?_
  refine g_iadd o dX12_to_10 ?_
  refine g_iload_n o dX12_to_11 3 rfl ?_
  obtain ⟨a1, e2, h⟩ := ob h
  refine g_iast o hz e2  dX12_to_12 ?_
  obtain ⟨M3, e4, h⟩ := bn_at h
  refine g_mem e4 ?_
  cases h
  exact g_vret o hr hE dX12_to_13
theorem c_X12_to (l : Launch) (D : va_G) (Y : Nat → ClassId) (B : Nat) {d : Nat} {n : Nat} {K L : Nat → Nat} {M : Mm} {a0 : Nat} {v1 : Int32} {v2 : Int32} {v3 : Int32} {r : Mm} (hd : 0 ≤ d) (hk0 : K a0 = 12) (h : f_X12_to K L a0 v1 v2 v3 M = some r) : mC l D Y B d yX12_to cX12_to 4 (none) [va_rf (some a0), .int v1, .int v2, .int v3] n K L M n K L r none 0 0 := by
  refine mk_met (by decide) (by simp [lgs_r, lgs_i, lgs_l, lgs_n]) (fun X e1 e2 e3 e4 o hL hr hnm hz hc hs hE => ?_)
  subst e1 e2 e3 e4
  rw [show lv_args 0 [va_rf (some a0), .int v1, .int v2, .int v3] = [(0, va_rf (some a0)), (1, .int v1), (2, .int v2), (3, .int v3)] by simp [lva_r, lva_i, lva_l, lva_n]]
  exact w_X12_to_0 o hL hr hz hk0 hE h
def f_X12_isPlace  (v0 : Int32) : Option Int32 :=
  if v0 < 0 then
    some (0 : Int32)
  else
    if (16 : Int32) ≤ v0 then
      some (0 : Int32)
    else
      some (1 : Int32)
set_option maxHeartbeats 4000000 in
theorem w_X12_isPlace_0 {X : Cx} {d n : Nat} {K L : Nat → Nat} {M : Mm} {r : Int32} {v0 : Int32} (o : cOk X cX12_isPlace RX12 d) (hL : cL X = 1) (hr : (ch X).sig.returnType = some .boolean) (hE : cE X n K L M (some (.int r)) 0 0) (h : f_X12_isPlace  v0 = some r) : gW X 0 0 n K L M 0 [(0, .int v0)] [] := by
  unfold f_X12_isPlace at h
  refine g_iload_n o dX12_isPlace_0 0 rfl ?_
  refine g_if_lt (tgt := 14) o dX12_isPlace_1 (by decide) (fun z => ?_) (fun z => ?_)
  · have h := (if_pos z).symm.trans h
    refine g_iconst (v := (0 : Int32)) o dX12_isPlace_14 (by decide) ?_
    cases h
    exact g_zret o hr (by decide) hE dX12_isPlace_15
  · have h := (if_neg z).symm.trans h
    refine g_iload_n o dX12_isPlace_4 0 rfl ?_
    refine g_bipush (v := (16 : Int32)) o dX12_isPlace_5 (by decide) ?_
    refine g_icmp_ge (tgt := 14) o dX12_isPlace_7 (by decide) (fun z => ?_) (fun z => ?_)
    · have h := (if_pos z).symm.trans h
      refine g_iconst (v := (0 : Int32)) o dX12_isPlace_14 (by decide) ?_
      cases h
      exact g_zret o hr (by decide) hE dX12_isPlace_15
    · have h := (if_neg z).symm.trans h
      refine g_iconst (v := (1 : Int32)) o dX12_isPlace_10 (by decide) ?_
      refine g_goto (tgt := 15) o dX12_isPlace_11 (by decide) ?_
      cases h
      exact g_zret o hr (by decide) hE dX12_isPlace_15
theorem c_X12_isPlace (l : Launch) (D : va_G) (Y : Nat → ClassId) (B : Nat) {d : Nat} {n : Nat} {K L : Nat → Nat} {M : Mm} {v0 : Int32} {r : Int32} (hd : 0 ≤ d) (h : f_X12_isPlace  v0 = some r) : mC l D Y B d yX12_isPlace cX12_isPlace 1 (some .boolean) [.int v0] n K L M n K L M (some (.int r)) 0 0 := by
  refine mk_met (by decide) (by simp [lgs_r, lgs_i, lgs_l, lgs_n]) (fun X e1 e2 e3 e4 o hL hr hnm hz hc hs hE => ?_)
  subst e1 e2 e3 e4
  rw [show lv_args 0 [.int v0] = [(0, .int v0)] by simp [lva_r, lva_i, lva_l, lva_n]]
  exact w_X12_isPlace_0 o hL hr hE h
def f_X12_isSwitch (K L : Nat → Nat) (M : Mm) (a0 : Nat) (v1 : Int32) : Option Int32 :=
  Option.bind (f_X12_of K L M a0 v1 (0 : Int32)) (fun x1 =>
  if x1 < (1 : Int32) then
    some (0 : Int32)
  else
    Option.bind (f_X12_of K L M a0 v1 (0 : Int32)) (fun x3 =>
    if (5 : Int32) < x3 then
      some (0 : Int32)
    else
      some (1 : Int32)))
set_option maxHeartbeats 4000000 in
theorem w_X12_isSwitch_0 {X : Cx} {d n : Nat} {K L : Nat → Nat} {M : Mm} {a0 : Nat} {r : Int32} {v1 : Int32} (o : cOk X cX12_isSwitch RX12 (d + 1)) (hL : cL X = 2) (hr : (ch X).sig.returnType = some .boolean) (hk0 : K a0 = 12) (hE : cE X n K L M (some (.int r)) 0 0) (hd : 1 ≤ d + 1) (h : f_X12_isSwitch K L M a0 v1 = some r) : gW X 0 0 n K L M 0 [(0, va_rf (some a0)), (1, .int v1)] [] := by
  unfold f_X12_isSwitch at h
  refine g_aload_n o dX12_isSwitch_0 0 rfl ?_
  refine g_iload_n o dX12_isSwitch_1 1 rfl ?_
  refine g_iconst (v := (0 : Int32)) o dX12_isSwitch_2 (by decide) ?_
  obtain ⟨x1, e2, h⟩ := ob h
  refine g_invV0 o (rc_self hk0) (by decide) ml_X12_43 kb_X12_of kv_X12_of rfl (c_X12_of (cq X) (cD X) (cY X) (cB X) (d := d) (by omega) (rc_at (rc_self hk0)).2 e2) rfl rfl (by simp [cat_i, cat_l, cat_rf]) dX12_isSwitch_3 ?_
  refine g_iconst (v := (1 : Int32)) o dX12_isSwitch_6 (by decide) ?_
  refine g_icmp_lt (tgt := 24) o dX12_isSwitch_7 (by decide) (fun z => ?_) (fun z => ?_)
  · have h := (if_pos z).symm.trans h
    refine g_iconst (v := (0 : Int32)) o dX12_isSwitch_24 (by decide) ?_
    cases h
    exact g_zret o hr (by decide) hE dX12_isSwitch_25
  · have h := (if_neg z).symm.trans h
    refine g_aload_n o dX12_isSwitch_10 0 rfl ?_
    refine g_iload_n o dX12_isSwitch_11 1 rfl ?_
    refine g_iconst (v := (0 : Int32)) o dX12_isSwitch_12 (by decide) ?_
    obtain ⟨x3, e4, h⟩ := ob h
    refine g_invV0 o (rc_self hk0) (by decide) ml_X12_43 kb_X12_of kv_X12_of rfl (c_X12_of (cq X) (cD X) (cY X) (cB X) (d := d) (by omega) (rc_at (rc_self hk0)).2 e4) rfl rfl (by simp [cat_i, cat_l, cat_rf]) dX12_isSwitch_13 ?_
    refine g_iconst (v := (5 : Int32)) o dX12_isSwitch_16 (by decide) ?_
    refine g_icmp_gt (tgt := 24) o dX12_isSwitch_17 (by decide) (fun z => ?_) (fun z => ?_)
    · have h := (if_pos z).symm.trans h
      refine g_iconst (v := (0 : Int32)) o dX12_isSwitch_24 (by decide) ?_
      cases h
      exact g_zret o hr (by decide) hE dX12_isSwitch_25
    · have h := (if_neg z).symm.trans h
      refine g_iconst (v := (1 : Int32)) o dX12_isSwitch_20 (by decide) ?_
      refine g_goto (tgt := 25) o dX12_isSwitch_21 (by decide) ?_
      cases h
      exact g_zret o hr (by decide) hE dX12_isSwitch_25
theorem c_X12_isSwitch (l : Launch) (D : va_G) (Y : Nat → ClassId) (B : Nat) {d : Nat} {n : Nat} {K L : Nat → Nat} {M : Mm} {a0 : Nat} {v1 : Int32} {r : Int32} (hd : 1 ≤ d) (hk0 : K a0 = 12) (h : f_X12_isSwitch K L M a0 v1 = some r) : mC l D Y B d yX12_isSwitch cX12_isSwitch 2 (some .boolean) [va_rf (some a0), .int v1] n K L M n K L M (some (.int r)) 0 0 := by
  obtain ⟨d, rfl⟩ : ∃ e, d = e + 1 := ⟨d - 1, by omega⟩
  refine mk_met (by decide) (by simp [lgs_r, lgs_i, lgs_l, lgs_n]) (fun X e1 e2 e3 e4 o hL hr hnm hz hc hs hE => ?_)
  subst e1 e2 e3 e4
  rw [show lv_args 0 [va_rf (some a0), .int v1] = [(0, va_rf (some a0)), (1, .int v1)] by simp [lva_r, lva_i, lva_l, lva_n]]
  exact w_X12_isSwitch_0 o hL hr hk0 hE hd h
def f_X12_isStepped (K L : Nat → Nat) (M : Mm) (a0 : Nat) (v1 : Int32) : Option Int32 :=
  Option.bind (f_X12_of K L M a0 v1 (0 : Int32)) (fun x1 =>
  if x1 = (2 : Int32) then
    some (1 : Int32)
  else
    Option.bind (f_X12_of K L M a0 v1 (0 : Int32)) (fun x3 =>
    if x3 = (3 : Int32) then
      some (1 : Int32)
    else
      some (0 : Int32)))
set_option maxHeartbeats 4000000 in
theorem w_X12_isStepped_0 {X : Cx} {d n : Nat} {K L : Nat → Nat} {M : Mm} {a0 : Nat} {r : Int32} {v1 : Int32} (o : cOk X cX12_isStepped RX12 (d + 1)) (hL : cL X = 2) (hr : (ch X).sig.returnType = some .boolean) (hk0 : K a0 = 12) (hE : cE X n K L M (some (.int r)) 0 0) (hd : 1 ≤ d + 1) (h : f_X12_isStepped K L M a0 v1 = some r) : gW X 0 0 n K L M 0 [(0, va_rf (some a0)), (1, .int v1)] [] := by
  unfold f_X12_isStepped at h
  refine g_aload_n o dX12_isStepped_0 0 rfl ?_
  refine g_iload_n o dX12_isStepped_1 1 rfl ?_
  refine g_iconst (v := (0 : Int32)) o dX12_isStepped_2 (by decide) ?_
  obtain ⟨x1, e2, h⟩ := ob h
  refine g_invV0 o (rc_self hk0) (by decide) ml_X12_43 kb_X12_of kv_X12_of rfl (c_X12_of (cq X) (cD X) (cY X) (cB X) (d := d) (by omega) (rc_at (rc_self hk0)).2 e2) rfl rfl (by simp [cat_i, cat_l, cat_rf]) dX12_isStepped_3 ?_
  refine g_iconst (v := (2 : Int32)) o dX12_isStepped_6 (by decide) ?_
  refine g_icmp_eq (tgt := 20) o dX12_isStepped_7 (by decide) (fun z => ?_) (fun z => ?_)
  · have h := (if_pos z).symm.trans h
    refine g_iconst (v := (1 : Int32)) o dX12_isStepped_20 (by decide) ?_
    refine g_goto (tgt := 25) o dX12_isStepped_21 (by decide) ?_
    cases h
    exact g_zret o hr (by decide) hE dX12_isStepped_25
  · have h := (if_neg z).symm.trans h
    refine g_aload_n o dX12_isStepped_10 0 rfl ?_
    refine g_iload_n o dX12_isStepped_11 1 rfl ?_
    refine g_iconst (v := (0 : Int32)) o dX12_isStepped_12 (by decide) ?_
    obtain ⟨x3, e4, h⟩ := ob h
    refine g_invV0 o (rc_self hk0) (by decide) ml_X12_43 kb_X12_of kv_X12_of rfl (c_X12_of (cq X) (cD X) (cY X) (cB X) (d := d) (by omega) (rc_at (rc_self hk0)).2 e4) rfl rfl (by simp [cat_i, cat_l, cat_rf]) dX12_isStepped_13 ?_
    refine g_iconst (v := (3 : Int32)) o dX12_isStepped_16 (by decide) ?_
    refine g_icmp_ne (tgt := 24) o dX12_isStepped_17 (by decide) (fun z => ?_) (fun z => ?_)
    · have h := (if_neg z).symm.trans h
      refine g_iconst (v := (0 : Int32)) o dX12_isStepped_24 (by decide) ?_
      cases h
      exact g_zret o hr (by decide) hE dX12_isStepped_25
    · have h := (if_pos z).symm.trans h
      refine g_iconst (v := (1 : Int32)) o dX12_isStepped_20 (by decide) ?_
      refine g_goto (tgt := 25) o dX12_isStepped_21 (by decide) ?_
      cases h
      exact g_zret o hr (by decide) hE dX12_isStepped_25
theorem c_X12_isStepped (l : Launch) (D : va_G) (Y : Nat → ClassId) (B : Nat) {d : Nat} {n : Nat} {K L : Nat → Nat} {M : Mm} {a0 : Nat} {v1 : Int32} {r : Int32} (hd : 1 ≤ d) (hk0 : K a0 = 12) (h : f_X12_isStepped K L M a0 v1 = some r) : mC l D Y B d yX12_isStepped cX12_isStepped 2 (some .boolean) [va_rf (some a0), .int v1] n K L M n K L M (some (.int r)) 0 0 := by
  obtain ⟨d, rfl⟩ : ∃ e, d = e + 1 := ⟨d - 1, by omega⟩
  refine mk_met (by decide) (by simp [lgs_r, lgs_i, lgs_l, lgs_n]) (fun X e1 e2 e3 e4 o hL hr hnm hz hc hs hE => ?_)
  subst e1 e2 e3 e4
  rw [show lv_args 0 [va_rf (some a0), .int v1] = [(0, va_rf (some a0)), (1, .int v1)] by simp [lva_r, lva_i, lva_l, lva_n]]
  exact w_X12_isStepped_0 o hL hr hk0 hE hd h
def f_X12_hangs (K L : Nat → Nat) (M : Mm) (a0 : Nat) (v1 : Int32) : Option Int32 :=
  Option.bind (f_X12_of K L M a0 v1 (0 : Int32)) (fun x1 =>
  if x1 = (4 : Int32) then
    some (1 : Int32)
  else
    Option.bind (f_X12_of K L M a0 v1 (0 : Int32)) (fun x3 =>
    if x3 = (5 : Int32) then
      some (1 : Int32)
    else
      some (0 : Int32)))
set_option maxHeartbeats 4000000 in
theorem w_X12_hangs_0 {X : Cx} {d n : Nat} {K L : Nat → Nat} {M : Mm} {a0 : Nat} {r : Int32} {v1 : Int32} (o : cOk X cX12_hangs RX12 (d + 1)) (hL : cL X = 2) (hr : (ch X).sig.returnType = some .boolean) (hk0 : K a0 = 12) (hE : cE X n K L M (some (.int r)) 0 0) (hd : 1 ≤ d + 1) (h : f_X12_hangs K L M a0 v1 = some r) : gW X 0 0 n K L M 0 [(0, va_rf (some a0)), (1, .int v1)] [] := by
  unfold f_X12_hangs at h
  refine g_aload_n o dX12_hangs_0 0 rfl ?_
  refine g_iload_n o dX12_hangs_1 1 rfl ?_
  refine g_iconst (v := (0 : Int32)) o dX12_hangs_2 (by decide) ?_
  obtain ⟨x1, e2, h⟩ := ob h
  refine g_invV0 o (rc_self hk0) (by decide) ml_X12_43 kb_X12_of kv_X12_of rfl (c_X12_of (cq X) (cD X) (cY X) (cB X) (d := d) (by omega) (rc_at (rc_self hk0)).2 e2) rfl rfl (by simp [cat_i, cat_l, cat_rf]) dX12_hangs_3 ?_
  refine g_iconst (v := (4 : Int32)) o dX12_hangs_6 (by decide) ?_
  refine g_icmp_eq (tgt := 20) o dX12_hangs_7 (by decide) (fun z => ?_) (fun z => ?_)
  · have h := (if_pos z).symm.trans h
    refine g_iconst (v := (1 : Int32)) o dX12_hangs_20 (by decide) ?_
    refine g_goto (tgt := 25) o dX12_hangs_21 (by decide) ?_
    cases h
    exact g_zret o hr (by decide) hE dX12_hangs_25
  · have h := (if_neg z).symm.trans h
    refine g_aload_n o dX12_hangs_10 0 rfl ?_
    refine g_iload_n o dX12_hangs_11 1 rfl ?_
    refine g_iconst (v := (0 : Int32)) o dX12_hangs_12 (by decide) ?_
    obtain ⟨x3, e4, h⟩ := ob h
    refine g_invV0 o (rc_self hk0) (by decide) ml_X12_43 kb_X12_of kv_X12_of rfl (c_X12_of (cq X) (cD X) (cY X) (cB X) (d := d) (by omega) (rc_at (rc_self hk0)).2 e4) rfl rfl (by simp [cat_i, cat_l, cat_rf]) dX12_hangs_13 ?_
    refine g_iconst (v := (5 : Int32)) o dX12_hangs_16 (by decide) ?_
    refine g_icmp_ne (tgt := 24) o dX12_hangs_17 (by decide) (fun z => ?_) (fun z => ?_)
    · have h := (if_neg z).symm.trans h
      refine g_iconst (v := (0 : Int32)) o dX12_hangs_24 (by decide) ?_
      cases h
      exact g_zret o hr (by decide) hE dX12_hangs_25
    · have h := (if_pos z).symm.trans h
      refine g_iconst (v := (1 : Int32)) o dX12_hangs_20 (by decide) ?_
      refine g_goto (tgt := 25) o dX12_hangs_21 (by decide) ?_
      cases h
      exact g_zret o hr (by decide) hE dX12_hangs_25
theorem c_X12_hangs (l : Launch) (D : va_G) (Y : Nat → ClassId) (B : Nat) {d : Nat} {n : Nat} {K L : Nat → Nat} {M : Mm} {a0 : Nat} {v1 : Int32} {r : Int32} (hd : 1 ≤ d) (hk0 : K a0 = 12) (h : f_X12_hangs K L M a0 v1 = some r) : mC l D Y B d yX12_hangs cX12_hangs 2 (some .boolean) [va_rf (some a0), .int v1] n K L M n K L M (some (.int r)) 0 0 := by
  obtain ⟨d, rfl⟩ : ∃ e, d = e + 1 := ⟨d - 1, by omega⟩
  refine mk_met (by decide) (by simp [lgs_r, lgs_i, lgs_l, lgs_n]) (fun X e1 e2 e3 e4 o hL hr hnm hz hc hs hE => ?_)
  subst e1 e2 e3 e4
  rw [show lv_args 0 [va_rf (some a0), .int v1] = [(0, va_rf (some a0)), (1, .int v1)] by simp [lva_r, lva_i, lva_l, lva_n]]
  exact w_X12_hangs_0 o hL hr hk0 hE hd h
def f_X12_why_84 (K L : Nat → Nat) (M : Mm) (a0 : Nat) (s0 : Int32) : Option Int32 :=
  if s0 = 0 then
    some (-5 : Int32)
  else
    some (0 : Int32)
set_option maxHeartbeats 4000000 in
theorem w_X12_why_84 {X : Cx} {d n : Nat} {K L : Nat → Nat} {M : Mm} {a0 : Nat} {r : Int32} {s0 : Int32} (o : cOk X cX12_why RX12 (d + 1)) (hL : cL X = 4) (hr : (ch X).sig.returnType = some .int) (hk0 : K a0 = 12) (hE : cE X n K L M (some (.int r)) 0 0) (hd : 2 ≤ d + 1) (h : f_X12_why_84 K L M a0 s0 = some r) : gW X 0 0 n K L M 84 [(0, va_rf (some a0))] [.int s0] := by
  unfold f_X12_why_84 at h
  refine g_istore_n (i := 3) (ls' := [(3, .int s0), (0, va_rf (some a0))]) o dX12_why_84 rfl (ltL hL (by decide)) rfl ?_
  refine g_iload_n o dX12_why_85 0 rfl ?_
  refine g_if_eq (tgt := 93) o dX12_why_86 (by decide) (fun z => ?_) (fun z => ?_)
  · have h := (if_pos z).symm.trans h
    refine g_bipush (v := (-5 : Int32)) o dX12_why_93 (by decide) ?_
    cases h
    exact g_iret o hr hE dX12_why_95
  · have h := (if_neg z).symm.trans h
    refine g_iconst (v := (0 : Int32)) o dX12_why_89 (by decide) ?_
    refine g_goto (tgt := 95) o dX12_why_90 (by decide) ?_
    cases h
    exact g_iret o hr hE dX12_why_95
def f_X12_why_76 (K L : Nat → Nat) (M : Mm) (a0 : Nat) (s0 : Int32) (s1 : Int32) : Option Int32 :=
  if s1 = s0 then
    f_X12_why_84 K L M a0 (1 : Int32)
  else
    f_X12_why_84 K L M a0 (0 : Int32)
set_option maxHeartbeats 4000000 in
theorem w_X12_why_76 {X : Cx} {d n : Nat} {K L : Nat → Nat} {M : Mm} {a0 : Nat} {r : Int32} {s0 : Int32} {s1 : Int32} (o : cOk X cX12_why RX12 (d + 1)) (hL : cL X = 4) (hr : (ch X).sig.returnType = some .int) (hk0 : K a0 = 12) (hE : cE X n K L M (some (.int r)) 0 0) (hd : 2 ≤ d + 1) (h : f_X12_why_76 K L M a0 s0 s1 = some r) : gW X 0 0 n K L M 76 [(0, va_rf (some a0))] [.int s0, .int s1] := by
  unfold f_X12_why_76 at h
  refine g_icmp_ne (tgt := 83) o dX12_why_76 (by decide) (fun z => ?_) (fun z => ?_)
  · have h := (if_neg z).symm.trans h
    refine g_iconst (v := (0 : Int32)) o dX12_why_83 (by decide) ?_
    exact w_X12_why_84 o hL hr hk0 hE hd h
  · have h := (if_pos z).symm.trans h
    refine g_iconst (v := (1 : Int32)) o dX12_why_79 (by decide) ?_
    refine g_goto (tgt := 84) o dX12_why_80 (by decide) ?_
    exact w_X12_why_84 o hL hr hk0 hE hd h
def f_X12_why (K L : Nat → Nat) (M : Mm) (a0 : Nat) (v1 : Int32) (v2 : Int32) : Option Int32 :=
  Option.bind (f_X12_isPlace v1) (fun x1 =>
  if x1 = 0 then
    some (-3 : Int32)
  else
    Option.bind (f_X12_of K L M a0 v1 (0 : Int32)) (fun x3 =>
    if x3 = 0 then
      some (-2 : Int32)
    else
      if v2 = 0 then
        Option.bind (f_X12_isSwitch K L M a0 v1) (fun x11 =>
        f_X12_why_84 K L M a0 x11)
      else
        if v2 = (1 : Int32) then
          Option.bind (f_X12_isStepped K L M a0 v1) (fun x9 =>
          f_X12_why_84 K L M a0 x9)
        else
          if v2 = (2 : Int32) then
            Option.bind (f_X12_hangs K L M a0 v1) (fun x7 =>
            f_X12_why_84 K L M a0 x7)
          else
            Option.bind (f_X12_of K L M a0 v1 (0 : Int32)) (fun x5 =>
            if v2 = (3 : Int32) then
              f_X12_why_76 K L M a0 (3 : Int32) x5
            else
              f_X12_why_76 K L M a0 (5 : Int32) x5)))
set_option maxHeartbeats 4000000 in
theorem w_X12_why_0 {X : Cx} {d n : Nat} {K L : Nat → Nat} {M : Mm} {a0 : Nat} {r : Int32} {v1 : Int32} {v2 : Int32} (o : cOk X cX12_why RX12 (d + 1)) (hL : cL X = 4) (hr : (ch X).sig.returnType = some .int) (hk0 : K a0 = 12) (hE : cE X n K L M (some (.int r)) 0 0) (hd : 2 ≤ d + 1) (h : f_X12_why K L M a0 v1 v2 = some r) : gW X 0 0 n K L M 0 [(0, va_rf (some a0)), (1, .int v1), (2, .int v2)] [] := by
  unfold f_X12_why at h
  refine g_iload_n o dX12_why_0 1 rfl ?_
  obtain ⟨x1, e2, h⟩ := ob h
  refine g_invS0 o ml_X12_47 kb_X12_isPlace ks_X12_isPlace (c_X12_isPlace (cq X) (cD X) (cY X) (cB X) (d := d) (by omega) e2) rfl rfl (by simp [cat_i, cat_l, cat_rf]) dX12_why_1 ?_
  refine g_if_ne (tgt := 10) o dX12_why_4 (by decide) (fun z => ?_) (fun z => ?_)
  · have h := (if_neg z).symm.trans h
    refine g_aload_n o dX12_why_10 0 rfl ?_
    refine g_iload_n o dX12_why_11 1 rfl ?_
    refine g_iconst (v := (0 : Int32)) o dX12_why_12 (by decide) ?_
    obtain ⟨x3, e4, h⟩ := ob h
    refine g_invV0 o (rc_self hk0) (by decide) ml_X12_43 kb_X12_of kv_X12_of rfl (c_X12_of (cq X) (cD X) (cY X) (cB X) (d := d) (by omega) (rc_at (rc_self hk0)).2 e4) rfl rfl (by simp [cat_i, cat_l, cat_rf]) dX12_why_13 ?_
    refine g_if_ne (tgt := 22) o dX12_why_16 (by decide) (fun z => ?_) (fun z => ?_)
    · have h := (if_neg z).symm.trans h
      refine g_iload_n o dX12_why_22 2 rfl ?_
      refine g_if_ne (tgt := 34) o dX12_why_23 (by decide) (fun z => ?_) (fun z => ?_)
      · have h := (if_neg z).symm.trans h
        refine g_iload_n o dX12_why_34 2 rfl ?_
        refine g_iconst (v := (1 : Int32)) o dX12_why_35 (by decide) ?_
        refine g_icmp_ne (tgt := 47) o dX12_why_36 (by decide) (fun z => ?_) (fun z => ?_)
        · have h := (if_neg z).symm.trans h
          refine g_iload_n o dX12_why_47 2 rfl ?_
          refine g_iconst (v := (2 : Int32)) o dX12_why_48 (by decide) ?_
          refine g_icmp_ne (tgt := 60) o dX12_why_49 (by decide) (fun z => ?_) (fun z => ?_)
          · have h := (if_neg z).symm.trans h
            refine g_aload_n o dX12_why_60 0 rfl ?_
            refine g_iload_n o dX12_why_61 1 rfl ?_
            refine g_iconst (v := (0 : Int32)) o dX12_why_62 (by decide) ?_
            obtain ⟨x5, e6, h⟩ := ob h
            refine g_invV0 o (rc_self hk0) (by decide) ml_X12_43 kb_X12_of kv_X12_of rfl (c_X12_of (cq X) (cD X) (cY X) (cB X) (d := d) (by omega) (rc_at (rc_self hk0)).2 e6) rfl rfl (by simp [cat_i, cat_l, cat_rf]) dX12_why_63 ?_
            refine g_iload_n o dX12_why_66 2 rfl ?_
            refine g_iconst (v := (3 : Int32)) o dX12_why_67 (by decide) ?_
            refine g_icmp_ne (tgt := 75) o dX12_why_68 (by decide) (fun z => ?_) (fun z => ?_)
            · have h := (if_neg z).symm.trans h
              refine g_iconst (v := (5 : Int32)) o dX12_why_75 (by decide) ?_
              refine gsub [0] rfl ?_
              exact w_X12_why_76 o hL hr hk0 hE hd h
            · have h := (if_pos z).symm.trans h
              refine g_iconst (v := (3 : Int32)) o dX12_why_71 (by decide) ?_
              refine g_goto (tgt := 76) o dX12_why_72 (by decide) ?_
              refine gsub [0] rfl ?_
              exact w_X12_why_76 o hL hr hk0 hE hd h
          · have h := (if_pos z).symm.trans h
            refine g_aload_n o dX12_why_52 0 rfl ?_
            refine g_iload_n o dX12_why_53 1 rfl ?_
            obtain ⟨x7, e8, h⟩ := ob h
            refine g_invV0 o (rc_self hk0) (by decide) ml_X12_57 kb_X12_hangs kv_X12_hangs rfl (c_X12_hangs (cq X) (cD X) (cY X) (cB X) (d := d) (by omega) (rc_at (rc_self hk0)).2 e8) rfl rfl (by simp [cat_i, cat_l, cat_rf]) dX12_why_54 ?_
            refine g_goto (tgt := 84) o dX12_why_57 (by decide) ?_
            refine gsub [0] rfl ?_
            exact w_X12_why_84 o hL hr hk0 hE hd h
        · have h := (if_pos z).symm.trans h
          refine g_aload_n o dX12_why_39 0 rfl ?_
          refine g_iload_n o dX12_why_40 1 rfl ?_
          obtain ⟨x9, e10, h⟩ := ob h
          refine g_invV0 o (rc_self hk0) (by decide) ml_X12_54 kb_X12_isStepped kv_X12_isStepped rfl (c_X12_isStepped (cq X) (cD X) (cY X) (cB X) (d := d) (by omega) (rc_at (rc_self hk0)).2 e10) rfl rfl (by simp [cat_i, cat_l, cat_rf]) dX12_why_41 ?_
          refine g_goto (tgt := 84) o dX12_why_44 (by decide) ?_
          refine gsub [0] rfl ?_
          exact w_X12_why_84 o hL hr hk0 hE hd h
      · have h := (if_pos z).symm.trans h
        refine g_aload_n o dX12_why_26 0 rfl ?_
        refine g_iload_n o dX12_why_27 1 rfl ?_
        obtain ⟨x11, e12, h⟩ := ob h
        refine g_invV0 o (rc_self hk0) (by decide) ml_X12_51 kb_X12_isSwitch kv_X12_isSwitch rfl (c_X12_isSwitch (cq X) (cD X) (cY X) (cB X) (d := d) (by omega) (rc_at (rc_self hk0)).2 e12) rfl rfl (by simp [cat_i, cat_l, cat_rf]) dX12_why_28 ?_
        refine g_goto (tgt := 84) o dX12_why_31 (by decide) ?_
        refine gsub [0] rfl ?_
        exact w_X12_why_84 o hL hr hk0 hE hd h
    · have h := (if_pos z).symm.trans h
      refine g_bipush (v := (-2 : Int32)) o dX12_why_19 (by decide) ?_
      cases h
      exact g_iret o hr hE dX12_why_21
  · have h := (if_pos z).symm.trans h
    refine g_bipush (v := (-3 : Int32)) o dX12_why_7 (by decide) ?_
    cases h
    exact g_iret o hr hE dX12_why_9
theorem c_X12_why (l : Launch) (D : va_G) (Y : Nat → ClassId) (B : Nat) {d : Nat} {n : Nat} {K L : Nat → Nat} {M : Mm} {a0 : Nat} {v1 : Int32} {v2 : Int32} {r : Int32} (hd : 2 ≤ d) (hk0 : K a0 = 12) (h : f_X12_why K L M a0 v1 v2 = some r) : mC l D Y B d yX12_why cX12_why 4 (some .int) [va_rf (some a0), .int v1, .int v2] n K L M n K L M (some (.int r)) 0 0 := by
  obtain ⟨d, rfl⟩ : ∃ e, d = e + 1 := ⟨d - 1, by omega⟩
  refine mk_met (by decide) (by simp [lgs_r, lgs_i, lgs_l, lgs_n]) (fun X e1 e2 e3 e4 o hL hr hnm hz hc hs hE => ?_)
  subst e1 e2 e3 e4
  rw [show lv_args 0 [va_rf (some a0), .int v1, .int v2] = [(0, va_rf (some a0)), (1, .int v1), (2, .int v2)] by simp [lva_r, lva_i, lva_l, lva_n]]
  exact w_X12_why_0 o hL hr hk0 hE hd h
def f_X12_caller_49 (K L : Nat → Nat) (a0 : Nat) (M : Mm) : Option (Int32 × Mm) :=
  Option.bind (f_X12_no K L a0 (-3 : Int32) M) (fun x1 =>
  some (x1.1, x1.2))
set_option maxHeartbeats 4000000 in
theorem w_X12_caller_49 {X : Cx} {d n : Nat} {K L : Nat → Nat} {a0 : Nat} {r : (Int32 × Mm)} {M : Mm} (o : cOk X cX12_caller RX12 (d + 1)) (hL : cL X = 5) (hr : (ch X).sig.returnType = some .int) (hz : (cs X).heap.size + 0 = cB X + n) (hk0 : K a0 = 12) (hE : cE X n K L r.2 (some (.int r.1)) 0 0) (hd : 1 ≤ d + 1) (h : f_X12_caller_49 K L a0  M = some r) : gW X 0 0 n K L M 49 [(0, va_rf (some a0))] [] := by
  unfold f_X12_caller_49 at h
  refine g_aload_n o dX12_caller_49 0 rfl ?_
  refine g_bipush (v := (-3 : Int32)) o dX12_caller_50 (by decide) ?_
  obtain ⟨x1, e2, h⟩ := ob h
  refine g_invV0 o (rc_self hk0) (by decide) ml_X12_72 kb_X12_no kv_X12_no rfl (c_X12_no (cq X) (cD X) (cY X) (cB X) (d := d) (by omega) (rc_at (rc_self hk0)).2 e2) rfl rfl (by simp [cat_i, cat_l, cat_rf]) dX12_caller_52 ?_
  cases h
  exact g_iret o hr hE dX12_caller_55
def f_X12_caller (K L : Nat → Nat) (a0 : Nat) (v1 : Int32) (v2 : Int32) (v3 : Int32) (v4 : Int32) (M : Mm) : Option (Int32 × Mm) :=
  Option.bind (f_X12_isIn (v1.toInt64) (0 : Int64) (999999 : Int64)) (fun x1 =>
  if x1 = 0 then
    f_X12_caller_49 K L a0 M
  else
    Option.bind (f_X12_isIn (v2.toInt64) (0 : Int64) (15 : Int64)) (fun x3 =>
    if x3 = 0 then
      f_X12_caller_49 K L a0 M
    else
      Option.bind (f_X12_isIn (v3.toInt64) (0 : Int64) (4000 : Int64)) (fun x5 =>
      if x5 = 0 then
        f_X12_caller_49 K L a0 M
      else
        Option.bind (f_X12_isIn (v4.toInt64) (0 : Int64) (7 : Int64)) (fun x7 =>
        if x7 = 0 then
          f_X12_caller_49 K L a0 M
        else
          bn (ms_I M (32 * 12 + 8) a0 v1) (fun M9 =>
          bn (ms_I M9 (32 * 12 + 9) a0 v2) (fun M11 =>
          bn (ms_I M11 (32 * 12 + 10) a0 v3) (fun M13 =>
          bn (ms_I M13 (32 * 12 + 11) a0 v4) (fun M15 =>
          some ((1 : Int32), M15)))))))))
set_option maxHeartbeats 4000000 in
theorem w_X12_caller_0 {X : Cx} {d n : Nat} {K L : Nat → Nat} {a0 : Nat} {r : (Int32 × Mm)} {v1 : Int32} {v2 : Int32} {v3 : Int32} {v4 : Int32} {M : Mm} (o : cOk X cX12_caller RX12 (d + 1)) (hL : cL X = 5) (hr : (ch X).sig.returnType = some .int) (hz : (cs X).heap.size + 0 = cB X + n) (hk0 : K a0 = 12) (hE : cE X n K L r.2 (some (.int r.1)) 0 0) (hd : 1 ≤ d + 1) (h : f_X12_caller K L a0 v1 v2 v3 v4 M = some r) : gW X 0 0 n K L M 0 [(0, va_rf (some a0)), (1, .int v1), (2, .int v2), (3, .int v3), (4, .int v4)] [] := by
  unfold f_X12_caller at h
  refine g_iload_n o dX12_caller_0 1 rfl ?_
  refine g_i2l o dX12_caller_1 ?_
  refine g_lconst (v := (0 : Int64)) o dX12_caller_2 (by decide) ?_
  refine g_ldc2 (v := (999999 : Int64)) o kc_X12_60 dX12_caller_3 ?_
  obtain ⟨x1, e2, h⟩ := ob h
  refine g_invS0 o ml_X12_62 kb_X12_isIn ks_X12_isIn (c_X12_isIn (cq X) (cD X) (cY X) (cB X) (d := d) (by omega) e2) rfl rfl (by simp [cat_i, cat_l, cat_rf]) dX12_caller_6 ?_
  refine g_if_eq (tgt := 49) o dX12_caller_9 (by decide) (fun z => ?_) (fun z => ?_)
  · have h := (if_pos z).symm.trans h
    refine gsub [0] rfl ?_
    exact w_X12_caller_49 o hL hr hz hk0 hE hd h
  · have h := (if_neg z).symm.trans h
    refine g_iload_n o dX12_caller_12 2 rfl ?_
    refine g_i2l o dX12_caller_13 ?_
    refine g_lconst (v := (0 : Int64)) o dX12_caller_14 (by decide) ?_
    refine g_ldc2 (v := (15 : Int64)) o kc_X12_66 dX12_caller_15 ?_
    obtain ⟨x3, e4, h⟩ := ob h
    refine g_invS0 o ml_X12_62 kb_X12_isIn ks_X12_isIn (c_X12_isIn (cq X) (cD X) (cY X) (cB X) (d := d) (by omega) e4) rfl rfl (by simp [cat_i, cat_l, cat_rf]) dX12_caller_18 ?_
    refine g_if_eq (tgt := 49) o dX12_caller_21 (by decide) (fun z => ?_) (fun z => ?_)
    · have h := (if_pos z).symm.trans h
      refine gsub [0] rfl ?_
      exact w_X12_caller_49 o hL hr hz hk0 hE hd h
    · have h := (if_neg z).symm.trans h
      refine g_iload_n o dX12_caller_24 3 rfl ?_
      refine g_i2l o dX12_caller_25 ?_
      refine g_lconst (v := (0 : Int64)) o dX12_caller_26 (by decide) ?_
      refine g_ldc2 (v := (4000 : Int64)) o kc_X12_68 dX12_caller_27 ?_
      obtain ⟨x5, e6, h⟩ := ob h
      refine g_invS0 o ml_X12_62 kb_X12_isIn ks_X12_isIn (c_X12_isIn (cq X) (cD X) (cY X) (cB X) (d := d) (by omega) e6) rfl rfl (by simp [cat_i, cat_l, cat_rf]) dX12_caller_30 ?_
      refine g_if_eq (tgt := 49) o dX12_caller_33 (by decide) (fun z => ?_) (fun z => ?_)
      · have h := (if_pos z).symm.trans h
        refine gsub [0] rfl ?_
        exact w_X12_caller_49 o hL hr hz hk0 hE hd h
      · have h := (if_neg z).symm.trans h
        refine g_iload o dX12_caller_36 4 rfl ?_
        refine g_i2l o dX12_caller_38 ?_
        refine g_lconst (v := (0 : Int64)) o dX12_caller_39 (by decide) ?_
        refine g_ldc2 (v := (7 : Int64)) o kc_X12_70 dX12_caller_40 ?_
        obtain ⟨x7, e8, h⟩ := ob h
        refine g_invS0 o ml_X12_62 kb_X12_isIn ks_X12_isIn (c_X12_isIn (cq X) (cD X) (cY X) (cB X) (d := d) (by omega) e8) rfl rfl (by simp [cat_i, cat_l, cat_rf]) dX12_caller_43 ?_
        refine g_if_ne (tgt := 56) o dX12_caller_46 (by decide) (fun z => ?_) (fun z => ?_)
        · have h := (if_neg z).symm.trans h
          refine g_aload_n o dX12_caller_56 0 rfl ?_
          refine g_iload_n o dX12_caller_57 1 rfl ?_
          refine g_putI o hz fl_X12_76 (rc_self hk0) (by decide) rfl rfl rfl  dX12_caller_58 ?_
          obtain ⟨M9, e10, h⟩ := bn_at h
          refine g_mem e10 ?_
          refine g_aload_n o dX12_caller_61 0 rfl ?_
          refine g_iload_n o dX12_caller_62 2 rfl ?_
          refine g_putI o hz fl_X12_80 (rc_self hk0) (by decide) rfl rfl rfl  dX12_caller_63 ?_
          obtain ⟨M11, e12, h⟩ := bn_at h
          refine g_mem e12 ?_
          refine g_aload_n o dX12_caller_66 0 rfl ?_
          refine g_iload_n o dX12_caller_67 3 rfl ?_
          refine g_putI o hz fl_X12_83 (rc_self hk0) (by decide) rfl rfl rfl  dX12_caller_68 ?_
          obtain ⟨M13, e14, h⟩ := bn_at h
          refine g_mem e14 ?_
          refine g_aload_n o dX12_caller_71 0 rfl ?_
          refine g_iload o dX12_caller_72 4 rfl ?_
          refine g_putI o hz fl_X12_86 (rc_self hk0) (by decide) rfl rfl rfl  dX12_caller_74 ?_
          obtain ⟨M15, e16, h⟩ := bn_at h
          refine g_mem e16 ?_
          refine g_iconst (v := (1 : Int32)) o dX12_caller_77 (by decide) ?_
          cases h
          exact g_iret o hr hE dX12_caller_78
        · have h := (if_pos z).symm.trans h
          refine gsub [0] rfl ?_
          exact w_X12_caller_49 o hL hr hz hk0 hE hd h
theorem c_X12_caller (l : Launch) (D : va_G) (Y : Nat → ClassId) (B : Nat) {d : Nat} {n : Nat} {K L : Nat → Nat} {M : Mm} {a0 : Nat} {v1 : Int32} {v2 : Int32} {v3 : Int32} {v4 : Int32} {r : (Int32 × Mm)} (hd : 1 ≤ d) (hk0 : K a0 = 12) (h : f_X12_caller K L a0 v1 v2 v3 v4 M = some r) : mC l D Y B d yX12_caller cX12_caller 5 (some .int) [va_rf (some a0), .int v1, .int v2, .int v3, .int v4] n K L M n K L r.2 (some (.int r.1)) 0 0 := by
  obtain ⟨d, rfl⟩ : ∃ e, d = e + 1 := ⟨d - 1, by omega⟩
  refine mk_met (by decide) (by simp [lgs_r, lgs_i, lgs_l, lgs_n]) (fun X e1 e2 e3 e4 o hL hr hnm hz hc hs hE => ?_)
  subst e1 e2 e3 e4
  rw [show lv_args 0 [va_rf (some a0), .int v1, .int v2, .int v3, .int v4] = [(0, va_rf (some a0)), (1, .int v1), (2, .int v2), (3, .int v3), (4, .int v4)] by simp [lva_r, lva_i, lva_l, lva_n]]
  exact w_X12_caller_0 o hL hr hz hk0 hE hd h
def f_X12_seatOf (K L : Nat → Nat) (M : Mm) (a0 : Nat) (v1 : Int32) : Option Int32 :=
  Option.bind (f_X12_of K L M a0 v1 (1 : Int32)) (fun x1 =>
  Option.bind (f_X12_of K L M a0 v1 (2 : Int32)) (fun x3 =>
  some (((((x1.toInt64) * ((mm_I M (32 * 12 + 8) a0).toInt64)) + (x3.toInt64)) - (((x1.toInt64) * ((mm_I M (32 * 12 + 8) a0).toInt64)) + (x3.toInt64)) / (10000 : Int64) * (10000 : Int64)).toInt32)))
set_option maxHeartbeats 4000000 in
theorem w_X12_seatOf_0 {X : Cx} {d n : Nat} {K L : Nat → Nat} {M : Mm} {a0 : Nat} {r : Int32} {v1 : Int32} (o : cOk X cX12_seatOf RX12 (d + 1)) (hL : cL X = 2) (hr : (ch X).sig.returnType = some .int) (hk0 : K a0 = 12) (hE : cE X n K L M (some (.int r)) 0 0) (hd : 1 ≤ d + 1) (h : f_X12_seatOf K L M a0 v1 = some r) : gW X 0 0 n K L M 0 [(0, va_rf (some a0)), (1, .int v1)] [] := by
  unfold f_X12_seatOf at h
  refine g_aload_n o dX12_seatOf_0 0 rfl ?_
  refine g_iload_n o dX12_seatOf_1 1 rfl ?_
  refine g_iconst (v := (1 : Int32)) o dX12_seatOf_2 (by decide) ?_
  obtain ⟨x1, e2, h⟩ := ob h
  refine g_invV0 o (rc_self hk0) (by decide) ml_X12_43 kb_X12_of kv_X12_of rfl (c_X12_of (cq X) (cD X) (cY X) (cB X) (d := d) (by omega) (rc_at (rc_self hk0)).2 e2) rfl rfl (by simp [cat_i, cat_l, cat_rf]) dX12_seatOf_3 ?_
  refine g_i2l o dX12_seatOf_6 ?_
  refine g_aload_n o dX12_seatOf_7 0 rfl ?_
  refine g_getI o fl_X12_76 (rc_self hk0) (by decide) rfl dX12_seatOf_8 ?_
  refine g_i2l o dX12_seatOf_11 ?_
  refine g_lmul o dX12_seatOf_12 ?_
  refine g_aload_n o dX12_seatOf_13 0 rfl ?_
  refine g_iload_n o dX12_seatOf_14 1 rfl ?_
  refine g_iconst (v := (2 : Int32)) o dX12_seatOf_15 (by decide) ?_
  obtain ⟨x3, e4, h⟩ := ob h
  refine g_invV0 o (rc_self hk0) (by decide) ml_X12_43 kb_X12_of kv_X12_of rfl (c_X12_of (cq X) (cD X) (cY X) (cB X) (d := d) (by omega) (rc_at (rc_self hk0)).2 e4) rfl rfl (by simp [cat_i, cat_l, cat_rf]) dX12_seatOf_16 ?_
  refine g_i2l o dX12_seatOf_19 ?_
  refine g_ladd o dX12_seatOf_20 ?_
  refine g_ldc2 (v := (10000 : Int64)) o kc_X12_89 dX12_seatOf_21 ?_
  refine g_lrem o dX12_seatOf_24 (by decide) ?_
  refine g_l2i o dX12_seatOf_25 ?_
  cases h
  exact g_iret o hr hE dX12_seatOf_26
theorem c_X12_seatOf (l : Launch) (D : va_G) (Y : Nat → ClassId) (B : Nat) {d : Nat} {n : Nat} {K L : Nat → Nat} {M : Mm} {a0 : Nat} {v1 : Int32} {r : Int32} (hd : 1 ≤ d) (hk0 : K a0 = 12) (h : f_X12_seatOf K L M a0 v1 = some r) : mC l D Y B d yX12_seatOf cX12_seatOf 2 (some .int) [va_rf (some a0), .int v1] n K L M n K L M (some (.int r)) 0 0 := by
  obtain ⟨d, rfl⟩ : ∃ e, d = e + 1 := ⟨d - 1, by omega⟩
  refine mk_met (by decide) (by simp [lgs_r, lgs_i, lgs_l, lgs_n]) (fun X e1 e2 e3 e4 o hL hr hnm hz hc hs hE => ?_)
  subst e1 e2 e3 e4
  rw [show lv_args 0 [va_rf (some a0), .int v1] = [(0, va_rf (some a0)), (1, .int v1)] by simp [lva_r, lva_i, lva_l, lva_n]]
  exact w_X12_seatOf_0 o hL hr hk0 hE hd h
def f_X12_ruleOf_55 (K L : Nat → Nat) (fu : Nat) (k2 : Int32 → Int32 → Option Int32) (M : Mm) (a0 : Nat) (v1 : Int32) (v2 : Int32) (v3 : Int32) (s0 : Int32) : Option Int32 :=
  Option.bind (f_X12_of K L M a0 v1 (v3 + (1 : Int32))) (fun x1 =>
  if s0 < x1 then
    k2 v1 (v2 + 1)
  else
    Option.bind (f_X12_of K L M a0 v1 (v3 + (2 : Int32))) (fun x3 =>
    if x3 < s0 then
      k2 v1 (v2 + 1)
    else
      some (v2 + (1 : Int32))))
set_option maxHeartbeats 4000000 in
theorem w_X12_ruleOf_55 {X : Cx} {d n : Nat} {K L : Nat → Nat} {fu : Nat} {M : Mm} {a0 : Nat} {r : Int32} {k2 : Int32 → Int32 → Option Int32} {v1 : Int32} {v2 : Int32} {v3 : Int32} {s0 : Int32} (o : cOk X cX12_ruleOf RX12 (d + 1)) (hL : cL X = 5) (hr : (ch X).sig.returnType = some .int) (hk0 : K a0 = 12) (hE : cE X n K L M (some (.int r)) 0 0) (hk2 : ∀ (v1 : Int32) (v2 : Int32), k2 v1 v2 = some r → gW X 0 0 n K L M 2 [(0, va_rf (some a0)), (1, .int v1), (2, .int v2)] []) (hd : 1 ≤ d + 1) (h : f_X12_ruleOf_55 K L fu k2 M a0 v1 v2 v3 s0 = some r) : gW X 0 0 n K L M 55 [(0, va_rf (some a0)), (1, .int v1), (2, .int v2), (3, .int v3)] [.int s0] := by
  unfold f_X12_ruleOf_55 at h
  refine g_istore (i := 4) (ls' := [(4, .int s0), (0, va_rf (some a0)), (1, .int v1), (2, .int v2), (3, .int v3)]) o dX12_ruleOf_55 (ltL hL (by decide)) rfl ?_
  refine g_iload o dX12_ruleOf_57 0 rfl ?_
  refine g_aload_n o dX12_ruleOf_59 1 rfl ?_
  refine g_iload_n o dX12_ruleOf_60 2 rfl ?_
  refine g_iload_n o dX12_ruleOf_61 4 rfl ?_
  refine g_iconst (v := (1 : Int32)) o dX12_ruleOf_62 (by decide) ?_
  refine g_iadd o dX12_ruleOf_63 ?_
  obtain ⟨x1, e2, h⟩ := ob h
  refine g_invV0 o (rc_self hk0) (by decide) ml_X12_43 kb_X12_of kv_X12_of rfl (c_X12_of (cq X) (cD X) (cY X) (cB X) (d := d) (by omega) (rc_at (rc_self hk0)).2 e2) rfl rfl (by simp [cat_i, cat_l, cat_rf]) dX12_ruleOf_64 ?_
  refine g_icmp_lt (tgt := 87) o dX12_ruleOf_67 (by decide) (fun z => ?_) (fun z => ?_)
  · have h := (if_pos z).symm.trans h
    refine g_iinc (i := 2) (v := v2 + 1) (ls' := [(2, .int (v2 + 1)), (4, .int s0), (0, va_rf (some a0)), (1, .int v1), (3, .int v3)]) o dX12_ruleOf_87 3 rfl (by first | rfl | (congr 1)) (ltL hL (by decide)) rfl ?_
    refine g_goto (tgt := 2) o dX12_ruleOf_90 (by decide) ?_
    refine gsub [2, 3, 0] rfl ?_
    exact hk2 _ _ h
  · have h := (if_neg z).symm.trans h
    refine g_iload o dX12_ruleOf_70 0 rfl ?_
    refine g_aload_n o dX12_ruleOf_72 1 rfl ?_
    refine g_iload_n o dX12_ruleOf_73 2 rfl ?_
    refine g_iload_n o dX12_ruleOf_74 4 rfl ?_
    refine g_iconst (v := (2 : Int32)) o dX12_ruleOf_75 (by decide) ?_
    refine g_iadd o dX12_ruleOf_76 ?_
    obtain ⟨x3, e4, h⟩ := ob h
    refine g_invV0 o (rc_self hk0) (by decide) ml_X12_43 kb_X12_of kv_X12_of rfl (c_X12_of (cq X) (cD X) (cY X) (cB X) (d := d) (by omega) (rc_at (rc_self hk0)).2 e4) rfl rfl (by simp [cat_i, cat_l, cat_rf]) dX12_ruleOf_77 ?_
    refine g_icmp_gt (tgt := 87) o dX12_ruleOf_80 (by decide) (fun z => ?_) (fun z => ?_)
    · have h := (if_pos z).symm.trans h
      refine g_iinc (i := 2) (v := v2 + 1) (ls' := [(2, .int (v2 + 1)), (4, .int s0), (0, va_rf (some a0)), (1, .int v1), (3, .int v3)]) o dX12_ruleOf_87 3 rfl (by first | rfl | (congr 1)) (ltL hL (by decide)) rfl ?_
      refine g_goto (tgt := 2) o dX12_ruleOf_90 (by decide) ?_
      refine gsub [2, 3, 0] rfl ?_
      exact hk2 _ _ h
    · have h := (if_neg z).symm.trans h
      refine g_iload_n o dX12_ruleOf_83 3 rfl ?_
      refine g_iconst (v := (1 : Int32)) o dX12_ruleOf_84 (by decide) ?_
      refine g_iadd o dX12_ruleOf_85 ?_
      cases h
      exact g_iret o hr hE dX12_ruleOf_86
def f_X12_ruleOf_2b (K L : Nat → Nat) (fu : Nat) (k2 : Int32 → Int32 → Option Int32) (M : Mm) (a0 : Nat) (v1 : Int32) (v2 : Int32) : Option Int32 :=
  Option.bind (f_X12_of K L M a0 v1 (3 : Int32)) (fun x1 =>
  if x1 ≤ v2 then
    some (0 : Int32)
  else
    bn ((4 : Int32) + ((4 : Int32) * v2)) (fun x3 =>
    Option.bind (f_X12_of K L M a0 v1 x3) (fun x5 =>
    if x5 = 0 then
      f_X12_ruleOf_55 K L fu k2 M a0 v1 v2 x3 (mm_I M (32 * 12 + 9) a0)
    else
      Option.bind (f_X12_of K L M a0 v1 x3) (fun x7 =>
      if x7 = (1 : Int32) then
        f_X12_ruleOf_55 K L fu k2 M a0 v1 v2 x3 (mm_I M (32 * 12 + 10) a0)
      else
        f_X12_ruleOf_55 K L fu k2 M a0 v1 v2 x3 (mm_I M (32 * 12 + 11) a0)))))
def f_X12_ruleOf_2 (K L : Nat → Nat) (fu : Nat) (M : Mm) (a0 : Nat) : Nat → Int32 → Int32 → Option Int32
  | 0, _, _ => none
  | g + 1, v1, v2 => f_X12_ruleOf_2b K L fu (f_X12_ruleOf_2 K L fu M a0 g) M a0 v1 v2
set_option maxHeartbeats 4000000 in
theorem w_X12_ruleOf_2b {X : Cx} {d n : Nat} {K L : Nat → Nat} {fu : Nat} {M : Mm} {a0 : Nat} {r : Int32} {k2 : Int32 → Int32 → Option Int32} {v1 : Int32} {v2 : Int32} (o : cOk X cX12_ruleOf RX12 (d + 1)) (hL : cL X = 5) (hr : (ch X).sig.returnType = some .int) (hk0 : K a0 = 12) (hE : cE X n K L M (some (.int r)) 0 0) (hk2 : ∀ (v1 : Int32) (v2 : Int32), k2 v1 v2 = some r → gW X 0 0 n K L M 2 [(0, va_rf (some a0)), (1, .int v1), (2, .int v2)] []) (hd : 1 ≤ d + 1) (h : f_X12_ruleOf_2b K L fu k2 M a0 v1 v2 = some r) : gW X 0 0 n K L M 2 [(0, va_rf (some a0)), (1, .int v1), (2, .int v2)] [] := by
  unfold f_X12_ruleOf_2b at h
  refine g_iload_n o dX12_ruleOf_2 2 rfl ?_
  refine g_aload_n o dX12_ruleOf_3 0 rfl ?_
  refine g_iload_n o dX12_ruleOf_4 1 rfl ?_
  refine g_iconst (v := (3 : Int32)) o dX12_ruleOf_5 (by decide) ?_
  obtain ⟨x1, e2, h⟩ := ob h
  refine g_invV0 o (rc_self hk0) (by decide) ml_X12_43 kb_X12_of kv_X12_of rfl (c_X12_of (cq X) (cD X) (cY X) (cB X) (d := d) (by omega) (rc_at (rc_self hk0)).2 e2) rfl rfl (by simp [cat_i, cat_l, cat_rf]) dX12_ruleOf_6 ?_
  refine g_icmp_ge (tgt := 93) o dX12_ruleOf_9 (by decide) (fun z => ?_) (fun z => ?_)
  · have h := (if_pos z).symm.trans h
    refine g_iconst (v := (0 : Int32)) o dX12_ruleOf_93 (by decide) ?_
    cases h
    exact g_iret o hr hE dX12_ruleOf_94
  · have h := (if_neg z).symm.trans h
    refine g_iconst (v := (4 : Int32)) o dX12_ruleOf_12 (by decide) ?_
    refine g_iconst (v := (4 : Int32)) o dX12_ruleOf_13 (by decide) ?_
    refine g_iload_n o dX12_ruleOf_14 2 rfl ?_
    refine g_imul o dX12_ruleOf_15 ?_
    refine g_iadd o dX12_ruleOf_16 ?_
    obtain ⟨x3, e4, h⟩ := bn_at h
    refine g_topI e4 ?_
    refine g_istore_n (i := 3) (ls' := [(3, .int x3), (0, va_rf (some a0)), (1, .int v1), (2, .int v2)]) o dX12_ruleOf_17 rfl (ltL hL (by decide)) rfl ?_
    refine g_aload_n o dX12_ruleOf_18 1 rfl ?_
    refine g_iload_n o dX12_ruleOf_19 2 rfl ?_
    refine g_iload_n o dX12_ruleOf_20 0 rfl ?_
    obtain ⟨x5, e6, h⟩ := ob h
    refine g_invV0 o (rc_self hk0) (by decide) ml_X12_43 kb_X12_of kv_X12_of rfl (c_X12_of (cq X) (cD X) (cY X) (cB X) (d := d) (by omega) (rc_at (rc_self hk0)).2 e6) rfl rfl (by simp [cat_i, cat_l, cat_rf]) dX12_ruleOf_21 ?_
    refine g_if_ne (tgt := 34) o dX12_ruleOf_24 (by decide) (fun z => ?_) (fun z => ?_)
    · have h := (if_neg z).symm.trans h
      refine g_aload_n o dX12_ruleOf_34 1 rfl ?_
      refine g_iload_n o dX12_ruleOf_35 2 rfl ?_
      refine g_iload_n o dX12_ruleOf_36 0 rfl ?_
      obtain ⟨x7, e8, h⟩ := ob h
      refine g_invV0 o (rc_self hk0) (by decide) ml_X12_43 kb_X12_of kv_X12_of rfl (c_X12_of (cq X) (cD X) (cY X) (cB X) (d := d) (by omega) (rc_at (rc_self hk0)).2 e8) rfl rfl (by simp [cat_i, cat_l, cat_rf]) dX12_ruleOf_37 ?_
      refine g_iconst (v := (1 : Int32)) o dX12_ruleOf_40 (by decide) ?_
      refine g_icmp_ne (tgt := 51) o dX12_ruleOf_41 (by decide) (fun z => ?_) (fun z => ?_)
      · have h := (if_neg z).symm.trans h
        refine g_aload_n o dX12_ruleOf_51 1 rfl ?_
        refine g_getI o fl_X12_86 (rc_self hk0) (by decide) rfl dX12_ruleOf_52 ?_
        refine gsub [1, 2, 3, 0] rfl ?_
        exact w_X12_ruleOf_55 o hL hr hk0 hE hk2 hd h
      · have h := (if_pos z).symm.trans h
        refine g_aload_n o dX12_ruleOf_44 1 rfl ?_
        refine g_getI o fl_X12_83 (rc_self hk0) (by decide) rfl dX12_ruleOf_45 ?_
        refine g_goto (tgt := 55) o dX12_ruleOf_48 (by decide) ?_
        refine gsub [1, 2, 3, 0] rfl ?_
        exact w_X12_ruleOf_55 o hL hr hk0 hE hk2 hd h
    · have h := (if_pos z).symm.trans h
      refine g_aload_n o dX12_ruleOf_27 1 rfl ?_
      refine g_getI o fl_X12_80 (rc_self hk0) (by decide) rfl dX12_ruleOf_28 ?_
      refine g_goto (tgt := 55) o dX12_ruleOf_31 (by decide) ?_
      refine gsub [1, 2, 3, 0] rfl ?_
      exact w_X12_ruleOf_55 o hL hr hk0 hE hk2 hd h
theorem w_X12_ruleOf_2_n {X : Cx} {d n : Nat} {K L : Nat → Nat} {fu : Nat} {M : Mm} {a0 : Nat} {r : Int32} (o : cOk X cX12_ruleOf RX12 (d + 1)) (hL : cL X = 5) (hr : (ch X).sig.returnType = some .int) (hk0 : K a0 = 12) (hE : cE X n K L M (some (.int r)) 0 0) (hd : 1 ≤ d + 1) : ∀ (g : Nat) (v1 : Int32) (v2 : Int32), f_X12_ruleOf_2 K L fu M a0 g v1 v2 = some r → gW X 0 0 n K L M 2 [(0, va_rf (some a0)), (1, .int v1), (2, .int v2)] []
  | 0, _, _, h => by cases h
  | g + 1, v1, v2, h => w_X12_ruleOf_2b o hL hr hk0 hE (w_X12_ruleOf_2_n o hL hr hk0 hE hd g) hd h
theorem w_X12_ruleOf_2 {X : Cx} {d n : Nat} {K L : Nat → Nat} {fu : Nat} {M : Mm} {a0 : Nat} {r : Int32} {v1 : Int32} {v2 : Int32} (o : cOk X cX12_ruleOf RX12 (d + 1)) (hL : cL X = 5) (hr : (ch X).sig.returnType = some .int) (hk0 : K a0 = 12) (hE : cE X n K L M (some (.int r)) 0 0) (hd : 1 ≤ d + 1) (h : f_X12_ruleOf_2 K L fu M a0 fu v1 v2 = some r) : gW X 0 0 n K L M 2 [(0, va_rf (some a0)), (1, .int v1), (2, .int v2)] [] := w_X12_ruleOf_2_n o hL hr hk0 hE hd fu v1 v2 h
def f_X12_ruleOf (K L : Nat → Nat) (fu : Nat) (M : Mm) (a0 : Nat) (v1 : Int32) : Option Int32 :=
  f_X12_ruleOf_2 K L fu M a0 fu v1 (0 : Int32)
set_option maxHeartbeats 4000000 in
theorem w_X12_ruleOf_0 {X : Cx} {d n : Nat} {K L : Nat → Nat} {fu : Nat} {M : Mm} {a0 : Nat} {r : Int32} {v1 : Int32} (o : cOk X cX12_ruleOf RX12 (d + 1)) (hL : cL X = 5) (hr : (ch X).sig.returnType = some .int) (hk0 : K a0 = 12) (hE : cE X n K L M (some (.int r)) 0 0) (hd : 1 ≤ d + 1) (h : f_X12_ruleOf K L fu M a0 v1 = some r) : gW X 0 0 n K L M 0 [(0, va_rf (some a0)), (1, .int v1)] [] := by
  unfold f_X12_ruleOf at h
  refine g_iconst (v := (0 : Int32)) o dX12_ruleOf_0 (by decide) ?_
  refine g_istore_n (i := 2) (ls' := [(2, .int (0 : Int32)), (0, va_rf (some a0)), (1, .int v1)]) o dX12_ruleOf_1 rfl (ltL hL (by decide)) rfl ?_
  refine gsub [1, 2, 0] rfl ?_
  exact w_X12_ruleOf_2 o hL hr hk0 hE hd h
theorem c_X12_ruleOf (l : Launch) (D : va_G) (Y : Nat → ClassId) (B : Nat) {d : Nat} {n : Nat} {K L : Nat → Nat} {fu : Nat} {M : Mm} {a0 : Nat} {v1 : Int32} {r : Int32} (hd : 1 ≤ d) (hk0 : K a0 = 12) (h : f_X12_ruleOf K L fu M a0 v1 = some r) : mC l D Y B d yX12_ruleOf cX12_ruleOf 5 (some .int) [va_rf (some a0), .int v1] n K L M n K L M (some (.int r)) 0 0 := by
  obtain ⟨d, rfl⟩ : ∃ e, d = e + 1 := ⟨d - 1, by omega⟩
  refine mk_met (by decide) (by simp [lgs_r, lgs_i, lgs_l, lgs_n]) (fun X e1 e2 e3 e4 o hL hr hnm hz hc hs hE => ?_)
  subst e1 e2 e3 e4
  rw [show lv_args 0 [va_rf (some a0), .int v1] = [(0, va_rf (some a0)), (1, .int v1)] by simp [lva_r, lva_i, lva_l, lva_n]]
  exact w_X12_ruleOf_0 o hL hr hk0 hE hd h
def f_X12_wayOfSeat_8b (K L : Nat → Nat) (fu : Nat) (k8 : Int32 → Int32 → Int32 → Option Int32) (M : Mm) (a0 : Nat) (v1 : Int32) (v2 : Int32) (v3 : Int32) : Option Int32 :=
  if (8 : Int32) ≤ v3 then
    some (0 : Int32)
  else
    Option.bind (f_X12_of K L M a0 v1 ((28 : Int32) + v3)) (fun x1 =>
    if v2 < x1 then
      k8 v1 v2 (v3 + 1)
    else
      Option.bind (f_X12_of K L M a0 v1 ((28 : Int32) + v3)) (fun x3 =>
      Option.bind (f_X12_of K L M a0 v1 ((36 : Int32) + v3)) (fun x5 =>
      if (x3 + x5) ≤ v2 then
        k8 v1 v2 (v3 + 1)
      else
        some v3)))
def f_X12_wayOfSeat_8 (K L : Nat → Nat) (fu : Nat) (M : Mm) (a0 : Nat) : Nat → Int32 → Int32 → Int32 → Option Int32
  | 0, _, _, _ => none
  | g + 1, v1, v2, v3 => f_X12_wayOfSeat_8b K L fu (f_X12_wayOfSeat_8 K L fu M a0 g) M a0 v1 v2 v3
set_option maxHeartbeats 4000000 in
theorem w_X12_wayOfSeat_8b {X : Cx} {d n : Nat} {K L : Nat → Nat} {fu : Nat} {M : Mm} {a0 : Nat} {r : Int32} {k8 : Int32 → Int32 → Int32 → Option Int32} {v1 : Int32} {v2 : Int32} {v3 : Int32} (o : cOk X cX12_wayOfSeat RX12 (d + 1)) (hL : cL X = 4) (hr : (ch X).sig.returnType = some .int) (hk0 : K a0 = 12) (hE : cE X n K L M (some (.int r)) 0 0) (hk8 : ∀ (v1 : Int32) (v2 : Int32) (v3 : Int32), k8 v1 v2 v3 = some r → gW X 0 0 n K L M 8 [(0, va_rf (some a0)), (1, .int v1), (2, .int v2), (3, .int v3)] []) (hd : 2 ≤ d + 1) (h : f_X12_wayOfSeat_8b K L fu k8 M a0 v1 v2 v3 = some r) : gW X 0 0 n K L M 8 [(0, va_rf (some a0)), (1, .int v1), (2, .int v2), (3, .int v3)] [] := by
  unfold f_X12_wayOfSeat_8b at h
  refine g_iload_n o dX12_wayOfSeat_8 3 rfl ?_
  refine g_bipush (v := (8 : Int32)) o dX12_wayOfSeat_9 (by decide) ?_
  refine g_icmp_ge (tgt := 58) o dX12_wayOfSeat_11 (by decide) (fun z => ?_) (fun z => ?_)
  · have h := (if_pos z).symm.trans h
    refine g_iconst (v := (0 : Int32)) o dX12_wayOfSeat_58 (by decide) ?_
    cases h
    exact g_iret o hr hE dX12_wayOfSeat_59
  · have h := (if_neg z).symm.trans h
    refine g_iload_n o dX12_wayOfSeat_14 2 rfl ?_
    refine g_aload_n o dX12_wayOfSeat_15 0 rfl ?_
    refine g_iload_n o dX12_wayOfSeat_16 1 rfl ?_
    refine g_bipush (v := (28 : Int32)) o dX12_wayOfSeat_17 (by decide) ?_
    refine g_iload_n o dX12_wayOfSeat_19 3 rfl ?_
    refine g_iadd o dX12_wayOfSeat_20 ?_
    obtain ⟨x1, e2, h⟩ := ob h
    refine g_invV0 o (rc_self hk0) (by decide) ml_X12_43 kb_X12_of kv_X12_of rfl (c_X12_of (cq X) (cD X) (cY X) (cB X) (d := d) (by omega) (rc_at (rc_self hk0)).2 e2) rfl rfl (by simp [cat_i, cat_l, cat_rf]) dX12_wayOfSeat_21 ?_
    refine g_icmp_lt (tgt := 52) o dX12_wayOfSeat_24 (by decide) (fun z => ?_) (fun z => ?_)
    · have h := (if_pos z).symm.trans h
      refine g_iinc (i := 3) (v := v3 + 1) (ls' := [(3, .int (v3 + 1)), (0, va_rf (some a0)), (1, .int v1), (2, .int v2)]) o dX12_wayOfSeat_52 3 rfl (by first | rfl | (congr 1)) (ltL hL (by decide)) rfl ?_
      refine g_goto (tgt := 8) o dX12_wayOfSeat_55 (by decide) ?_
      refine gsub [1, 2, 3, 0] rfl ?_
      exact hk8 _ _ _ h
    · have h := (if_neg z).symm.trans h
      refine g_iload_n o dX12_wayOfSeat_27 2 rfl ?_
      refine g_aload_n o dX12_wayOfSeat_28 0 rfl ?_
      refine g_iload_n o dX12_wayOfSeat_29 1 rfl ?_
      refine g_bipush (v := (28 : Int32)) o dX12_wayOfSeat_30 (by decide) ?_
      refine g_iload_n o dX12_wayOfSeat_32 3 rfl ?_
      refine g_iadd o dX12_wayOfSeat_33 ?_
      obtain ⟨x3, e4, h⟩ := ob h
      refine g_invV0 o (rc_self hk0) (by decide) ml_X12_43 kb_X12_of kv_X12_of rfl (c_X12_of (cq X) (cD X) (cY X) (cB X) (d := d) (by omega) (rc_at (rc_self hk0)).2 e4) rfl rfl (by simp [cat_i, cat_l, cat_rf]) dX12_wayOfSeat_34 ?_
      refine g_aload_n o dX12_wayOfSeat_37 0 rfl ?_
      refine g_iload_n o dX12_wayOfSeat_38 1 rfl ?_
      refine g_bipush (v := (36 : Int32)) o dX12_wayOfSeat_39 (by decide) ?_
      refine g_iload_n o dX12_wayOfSeat_41 3 rfl ?_
      refine g_iadd o dX12_wayOfSeat_42 ?_
      obtain ⟨x5, e6, h⟩ := ob h
      refine g_invV0 o (rc_self hk0) (by decide) ml_X12_43 kb_X12_of kv_X12_of rfl (c_X12_of (cq X) (cD X) (cY X) (cB X) (d := d) (by omega) (rc_at (rc_self hk0)).2 e6) rfl rfl (by simp [cat_i, cat_l, cat_rf]) dX12_wayOfSeat_43 ?_
      refine g_iadd o dX12_wayOfSeat_46 ?_
      refine g_icmp_ge (tgt := 52) o dX12_wayOfSeat_47 (by decide) (fun z => ?_) (fun z => ?_)
      · have h := (if_pos z).symm.trans h
        refine g_iinc (i := 3) (v := v3 + 1) (ls' := [(3, .int (v3 + 1)), (0, va_rf (some a0)), (1, .int v1), (2, .int v2)]) o dX12_wayOfSeat_52 3 rfl (by first | rfl | (congr 1)) (ltL hL (by decide)) rfl ?_
        refine g_goto (tgt := 8) o dX12_wayOfSeat_55 (by decide) ?_
        refine gsub [1, 2, 3, 0] rfl ?_
        exact hk8 _ _ _ h
      · have h := (if_neg z).symm.trans h
        refine g_iload_n o dX12_wayOfSeat_50 3 rfl ?_
        cases h
        exact g_iret o hr hE dX12_wayOfSeat_51
theorem w_X12_wayOfSeat_8_n {X : Cx} {d n : Nat} {K L : Nat → Nat} {fu : Nat} {M : Mm} {a0 : Nat} {r : Int32} (o : cOk X cX12_wayOfSeat RX12 (d + 1)) (hL : cL X = 4) (hr : (ch X).sig.returnType = some .int) (hk0 : K a0 = 12) (hE : cE X n K L M (some (.int r)) 0 0) (hd : 2 ≤ d + 1) : ∀ (g : Nat) (v1 : Int32) (v2 : Int32) (v3 : Int32), f_X12_wayOfSeat_8 K L fu M a0 g v1 v2 v3 = some r → gW X 0 0 n K L M 8 [(0, va_rf (some a0)), (1, .int v1), (2, .int v2), (3, .int v3)] []
  | 0, _, _, _, h => by cases h
  | g + 1, v1, v2, v3, h => w_X12_wayOfSeat_8b o hL hr hk0 hE (w_X12_wayOfSeat_8_n o hL hr hk0 hE hd g) hd h
theorem w_X12_wayOfSeat_8 {X : Cx} {d n : Nat} {K L : Nat → Nat} {fu : Nat} {M : Mm} {a0 : Nat} {r : Int32} {v1 : Int32} {v2 : Int32} {v3 : Int32} (o : cOk X cX12_wayOfSeat RX12 (d + 1)) (hL : cL X = 4) (hr : (ch X).sig.returnType = some .int) (hk0 : K a0 = 12) (hE : cE X n K L M (some (.int r)) 0 0) (hd : 2 ≤ d + 1) (h : f_X12_wayOfSeat_8 K L fu M a0 fu v1 v2 v3 = some r) : gW X 0 0 n K L M 8 [(0, va_rf (some a0)), (1, .int v1), (2, .int v2), (3, .int v3)] [] := w_X12_wayOfSeat_8_n o hL hr hk0 hE hd fu v1 v2 v3 h
def f_X12_wayOfSeat (K L : Nat → Nat) (fu : Nat) (M : Mm) (a0 : Nat) (v1 : Int32) : Option Int32 :=
  Option.bind (f_X12_seatOf K L M a0 v1) (fun x1 =>
  f_X12_wayOfSeat_8 K L fu M a0 fu v1 x1 (1 : Int32))
set_option maxHeartbeats 4000000 in
theorem w_X12_wayOfSeat_0 {X : Cx} {d n : Nat} {K L : Nat → Nat} {fu : Nat} {M : Mm} {a0 : Nat} {r : Int32} {v1 : Int32} (o : cOk X cX12_wayOfSeat RX12 (d + 1)) (hL : cL X = 4) (hr : (ch X).sig.returnType = some .int) (hk0 : K a0 = 12) (hE : cE X n K L M (some (.int r)) 0 0) (hd : 2 ≤ d + 1) (h : f_X12_wayOfSeat K L fu M a0 v1 = some r) : gW X 0 0 n K L M 0 [(0, va_rf (some a0)), (1, .int v1)] [] := by
  unfold f_X12_wayOfSeat at h
  refine g_aload_n o dX12_wayOfSeat_0 0 rfl ?_
  refine g_iload_n o dX12_wayOfSeat_1 1 rfl ?_
  obtain ⟨x1, e2, h⟩ := ob h
  refine g_invV0 o (rc_self hk0) (by decide) ml_X12_91 kb_X12_seatOf kv_X12_seatOf rfl (c_X12_seatOf (cq X) (cD X) (cY X) (cB X) (d := d) (by omega) (rc_at (rc_self hk0)).2 e2) rfl rfl (by simp [cat_i, cat_l, cat_rf]) dX12_wayOfSeat_2 ?_
  refine g_istore_n (i := 2) (ls' := [(2, .int x1), (0, va_rf (some a0)), (1, .int v1)]) o dX12_wayOfSeat_5 rfl (ltL hL (by decide)) rfl ?_
  refine g_iconst (v := (1 : Int32)) o dX12_wayOfSeat_6 (by decide) ?_
  refine g_istore_n (i := 3) (ls' := [(3, .int (1 : Int32)), (2, .int x1), (0, va_rf (some a0)), (1, .int v1)]) o dX12_wayOfSeat_7 rfl (ltL hL (by decide)) rfl ?_
  refine gsub [2, 3, 1, 0] rfl ?_
  exact w_X12_wayOfSeat_8 o hL hr hk0 hE hd h
theorem c_X12_wayOfSeat (l : Launch) (D : va_G) (Y : Nat → ClassId) (B : Nat) {d : Nat} {n : Nat} {K L : Nat → Nat} {fu : Nat} {M : Mm} {a0 : Nat} {v1 : Int32} {r : Int32} (hd : 2 ≤ d) (hk0 : K a0 = 12) (h : f_X12_wayOfSeat K L fu M a0 v1 = some r) : mC l D Y B d yX12_wayOfSeat cX12_wayOfSeat 4 (some .int) [va_rf (some a0), .int v1] n K L M n K L M (some (.int r)) 0 0 := by
  obtain ⟨d, rfl⟩ : ∃ e, d = e + 1 := ⟨d - 1, by omega⟩
  refine mk_met (by decide) (by simp [lgs_r, lgs_i, lgs_l, lgs_n]) (fun X e1 e2 e3 e4 o hL hr hnm hz hc hs hE => ?_)
  subst e1 e2 e3 e4
  rw [show lv_args 0 [va_rf (some a0), .int v1] = [(0, va_rf (some a0)), (1, .int v1)] by simp [lva_r, lva_i, lva_l, lva_n]]
  exact w_X12_wayOfSeat_0 o hL hr hk0 hE hd h
def f_X12_ownWay (K L : Nat → Nat) (fu : Nat) (M : Mm) (a0 : Nat) (v1 : Int32) : Option Int32 :=
  Option.bind (f_X12_ruleOf K L fu M a0 v1) (fun x1 =>
  if x1 ≤ 0 then
    Option.bind (f_X12_wayOfSeat K L fu M a0 v1) (fun x3 =>
    some x3)
  else
    Option.bind (f_X12_of K L M a0 v1 (((4 : Int32) + ((4 : Int32) * (x1 - (1 : Int32)))) + (3 : Int32))) (fun x5 =>
    some x5))
set_option maxHeartbeats 4000000 in
theorem w_X12_ownWay_0 {X : Cx} {d n : Nat} {K L : Nat → Nat} {fu : Nat} {M : Mm} {a0 : Nat} {r : Int32} {v1 : Int32} (o : cOk X cX12_ownWay RX12 (d + 1)) (hL : cL X = 3) (hr : (ch X).sig.returnType = some .int) (hk0 : K a0 = 12) (hE : cE X n K L M (some (.int r)) 0 0) (hd : 3 ≤ d + 1) (h : f_X12_ownWay K L fu M a0 v1 = some r) : gW X 0 0 n K L M 0 [(0, va_rf (some a0)), (1, .int v1)] [] := by
  unfold f_X12_ownWay at h
  refine g_aload_n o dX12_ownWay_0 0 rfl ?_
  refine g_iload_n o dX12_ownWay_1 1 rfl ?_
  obtain ⟨x1, e2, h⟩ := ob h
  refine g_invV0 o (rc_self hk0) (by decide) ml_X12_94 kb_X12_ruleOf kv_X12_ruleOf rfl (c_X12_ruleOf (cq X) (cD X) (cY X) (cB X) (d := d) (by omega) (rc_at (rc_self hk0)).2 e2) rfl rfl (by simp [cat_i, cat_l, cat_rf]) dX12_ownWay_2 ?_
  refine g_istore_n (i := 2) (ls' := [(2, .int x1), (0, va_rf (some a0)), (1, .int v1)]) o dX12_ownWay_5 rfl (ltL hL (by decide)) rfl ?_
  refine g_iload_n o dX12_ownWay_6 0 rfl ?_
  refine g_if_le (tgt := 27) o dX12_ownWay_7 (by decide) (fun z => ?_) (fun z => ?_)
  · have h := (if_pos z).symm.trans h
    refine g_aload_n o dX12_ownWay_27 1 rfl ?_
    refine g_iload_n o dX12_ownWay_28 2 rfl ?_
    obtain ⟨x3, e4, h⟩ := ob h
    refine g_invV0 o (rc_self hk0) (by decide) ml_X12_97 kb_X12_wayOfSeat kv_X12_wayOfSeat rfl (c_X12_wayOfSeat (cq X) (cD X) (cY X) (cB X) (d := d) (by omega) (rc_at (rc_self hk0)).2 e4) rfl rfl (by simp [cat_i, cat_l, cat_rf]) dX12_ownWay_29 ?_
    cases h
    exact g_iret o hr hE dX12_ownWay_32
  · have h := (if_neg z).symm.trans h
    refine g_aload_n o dX12_ownWay_10 1 rfl ?_
    refine g_iload_n o dX12_ownWay_11 2 rfl ?_
    refine g_iconst (v := (4 : Int32)) o dX12_ownWay_12 (by decide) ?_
    refine g_iconst (v := (4 : Int32)) o dX12_ownWay_13 (by decide) ?_
    refine g_iload_n o dX12_ownWay_14 0 rfl ?_
    refine g_iconst (v := (1 : Int32)) o dX12_ownWay_15 (by decide) ?_
    refine g_isub o dX12_ownWay_16 ?_
    refine g_imul o dX12_ownWay_17 ?_
    refine g_iadd o dX12_ownWay_18 ?_
    refine g_iconst (v := (3 : Int32)) o dX12_ownWay_19 (by decide) ?_
    refine g_iadd o dX12_ownWay_20 ?_
    obtain ⟨x5, e6, h⟩ := ob h
    refine g_invV0 o (rc_self hk0) (by decide) ml_X12_43 kb_X12_of kv_X12_of rfl (c_X12_of (cq X) (cD X) (cY X) (cB X) (d := d) (by omega) (rc_at (rc_self hk0)).2 e6) rfl rfl (by simp [cat_i, cat_l, cat_rf]) dX12_ownWay_21 ?_
    refine g_goto (tgt := 32) o dX12_ownWay_24 (by decide) ?_
    cases h
    exact g_iret o hr hE dX12_ownWay_32
theorem c_X12_ownWay (l : Launch) (D : va_G) (Y : Nat → ClassId) (B : Nat) {d : Nat} {n : Nat} {K L : Nat → Nat} {fu : Nat} {M : Mm} {a0 : Nat} {v1 : Int32} {r : Int32} (hd : 3 ≤ d) (hk0 : K a0 = 12) (h : f_X12_ownWay K L fu M a0 v1 = some r) : mC l D Y B d yX12_ownWay cX12_ownWay 3 (some .int) [va_rf (some a0), .int v1] n K L M n K L M (some (.int r)) 0 0 := by
  obtain ⟨d, rfl⟩ : ∃ e, d = e + 1 := ⟨d - 1, by omega⟩
  refine mk_met (by decide) (by simp [lgs_r, lgs_i, lgs_l, lgs_n]) (fun X e1 e2 e3 e4 o hL hr hnm hz hc hs hE => ?_)
  subst e1 e2 e3 e4
  rw [show lv_args 0 [va_rf (some a0), .int v1] = [(0, va_rf (some a0)), (1, .int v1)] by simp [lva_r, lva_i, lva_l, lva_n]]
  exact w_X12_ownWay_0 o hL hr hk0 hE hd h
def f_X12_hangsOn_19 (K L : Nat → Nat) (M : Mm) (a0 : Nat) (s0 : Int32) : Option Int32 :=
  if s0 < 0 then
    some (-1 : Int32)
  else
    Option.bind (f_X12_isSwitch K L M a0 s0) (fun x1 =>
    if x1 = 0 then
      some (-1 : Int32)
    else
      some s0)
set_option maxHeartbeats 4000000 in
theorem w_X12_hangsOn_19 {X : Cx} {d n : Nat} {K L : Nat → Nat} {M : Mm} {a0 : Nat} {r : Int32} {s0 : Int32} (o : cOk X cX12_hangsOn RX12 (d + 1)) (hL : cL X = 3) (hr : (ch X).sig.returnType = some .int) (hk0 : K a0 = 12) (hE : cE X n K L M (some (.int r)) 0 0) (hd : 2 ≤ d + 1) (h : f_X12_hangsOn_19 K L M a0 s0 = some r) : gW X 0 0 n K L M 19 [(0, va_rf (some a0))] [.int s0] := by
  unfold f_X12_hangsOn_19 at h
  refine g_istore_n (i := 2) (ls' := [(2, .int s0), (0, va_rf (some a0))]) o dX12_hangsOn_19 rfl (ltL hL (by decide)) rfl ?_
  refine g_iload_n o dX12_hangsOn_20 0 rfl ?_
  refine g_if_lt (tgt := 36) o dX12_hangsOn_21 (by decide) (fun z => ?_) (fun z => ?_)
  · have h := (if_pos z).symm.trans h
    refine g_iconst (v := (-1 : Int32)) o dX12_hangsOn_36 (by decide) ?_
    cases h
    exact g_iret o hr hE dX12_hangsOn_37
  · have h := (if_neg z).symm.trans h
    refine g_aload_n o dX12_hangsOn_24 1 rfl ?_
    refine g_iload_n o dX12_hangsOn_25 0 rfl ?_
    obtain ⟨x1, e2, h⟩ := ob h
    refine g_invV0 o (rc_self hk0) (by decide) ml_X12_51 kb_X12_isSwitch kv_X12_isSwitch rfl (c_X12_isSwitch (cq X) (cD X) (cY X) (cB X) (d := d) (by omega) (rc_at (rc_self hk0)).2 e2) rfl rfl (by simp [cat_i, cat_l, cat_rf]) dX12_hangsOn_26 ?_
    refine g_if_eq (tgt := 36) o dX12_hangsOn_29 (by decide) (fun z => ?_) (fun z => ?_)
    · have h := (if_pos z).symm.trans h
      refine g_iconst (v := (-1 : Int32)) o dX12_hangsOn_36 (by decide) ?_
      cases h
      exact g_iret o hr hE dX12_hangsOn_37
    · have h := (if_neg z).symm.trans h
      refine g_iload_n o dX12_hangsOn_32 0 rfl ?_
      refine g_goto (tgt := 37) o dX12_hangsOn_33 (by decide) ?_
      cases h
      exact g_iret o hr hE dX12_hangsOn_37
def f_X12_hangsOn (K L : Nat → Nat) (M : Mm) (a0 : Nat) (v1 : Int32) : Option Int32 :=
  Option.bind (f_X12_hangs K L M a0 v1) (fun x1 =>
  if x1 = 0 then
    f_X12_hangsOn_19 K L M a0 (-1 : Int32)
  else
    Option.bind (f_X12_of K L M a0 v1 (44 : Int32)) (fun x3 =>
    f_X12_hangsOn_19 K L M a0 x3))
set_option maxHeartbeats 4000000 in
theorem w_X12_hangsOn_0 {X : Cx} {d n : Nat} {K L : Nat → Nat} {M : Mm} {a0 : Nat} {r : Int32} {v1 : Int32} (o : cOk X cX12_hangsOn RX12 (d + 1)) (hL : cL X = 3) (hr : (ch X).sig.returnType = some .int) (hk0 : K a0 = 12) (hE : cE X n K L M (some (.int r)) 0 0) (hd : 2 ≤ d + 1) (h : f_X12_hangsOn K L M a0 v1 = some r) : gW X 0 0 n K L M 0 [(0, va_rf (some a0)), (1, .int v1)] [] := by
  unfold f_X12_hangsOn at h
  refine g_aload_n o dX12_hangsOn_0 0 rfl ?_
  refine g_iload_n o dX12_hangsOn_1 1 rfl ?_
  obtain ⟨x1, e2, h⟩ := ob h
  refine g_invV0 o (rc_self hk0) (by decide) ml_X12_57 kb_X12_hangs kv_X12_hangs rfl (c_X12_hangs (cq X) (cD X) (cY X) (cB X) (d := d) (by omega) (rc_at (rc_self hk0)).2 e2) rfl rfl (by simp [cat_i, cat_l, cat_rf]) dX12_hangsOn_2 ?_
  refine g_if_eq (tgt := 18) o dX12_hangsOn_5 (by decide) (fun z => ?_) (fun z => ?_)
  · have h := (if_pos z).symm.trans h
    refine g_iconst (v := (-1 : Int32)) o dX12_hangsOn_18 (by decide) ?_
    refine gsub [0] rfl ?_
    exact w_X12_hangsOn_19 o hL hr hk0 hE hd h
  · have h := (if_neg z).symm.trans h
    refine g_aload_n o dX12_hangsOn_8 0 rfl ?_
    refine g_iload_n o dX12_hangsOn_9 1 rfl ?_
    refine g_bipush (v := (44 : Int32)) o dX12_hangsOn_10 (by decide) ?_
    obtain ⟨x3, e4, h⟩ := ob h
    refine g_invV0 o (rc_self hk0) (by decide) ml_X12_43 kb_X12_of kv_X12_of rfl (c_X12_of (cq X) (cD X) (cY X) (cB X) (d := d) (by omega) (rc_at (rc_self hk0)).2 e4) rfl rfl (by simp [cat_i, cat_l, cat_rf]) dX12_hangsOn_12 ?_
    refine g_goto (tgt := 19) o dX12_hangsOn_15 (by decide) ?_
    refine gsub [0] rfl ?_
    exact w_X12_hangsOn_19 o hL hr hk0 hE hd h
theorem c_X12_hangsOn (l : Launch) (D : va_G) (Y : Nat → ClassId) (B : Nat) {d : Nat} {n : Nat} {K L : Nat → Nat} {M : Mm} {a0 : Nat} {v1 : Int32} {r : Int32} (hd : 2 ≤ d) (hk0 : K a0 = 12) (h : f_X12_hangsOn K L M a0 v1 = some r) : mC l D Y B d yX12_hangsOn cX12_hangsOn 3 (some .int) [va_rf (some a0), .int v1] n K L M n K L M (some (.int r)) 0 0 := by
  obtain ⟨d, rfl⟩ : ∃ e, d = e + 1 := ⟨d - 1, by omega⟩
  refine mk_met (by decide) (by simp [lgs_r, lgs_i, lgs_l, lgs_n]) (fun X e1 e2 e3 e4 o hL hr hnm hz hc hs hE => ?_)
  subst e1 e2 e3 e4
  rw [show lv_args 0 [va_rf (some a0), .int v1] = [(0, va_rf (some a0)), (1, .int v1)] by simp [lva_r, lva_i, lva_l, lva_n]]
  exact w_X12_hangsOn_0 o hL hr hk0 hE hd h
def f_X12_stops (K L : Nat → Nat) (M : Mm) (a0 : Nat) (v1 : Int32) (v2 : Int32) : Option Int32 :=
  Option.bind (f_X12_of K L M a0 v1 (0 : Int32)) (fun x1 =>
  if x1 = (5 : Int32) then
    Option.bind (f_X12_of K L M a0 v1 (47 : Int32)) (fun x3 =>
    if x3 = (1 : Int32) then
      Option.bind (f_X12_of K L M a0 v1 (46 : Int32)) (fun x5 =>
      if ((x5 >>> (v2 &&& 31)) &&& (1 : Int32)) = (1 : Int32) then
        some (1 : Int32)
      else
        some (0 : Int32))
    else
      some (0 : Int32))
  else
    some (0 : Int32))
set_option maxHeartbeats 4000000 in
theorem w_X12_stops_0 {X : Cx} {d n : Nat} {K L : Nat → Nat} {M : Mm} {a0 : Nat} {r : Int32} {v1 : Int32} {v2 : Int32} (o : cOk X cX12_stops RX12 (d + 1)) (hL : cL X = 3) (hr : (ch X).sig.returnType = some .boolean) (hk0 : K a0 = 12) (hE : cE X n K L M (some (.int r)) 0 0) (hd : 1 ≤ d + 1) (h : f_X12_stops K L M a0 v1 v2 = some r) : gW X 0 0 n K L M 0 [(0, va_rf (some a0)), (1, .int v1), (2, .int v2)] [] := by
  unfold f_X12_stops at h
  refine g_aload_n o dX12_stops_0 0 rfl ?_
  refine g_iload_n o dX12_stops_1 1 rfl ?_
  refine g_iconst (v := (0 : Int32)) o dX12_stops_2 (by decide) ?_
  obtain ⟨x1, e2, h⟩ := ob h
  refine g_invV0 o (rc_self hk0) (by decide) ml_X12_43 kb_X12_of kv_X12_of rfl (c_X12_of (cq X) (cD X) (cY X) (cB X) (d := d) (by omega) (rc_at (rc_self hk0)).2 e2) rfl rfl (by simp [cat_i, cat_l, cat_rf]) dX12_stops_3 ?_
  refine g_iconst (v := (5 : Int32)) o dX12_stops_6 (by decide) ?_
  refine g_icmp_ne (tgt := 40) o dX12_stops_7 (by decide) (fun z => ?_) (fun z => ?_)
  · have h := (if_neg z).symm.trans h
    refine g_iconst (v := (0 : Int32)) o dX12_stops_40 (by decide) ?_
    cases h
    exact g_zret o hr (by decide) hE dX12_stops_41
  · have h := (if_pos z).symm.trans h
    refine g_aload_n o dX12_stops_10 0 rfl ?_
    refine g_iload_n o dX12_stops_11 1 rfl ?_
    refine g_bipush (v := (47 : Int32)) o dX12_stops_12 (by decide) ?_
    obtain ⟨x3, e4, h⟩ := ob h
    refine g_invV0 o (rc_self hk0) (by decide) ml_X12_43 kb_X12_of kv_X12_of rfl (c_X12_of (cq X) (cD X) (cY X) (cB X) (d := d) (by omega) (rc_at (rc_self hk0)).2 e4) rfl rfl (by simp [cat_i, cat_l, cat_rf]) dX12_stops_14 ?_
    refine g_iconst (v := (1 : Int32)) o dX12_stops_17 (by decide) ?_
    refine g_icmp_ne (tgt := 40) o dX12_stops_18 (by decide) (fun z => ?_) (fun z => ?_)
    · have h := (if_neg z).symm.trans h
      refine g_iconst (v := (0 : Int32)) o dX12_stops_40 (by decide) ?_
      cases h
      exact g_zret o hr (by decide) hE dX12_stops_41
    · have h := (if_pos z).symm.trans h
      refine g_aload_n o dX12_stops_21 0 rfl ?_
      refine g_iload_n o dX12_stops_22 1 rfl ?_
      refine g_bipush (v := (46 : Int32)) o dX12_stops_23 (by decide) ?_
      obtain ⟨x5, e6, h⟩ := ob h
      refine g_invV0 o (rc_self hk0) (by decide) ml_X12_43 kb_X12_of kv_X12_of rfl (c_X12_of (cq X) (cD X) (cY X) (cB X) (d := d) (by omega) (rc_at (rc_self hk0)).2 e6) rfl rfl (by simp [cat_i, cat_l, cat_rf]) dX12_stops_25 ?_
      refine g_iload_n o dX12_stops_28 2 rfl ?_
      refine g_ishr o dX12_stops_29 ?_
      refine g_iconst (v := (1 : Int32)) o dX12_stops_30 (by decide) ?_
      refine g_iand o dX12_stops_31 ?_
      refine g_iconst (v := (1 : Int32)) o dX12_stops_32 (by decide) ?_
      refine g_icmp_ne (tgt := 40) o dX12_stops_33 (by decide) (fun z => ?_) (fun z => ?_)
      · have h := (if_neg z).symm.trans h
        refine g_iconst (v := (0 : Int32)) o dX12_stops_40 (by decide) ?_
        cases h
        exact g_zret o hr (by decide) hE dX12_stops_41
      · have h := (if_pos z).symm.trans h
        refine g_iconst (v := (1 : Int32)) o dX12_stops_36 (by decide) ?_
        refine g_goto (tgt := 41) o dX12_stops_37 (by decide) ?_
        cases h
        exact g_zret o hr (by decide) hE dX12_stops_41
theorem c_X12_stops (l : Launch) (D : va_G) (Y : Nat → ClassId) (B : Nat) {d : Nat} {n : Nat} {K L : Nat → Nat} {M : Mm} {a0 : Nat} {v1 : Int32} {v2 : Int32} {r : Int32} (hd : 1 ≤ d) (hk0 : K a0 = 12) (h : f_X12_stops K L M a0 v1 v2 = some r) : mC l D Y B d yX12_stops cX12_stops 3 (some .boolean) [va_rf (some a0), .int v1, .int v2] n K L M n K L M (some (.int r)) 0 0 := by
  obtain ⟨d, rfl⟩ : ∃ e, d = e + 1 := ⟨d - 1, by omega⟩
  refine mk_met (by decide) (by simp [lgs_r, lgs_i, lgs_l, lgs_n]) (fun X e1 e2 e3 e4 o hL hr hnm hz hc hs hE => ?_)
  subst e1 e2 e3 e4
  rw [show lv_args 0 [va_rf (some a0), .int v1, .int v2] = [(0, va_rf (some a0)), (1, .int v1), (2, .int v2)] by simp [lva_r, lva_i, lva_l, lva_n]]
  exact w_X12_stops_0 o hL hr hk0 hE hd h
def f_X12_isReady_80 (K L : Nat → Nat) (fu : Nat) (k28 : Int32 → Int32 → Int32 → Option Int32) (M : Mm) (a0 : Nat) (v1 : Int32) (v4 : Int32) : Option Int32 :=
  k28 v1 (0 : Int32) (v4 + 1)
set_option maxHeartbeats 4000000 in
theorem w_X12_isReady_80 {X : Cx} {d n : Nat} {K L : Nat → Nat} {fu : Nat} {M : Mm} {a0 : Nat} {r : Int32} {k28 : Int32 → Int32 → Int32 → Option Int32} {v1 : Int32} {v4 : Int32} (o : cOk X cX12_isReady RX12 (d + 1)) (hL : cL X = 6) (hr : (ch X).sig.returnType = some .boolean) (hk0 : K a0 = 12) (hE : cE X n K L M (some (.int r)) 0 0) (hk28 : ∀ (v1 : Int32) (v3 : Int32) (v4 : Int32), k28 v1 v3 v4 = some r → gW X 0 0 n K L M 28 [(0, va_rf (some a0)), (1, .int v1), (3, .int v3), (4, .int v4)] []) (hd : 3 ≤ d + 1) (h : f_X12_isReady_80 K L fu k28 M a0 v1 v4 = some r) : gW X 0 0 n K L M 80 [(0, va_rf (some a0)), (1, .int v1), (4, .int v4)] [] := by
  unfold f_X12_isReady_80 at h
  refine g_iconst (v := (0 : Int32)) o dX12_isReady_80 (by decide) ?_
  refine g_istore_n (i := 3) (ls' := [(3, .int (0 : Int32)), (0, va_rf (some a0)), (1, .int v1), (4, .int v4)]) o dX12_isReady_81 rfl (ltL hL (by decide)) rfl ?_
  refine g_iinc (i := 4) (v := v4 + 1) (ls' := [(4, .int (v4 + 1)), (3, .int (0 : Int32)), (0, va_rf (some a0)), (1, .int v1)]) o dX12_isReady_82 3 rfl (by first | rfl | (congr 1)) (ltL hL (by decide)) rfl ?_
  refine g_goto (tgt := 28) o dX12_isReady_85 (by decide) ?_
  refine gsub [2, 3, 1, 0] rfl ?_
  exact hk28 _ _ _ h
def f_X12_isReady_76 (K L : Nat → Nat) (fu : Nat) (k28 : Int32 → Int32 → Int32 → Option Int32) (M : Mm) (a0 : Nat) (v1 : Int32) (v4 : Int32) : Option Int32 :=
  k28 v1 (1 : Int32) (v4 + 1)
set_option maxHeartbeats 4000000 in
theorem w_X12_isReady_76 {X : Cx} {d n : Nat} {K L : Nat → Nat} {fu : Nat} {M : Mm} {a0 : Nat} {r : Int32} {k28 : Int32 → Int32 → Int32 → Option Int32} {v1 : Int32} {v4 : Int32} (o : cOk X cX12_isReady RX12 (d + 1)) (hL : cL X = 6) (hr : (ch X).sig.returnType = some .boolean) (hk0 : K a0 = 12) (hE : cE X n K L M (some (.int r)) 0 0) (hk28 : ∀ (v1 : Int32) (v3 : Int32) (v4 : Int32), k28 v1 v3 v4 = some r → gW X 0 0 n K L M 28 [(0, va_rf (some a0)), (1, .int v1), (3, .int v3), (4, .int v4)] []) (hd : 3 ≤ d + 1) (h : f_X12_isReady_76 K L fu k28 M a0 v1 v4 = some r) : gW X 0 0 n K L M 76 [(0, va_rf (some a0)), (1, .int v1), (4, .int v4)] [] := by
  unfold f_X12_isReady_76 at h
  refine g_iconst (v := (1 : Int32)) o dX12_isReady_76 (by decide) ?_
  refine g_goto (tgt := 81) o dX12_isReady_77 (by decide) ?_
  refine g_istore_n (i := 3) (ls' := [(3, .int (1 : Int32)), (0, va_rf (some a0)), (1, .int v1), (4, .int v4)]) o dX12_isReady_81 rfl (ltL hL (by decide)) rfl ?_
  refine g_iinc (i := 4) (v := v4 + 1) (ls' := [(4, .int (v4 + 1)), (3, .int (1 : Int32)), (0, va_rf (some a0)), (1, .int v1)]) o dX12_isReady_82 3 rfl (by first | rfl | (congr 1)) (ltL hL (by decide)) rfl ?_
  refine g_goto (tgt := 28) o dX12_isReady_85 (by decide) ?_
  refine gsub [2, 3, 1, 0] rfl ?_
  exact hk28 _ _ _ h
def f_X12_isReady_55 (K L : Nat → Nat) (fu : Nat) (k28 : Int32 → Int32 → Int32 → Option Int32) (M : Mm) (a0 : Nat) (v1 : Int32) (v3 : Int32) (v4 : Int32) (s0 : Int32) : Option Int32 :=
  if v3 = 0 then
    f_X12_isReady_80 K L fu k28 M a0 v1 v4
  else
    if s0 < 0 then
      f_X12_isReady_76 K L fu k28 M a0 v1 v4
    else
      Option.bind (rx K L (mm_R M (32 * 12 + 13) a0) 15 s0) (fun a1 =>
      if (mm_A M a1 s0.toNatClampNeg) = 0 then
        f_X12_isReady_80 K L fu k28 M a0 v1 v4
      else
        f_X12_isReady_76 K L fu k28 M a0 v1 v4)
set_option maxHeartbeats 4000000 in
theorem w_X12_isReady_55 {X : Cx} {d n : Nat} {K L : Nat → Nat} {fu : Nat} {M : Mm} {a0 : Nat} {r : Int32} {k28 : Int32 → Int32 → Int32 → Option Int32} {v1 : Int32} {v3 : Int32} {v4 : Int32} {s0 : Int32} (o : cOk X cX12_isReady RX12 (d + 1)) (hL : cL X = 6) (hr : (ch X).sig.returnType = some .boolean) (hk0 : K a0 = 12) (hE : cE X n K L M (some (.int r)) 0 0) (hk28 : ∀ (v1 : Int32) (v3 : Int32) (v4 : Int32), k28 v1 v3 v4 = some r → gW X 0 0 n K L M 28 [(0, va_rf (some a0)), (1, .int v1), (3, .int v3), (4, .int v4)] []) (hd : 3 ≤ d + 1) (h : f_X12_isReady_55 K L fu k28 M a0 v1 v3 v4 s0 = some r) : gW X 0 0 n K L M 55 [(0, va_rf (some a0)), (1, .int v1), (3, .int v3), (4, .int v4)] [.int s0] := by
  unfold f_X12_isReady_55 at h
  refine g_istore (i := 5) (ls' := [(5, .int s0), (0, va_rf (some a0)), (1, .int v1), (3, .int v3), (4, .int v4)]) o dX12_isReady_55 (ltL hL (by decide)) rfl ?_
  refine g_iload_n o dX12_isReady_57 3 rfl ?_
  refine g_if_eq (tgt := 80) o dX12_isReady_58 (by decide) (fun z => ?_) (fun z => ?_)
  · have h := (if_pos z).symm.trans h
    refine gsub [1, 2, 4] rfl ?_
    exact w_X12_isReady_80 o hL hr hk0 hE hk28 hd h
  · have h := (if_neg z).symm.trans h
    refine g_iload o dX12_isReady_61 0 rfl ?_
    refine g_if_lt (tgt := 76) o dX12_isReady_63 (by decide) (fun z => ?_) (fun z => ?_)
    · have h := (if_pos z).symm.trans h
      refine gsub [1, 2, 4] rfl ?_
      exact w_X12_isReady_76 o hL hr hk0 hE hk28 hd h
    · have h := (if_neg z).symm.trans h
      refine g_aload_n o dX12_isReady_66 1 rfl ?_
      refine g_getR o fl_X12_33 (rc_self hk0) (by decide) rfl dX12_isReady_67 ?_
      refine g_iload o dX12_isReady_70 0 rfl ?_
      obtain ⟨a1, e2, h⟩ := ob h
      refine g_zald o e2 dX12_isReady_72 ?_
      refine g_if_eq (tgt := 80) o dX12_isReady_73 (by decide) (fun z => ?_) (fun z => ?_)
      · have h := (if_pos z).symm.trans h
        refine gsub [1, 2, 4] rfl ?_
        exact w_X12_isReady_80 o hL hr hk0 hE hk28 hd h
      · have h := (if_neg z).symm.trans h
        refine gsub [1, 2, 4] rfl ?_
        exact w_X12_isReady_76 o hL hr hk0 hE hk28 hd h
def f_X12_isReady_28b (K L : Nat → Nat) (fu : Nat) (k28 : Int32 → Int32 → Int32 → Option Int32) (M : Mm) (a0 : Nat) (v1 : Int32) (v3 : Int32) (v4 : Int32) : Option Int32 :=
  if (16 : Int32) ≤ v4 then
    Option.bind (zb v3) (fun u2 =>
    some v3)
  else
    Option.bind (f_X12_stops K L M a0 v4 v1) (fun x3 =>
    if x3 = 0 then
      f_X12_isReady_55 K L fu k28 M a0 v1 v3 v4 (-1 : Int32)
    else
      Option.bind (f_X12_hangsOn K L M a0 v4) (fun x5 =>
      f_X12_isReady_55 K L fu k28 M a0 v1 v3 v4 x5))
def f_X12_isReady_28 (K L : Nat → Nat) (fu : Nat) (M : Mm) (a0 : Nat) : Nat → Int32 → Int32 → Int32 → Option Int32
  | 0, _, _, _ => none
  | g + 1, v1, v3, v4 => f_X12_isReady_28b K L fu (f_X12_isReady_28 K L fu M a0 g) M a0 v1 v3 v4
set_option maxHeartbeats 4000000 in
theorem w_X12_isReady_28b {X : Cx} {d n : Nat} {K L : Nat → Nat} {fu : Nat} {M : Mm} {a0 : Nat} {r : Int32} {k28 : Int32 → Int32 → Int32 → Option Int32} {v1 : Int32} {v3 : Int32} {v4 : Int32} (o : cOk X cX12_isReady RX12 (d + 1)) (hL : cL X = 6) (hr : (ch X).sig.returnType = some .boolean) (hk0 : K a0 = 12) (hE : cE X n K L M (some (.int r)) 0 0) (hk28 : ∀ (v1 : Int32) (v3 : Int32) (v4 : Int32), k28 v1 v3 v4 = some r → gW X 0 0 n K L M 28 [(0, va_rf (some a0)), (1, .int v1), (3, .int v3), (4, .int v4)] []) (hd : 3 ≤ d + 1) (h : f_X12_isReady_28b K L fu k28 M a0 v1 v3 v4 = some r) : gW X 0 0 n K L M 28 [(0, va_rf (some a0)), (1, .int v1), (3, .int v3), (4, .int v4)] [] := by
  unfold f_X12_isReady_28b at h
  refine g_iload o dX12_isReady_28 3 rfl ?_
  refine g_bipush (v := (16 : Int32)) o dX12_isReady_30 (by decide) ?_
  refine g_icmp_ge (tgt := 88) o dX12_isReady_32 (by decide) (fun z => ?_) (fun z => ?_)
  · have h := (if_pos z).symm.trans h
    refine g_iload_n o dX12_isReady_88 2 rfl ?_
    obtain ⟨u2, e1, h⟩ := ob h
    cases h
    exact g_zret o hr (zb_at e1) hE dX12_isReady_89
  · have h := (if_neg z).symm.trans h
    refine g_aload_n o dX12_isReady_35 0 rfl ?_
    refine g_iload o dX12_isReady_36 3 rfl ?_
    refine g_iload_n o dX12_isReady_38 1 rfl ?_
    obtain ⟨x3, e4, h⟩ := ob h
    refine g_invV0 o (rc_self hk0) (by decide) ml_X12_103 kb_X12_stops kv_X12_stops rfl (c_X12_stops (cq X) (cD X) (cY X) (cB X) (d := d) (by omega) (rc_at (rc_self hk0)).2 e4) rfl rfl (by simp [cat_i, cat_l, cat_rf]) dX12_isReady_39 ?_
    refine g_if_eq (tgt := 54) o dX12_isReady_42 (by decide) (fun z => ?_) (fun z => ?_)
    · have h := (if_pos z).symm.trans h
      refine g_iconst (v := (-1 : Int32)) o dX12_isReady_54 (by decide) ?_
      exact w_X12_isReady_55 o hL hr hk0 hE hk28 hd h
    · have h := (if_neg z).symm.trans h
      refine g_aload_n o dX12_isReady_45 0 rfl ?_
      refine g_iload o dX12_isReady_46 3 rfl ?_
      obtain ⟨x5, e6, h⟩ := ob h
      refine g_invV0 o (rc_self hk0) (by decide) ml_X12_100 kb_X12_hangsOn kv_X12_hangsOn rfl (c_X12_hangsOn (cq X) (cD X) (cY X) (cB X) (d := d) (by omega) (rc_at (rc_self hk0)).2 e6) rfl rfl (by simp [cat_i, cat_l, cat_rf]) dX12_isReady_48 ?_
      refine g_goto (tgt := 55) o dX12_isReady_51 (by decide) ?_
      exact w_X12_isReady_55 o hL hr hk0 hE hk28 hd h
theorem w_X12_isReady_28_n {X : Cx} {d n : Nat} {K L : Nat → Nat} {fu : Nat} {M : Mm} {a0 : Nat} {r : Int32} (o : cOk X cX12_isReady RX12 (d + 1)) (hL : cL X = 6) (hr : (ch X).sig.returnType = some .boolean) (hk0 : K a0 = 12) (hE : cE X n K L M (some (.int r)) 0 0) (hd : 3 ≤ d + 1) : ∀ (g : Nat) (v1 : Int32) (v3 : Int32) (v4 : Int32), f_X12_isReady_28 K L fu M a0 g v1 v3 v4 = some r → gW X 0 0 n K L M 28 [(0, va_rf (some a0)), (1, .int v1), (3, .int v3), (4, .int v4)] []
  | 0, _, _, _, h => by cases h
  | g + 1, v1, v3, v4, h => w_X12_isReady_28b o hL hr hk0 hE (w_X12_isReady_28_n o hL hr hk0 hE hd g) hd h
theorem w_X12_isReady_28 {X : Cx} {d n : Nat} {K L : Nat → Nat} {fu : Nat} {M : Mm} {a0 : Nat} {r : Int32} {v1 : Int32} {v3 : Int32} {v4 : Int32} (o : cOk X cX12_isReady RX12 (d + 1)) (hL : cL X = 6) (hr : (ch X).sig.returnType = some .boolean) (hk0 : K a0 = 12) (hE : cE X n K L M (some (.int r)) 0 0) (hd : 3 ≤ d + 1) (h : f_X12_isReady_28 K L fu M a0 fu v1 v3 v4 = some r) : gW X 0 0 n K L M 28 [(0, va_rf (some a0)), (1, .int v1), (3, .int v3), (4, .int v4)] [] := w_X12_isReady_28_n o hL hr hk0 hE hd fu v1 v3 v4 h
def f_X12_isReady_24 (K L : Nat → Nat) (fu : Nat) (M : Mm) (a0 : Nat) (v1 : Int32) (s0 : Int32) : Option Int32 :=
  f_X12_isReady_28 K L fu M a0 fu v1 s0 (0 : Int32)
set_option maxHeartbeats 4000000 in
theorem w_X12_isReady_24 {X : Cx} {d n : Nat} {K L : Nat → Nat} {fu : Nat} {M : Mm} {a0 : Nat} {r : Int32} {v1 : Int32} {s0 : Int32} (o : cOk X cX12_isReady RX12 (d + 1)) (hL : cL X = 6) (hr : (ch X).sig.returnType = some .boolean) (hk0 : K a0 = 12) (hE : cE X n K L M (some (.int r)) 0 0) (hd : 3 ≤ d + 1) (h : f_X12_isReady_24 K L fu M a0 v1 s0 = some r) : gW X 0 0 n K L M 24 [(0, va_rf (some a0)), (1, .int v1)] [.int s0] := by
  unfold f_X12_isReady_24 at h
  refine g_istore_n (i := 3) (ls' := [(3, .int s0), (0, va_rf (some a0)), (1, .int v1)]) o dX12_isReady_24 rfl (ltL hL (by decide)) rfl ?_
  refine g_iconst (v := (0 : Int32)) o dX12_isReady_25 (by decide) ?_
  refine g_istore (i := 4) (ls' := [(4, .int (0 : Int32)), (3, .int s0), (0, va_rf (some a0)), (1, .int v1)]) o dX12_isReady_26 (ltL hL (by decide)) rfl ?_
  refine gsub [2, 3, 1, 0] rfl ?_
  exact w_X12_isReady_28 o hL hr hk0 hE hd h
def f_X12_isReady_19 (K L : Nat → Nat) (fu : Nat) (M : Mm) (a0 : Nat) (v1 : Int32) : Option Int32 :=
  f_X12_isReady_24 K L fu M a0 v1 (1 : Int32)
set_option maxHeartbeats 4000000 in
theorem w_X12_isReady_19 {X : Cx} {d n : Nat} {K L : Nat → Nat} {fu : Nat} {M : Mm} {a0 : Nat} {r : Int32} {v1 : Int32} (o : cOk X cX12_isReady RX12 (d + 1)) (hL : cL X = 6) (hr : (ch X).sig.returnType = some .boolean) (hk0 : K a0 = 12) (hE : cE X n K L M (some (.int r)) 0 0) (hd : 3 ≤ d + 1) (h : f_X12_isReady_19 K L fu M a0 v1 = some r) : gW X 0 0 n K L M 19 [(0, va_rf (some a0)), (1, .int v1)] [] := by
  unfold f_X12_isReady_19 at h
  refine g_iconst (v := (1 : Int32)) o dX12_isReady_19 (by decide) ?_
  refine g_goto (tgt := 24) o dX12_isReady_20 (by decide) ?_
  exact w_X12_isReady_24 o hL hr hk0 hE hd h
def f_X12_isReady (K L : Nat → Nat) (fu : Nat) (M : Mm) (a0 : Nat) (v1 : Int32) : Option Int32 :=
  Option.bind (f_X12_hangsOn K L M a0 v1) (fun x1 =>
  if x1 < 0 then
    f_X12_isReady_19 K L fu M a0 v1
  else
    Option.bind (rx K L (mm_R M (32 * 12 + 13) a0) 15 x1) (fun a3 =>
    if (mm_A M a3 x1.toNatClampNeg) = 0 then
      f_X12_isReady_24 K L fu M a0 v1 (0 : Int32)
    else
      f_X12_isReady_19 K L fu M a0 v1))
set_option maxHeartbeats 4000000 in
theorem w_X12_isReady_0 {X : Cx} {d n : Nat} {K L : Nat → Nat} {fu : Nat} {M : Mm} {a0 : Nat} {r : Int32} {v1 : Int32} (o : cOk X cX12_isReady RX12 (d + 1)) (hL : cL X = 6) (hr : (ch X).sig.returnType = some .boolean) (hk0 : K a0 = 12) (hE : cE X n K L M (some (.int r)) 0 0) (hd : 3 ≤ d + 1) (h : f_X12_isReady K L fu M a0 v1 = some r) : gW X 0 0 n K L M 0 [(0, va_rf (some a0)), (1, .int v1)] [] := by
  unfold f_X12_isReady at h
  refine g_aload_n o dX12_isReady_0 0 rfl ?_
  refine g_iload_n o dX12_isReady_1 1 rfl ?_
  obtain ⟨x1, e2, h⟩ := ob h
  refine g_invV0 o (rc_self hk0) (by decide) ml_X12_100 kb_X12_hangsOn kv_X12_hangsOn rfl (c_X12_hangsOn (cq X) (cD X) (cY X) (cB X) (d := d) (by omega) (rc_at (rc_self hk0)).2 e2) rfl rfl (by simp [cat_i, cat_l, cat_rf]) dX12_isReady_2 ?_
  refine g_istore_n (i := 2) (ls' := [(2, .int x1), (0, va_rf (some a0)), (1, .int v1)]) o dX12_isReady_5 rfl (ltL hL (by decide)) rfl ?_
  refine g_iload_n o dX12_isReady_6 0 rfl ?_
  refine g_if_lt (tgt := 19) o dX12_isReady_7 (by decide) (fun z => ?_) (fun z => ?_)
  · have h := (if_pos z).symm.trans h
    refine gsub [1, 2] rfl ?_
    exact w_X12_isReady_19 o hL hr hk0 hE hd h
  · have h := (if_neg z).symm.trans h
    refine g_aload_n o dX12_isReady_10 1 rfl ?_
    refine g_getR o fl_X12_33 (rc_self hk0) (by decide) rfl dX12_isReady_11 ?_
    refine g_iload_n o dX12_isReady_14 0 rfl ?_
    obtain ⟨a3, e4, h⟩ := ob h
    refine g_zald o e4 dX12_isReady_15 ?_
    refine g_if_eq (tgt := 23) o dX12_isReady_16 (by decide) (fun z => ?_) (fun z => ?_)
    · have h := (if_pos z).symm.trans h
      refine g_iconst (v := (0 : Int32)) o dX12_isReady_23 (by decide) ?_
      refine gsub [1, 2] rfl ?_
      exact w_X12_isReady_24 o hL hr hk0 hE hd h
    · have h := (if_neg z).symm.trans h
      refine gsub [1, 2] rfl ?_
      exact w_X12_isReady_19 o hL hr hk0 hE hd h
theorem c_X12_isReady (l : Launch) (D : va_G) (Y : Nat → ClassId) (B : Nat) {d : Nat} {n : Nat} {K L : Nat → Nat} {fu : Nat} {M : Mm} {a0 : Nat} {v1 : Int32} {r : Int32} (hd : 3 ≤ d) (hk0 : K a0 = 12) (h : f_X12_isReady K L fu M a0 v1 = some r) : mC l D Y B d yX12_isReady cX12_isReady 6 (some .boolean) [va_rf (some a0), .int v1] n K L M n K L M (some (.int r)) 0 0 := by
  obtain ⟨d, rfl⟩ : ∃ e, d = e + 1 := ⟨d - 1, by omega⟩
  refine mk_met (by decide) (by simp [lgs_r, lgs_i, lgs_l, lgs_n]) (fun X e1 e2 e3 e4 o hL hr hnm hz hc hs hE => ?_)
  subst e1 e2 e3 e4
  rw [show lv_args 0 [va_rf (some a0), .int v1] = [(0, va_rf (some a0)), (1, .int v1)] by simp [lva_r, lva_i, lva_l, lva_n]]
  exact w_X12_isReady_0 o hL hr hk0 hE hd h
def f_X12_stoppedBy_2b (K L : Nat → Nat) (fu : Nat) (k2 : Int32 → Int32 → Option Int32) (M : Mm) (a0 : Nat) (v1 : Int32) (v2 : Int32) : Option Int32 :=
  if (16 : Int32) ≤ v2 then
    some (-1 : Int32)
  else
    Option.bind (f_X12_hangsOn K L M a0 v2) (fun x1 =>
    Option.bind (f_X12_stops K L M a0 v2 v1) (fun x3 =>
    if x3 = 0 then
      k2 v1 (v2 + 1)
    else
      if x1 < 0 then
        some v2
      else
        Option.bind (rx K L (mm_R M (32 * 12 + 12) a0) 13 x1) (fun a5 =>
        Option.bind (f_X12_of K L M a0 v2 (45 : Int32)) (fun x7 =>
        if (mm_A M a5 x1.toNatClampNeg) = x7 then
          some v2
        else
          k2 v1 (v2 + 1)))))
def f_X12_stoppedBy_2 (K L : Nat → Nat) (fu : Nat) (M : Mm) (a0 : Nat) : Nat → Int32 → Int32 → Option Int32
  | 0, _, _ => none
  | g + 1, v1, v2 => f_X12_stoppedBy_2b K L fu (f_X12_stoppedBy_2 K L fu M a0 g) M a0 v1 v2
set_option maxHeartbeats 4000000 in
theorem w_X12_stoppedBy_2b {X : Cx} {d n : Nat} {K L : Nat → Nat} {fu : Nat} {M : Mm} {a0 : Nat} {r : Int32} {k2 : Int32 → Int32 → Option Int32} {v1 : Int32} {v2 : Int32} (o : cOk X cX12_stoppedBy RX12 (d + 1)) (hL : cL X = 4) (hr : (ch X).sig.returnType = some .int) (hk0 : K a0 = 12) (hE : cE X n K L M (some (.int r)) 0 0) (hk2 : ∀ (v1 : Int32) (v2 : Int32), k2 v1 v2 = some r → gW X 0 0 n K L M 2 [(0, va_rf (some a0)), (1, .int v1), (2, .int v2)] []) (hd : 3 ≤ d + 1) (h : f_X12_stoppedBy_2b K L fu k2 M a0 v1 v2 = some r) : gW X 0 0 n K L M 2 [(0, va_rf (some a0)), (1, .int v1), (2, .int v2)] [] := by
  unfold f_X12_stoppedBy_2b at h
  refine g_iload_n o dX12_stoppedBy_2 2 rfl ?_
  refine g_bipush (v := (16 : Int32)) o dX12_stoppedBy_3 (by decide) ?_
  refine g_icmp_ge (tgt := 51) o dX12_stoppedBy_5 (by decide) (fun z => ?_) (fun z => ?_)
  · have h := (if_pos z).symm.trans h
    refine g_iconst (v := (-1 : Int32)) o dX12_stoppedBy_51 (by decide) ?_
    cases h
    exact g_iret o hr hE dX12_stoppedBy_52
  · have h := (if_neg z).symm.trans h
    refine g_aload_n o dX12_stoppedBy_8 0 rfl ?_
    refine g_iload_n o dX12_stoppedBy_9 2 rfl ?_
    obtain ⟨x1, e2, h⟩ := ob h
    refine g_invV0 o (rc_self hk0) (by decide) ml_X12_100 kb_X12_hangsOn kv_X12_hangsOn rfl (c_X12_hangsOn (cq X) (cD X) (cY X) (cB X) (d := d) (by omega) (rc_at (rc_self hk0)).2 e2) rfl rfl (by simp [cat_i, cat_l, cat_rf]) dX12_stoppedBy_10 ?_
    refine g_istore_n (i := 3) (ls' := [(3, .int x1), (0, va_rf (some a0)), (1, .int v1), (2, .int v2)]) o dX12_stoppedBy_13 rfl (ltL hL (by decide)) rfl ?_
    refine g_aload_n o dX12_stoppedBy_14 1 rfl ?_
    refine g_iload_n o dX12_stoppedBy_15 3 rfl ?_
    refine g_iload_n o dX12_stoppedBy_16 2 rfl ?_
    obtain ⟨x3, e4, h⟩ := ob h
    refine g_invV0 o (rc_self hk0) (by decide) ml_X12_103 kb_X12_stops kv_X12_stops rfl (c_X12_stops (cq X) (cD X) (cY X) (cB X) (d := d) (by omega) (rc_at (rc_self hk0)).2 e4) rfl rfl (by simp [cat_i, cat_l, cat_rf]) dX12_stoppedBy_17 ?_
    refine g_if_eq (tgt := 45) o dX12_stoppedBy_20 (by decide) (fun z => ?_) (fun z => ?_)
    · have h := (if_pos z).symm.trans h
      refine g_iinc (i := 2) (v := v2 + 1) (ls' := [(2, .int (v2 + 1)), (3, .int x1), (0, va_rf (some a0)), (1, .int v1)]) o dX12_stoppedBy_45 3 rfl (by first | rfl | (congr 1)) (ltL hL (by decide)) rfl ?_
      refine g_goto (tgt := 2) o dX12_stoppedBy_48 (by decide) ?_
      refine gsub [2, 3, 0] rfl ?_
      exact hk2 _ _ h
    · have h := (if_neg z).symm.trans h
      refine g_iload_n o dX12_stoppedBy_23 0 rfl ?_
      refine g_if_lt (tgt := 43) o dX12_stoppedBy_24 (by decide) (fun z => ?_) (fun z => ?_)
      · have h := (if_pos z).symm.trans h
        refine g_iload_n o dX12_stoppedBy_43 3 rfl ?_
        cases h
        exact g_iret o hr hE dX12_stoppedBy_44
      · have h := (if_neg z).symm.trans h
        refine g_aload_n o dX12_stoppedBy_27 1 rfl ?_
        refine g_getR o fl_X12_30 (rc_self hk0) (by decide) rfl dX12_stoppedBy_28 ?_
        refine g_iload_n o dX12_stoppedBy_31 0 rfl ?_
        obtain ⟨a5, e6, h⟩ := ob h
        refine g_iald o e6 dX12_stoppedBy_32 ?_
        refine g_aload_n o dX12_stoppedBy_33 1 rfl ?_
        refine g_iload_n o dX12_stoppedBy_34 3 rfl ?_
        refine g_bipush (v := (45 : Int32)) o dX12_stoppedBy_35 (by decide) ?_
        obtain ⟨x7, e8, h⟩ := ob h
        refine g_invV0 o (rc_self hk0) (by decide) ml_X12_43 kb_X12_of kv_X12_of rfl (c_X12_of (cq X) (cD X) (cY X) (cB X) (d := d) (by omega) (rc_at (rc_self hk0)).2 e8) rfl rfl (by simp [cat_i, cat_l, cat_rf]) dX12_stoppedBy_37 ?_
        refine g_icmp_ne (tgt := 45) o dX12_stoppedBy_40 (by decide) (fun z => ?_) (fun z => ?_)
        · have h := (if_neg z).symm.trans h
          refine g_iinc (i := 2) (v := v2 + 1) (ls' := [(2, .int (v2 + 1)), (3, .int x1), (0, va_rf (some a0)), (1, .int v1)]) o dX12_stoppedBy_45 3 rfl (by first | rfl | (congr 1)) (ltL hL (by decide)) rfl ?_
          refine g_goto (tgt := 2) o dX12_stoppedBy_48 (by decide) ?_
          refine gsub [2, 3, 0] rfl ?_
          exact hk2 _ _ h
        · have h := (if_pos z).symm.trans h
          refine g_iload_n o dX12_stoppedBy_43 3 rfl ?_
          cases h
          exact g_iret o hr hE dX12_stoppedBy_44
theorem w_X12_stoppedBy_2_n {X : Cx} {d n : Nat} {K L : Nat → Nat} {fu : Nat} {M : Mm} {a0 : Nat} {r : Int32} (o : cOk X cX12_stoppedBy RX12 (d + 1)) (hL : cL X = 4) (hr : (ch X).sig.returnType = some .int) (hk0 : K a0 = 12) (hE : cE X n K L M (some (.int r)) 0 0) (hd : 3 ≤ d + 1) : ∀ (g : Nat) (v1 : Int32) (v2 : Int32), f_X12_stoppedBy_2 K L fu M a0 g v1 v2 = some r → gW X 0 0 n K L M 2 [(0, va_rf (some a0)), (1, .int v1), (2, .int v2)] []
  | 0, _, _, h => by cases h
  | g + 1, v1, v2, h => w_X12_stoppedBy_2b o hL hr hk0 hE (w_X12_stoppedBy_2_n o hL hr hk0 hE hd g) hd h
theorem w_X12_stoppedBy_2 {X : Cx} {d n : Nat} {K L : Nat → Nat} {fu : Nat} {M : Mm} {a0 : Nat} {r : Int32} {v1 : Int32} {v2 : Int32} (o : cOk X cX12_stoppedBy RX12 (d + 1)) (hL : cL X = 4) (hr : (ch X).sig.returnType = some .int) (hk0 : K a0 = 12) (hE : cE X n K L M (some (.int r)) 0 0) (hd : 3 ≤ d + 1) (h : f_X12_stoppedBy_2 K L fu M a0 fu v1 v2 = some r) : gW X 0 0 n K L M 2 [(0, va_rf (some a0)), (1, .int v1), (2, .int v2)] [] := w_X12_stoppedBy_2_n o hL hr hk0 hE hd fu v1 v2 h
def f_X12_stoppedBy (K L : Nat → Nat) (fu : Nat) (M : Mm) (a0 : Nat) (v1 : Int32) : Option Int32 :=
  f_X12_stoppedBy_2 K L fu M a0 fu v1 (0 : Int32)
set_option maxHeartbeats 4000000 in
theorem w_X12_stoppedBy_0 {X : Cx} {d n : Nat} {K L : Nat → Nat} {fu : Nat} {M : Mm} {a0 : Nat} {r : Int32} {v1 : Int32} (o : cOk X cX12_stoppedBy RX12 (d + 1)) (hL : cL X = 4) (hr : (ch X).sig.returnType = some .int) (hk0 : K a0 = 12) (hE : cE X n K L M (some (.int r)) 0 0) (hd : 3 ≤ d + 1) (h : f_X12_stoppedBy K L fu M a0 v1 = some r) : gW X 0 0 n K L M 0 [(0, va_rf (some a0)), (1, .int v1)] [] := by
  unfold f_X12_stoppedBy at h
  refine g_iconst (v := (0 : Int32)) o dX12_stoppedBy_0 (by decide) ?_
  refine g_istore_n (i := 2) (ls' := [(2, .int (0 : Int32)), (0, va_rf (some a0)), (1, .int v1)]) o dX12_stoppedBy_1 rfl (ltL hL (by decide)) rfl ?_
  refine gsub [1, 2, 0] rfl ?_
  exact w_X12_stoppedBy_2 o hL hr hk0 hE hd h
theorem c_X12_stoppedBy (l : Launch) (D : va_G) (Y : Nat → ClassId) (B : Nat) {d : Nat} {n : Nat} {K L : Nat → Nat} {fu : Nat} {M : Mm} {a0 : Nat} {v1 : Int32} {r : Int32} (hd : 3 ≤ d) (hk0 : K a0 = 12) (h : f_X12_stoppedBy K L fu M a0 v1 = some r) : mC l D Y B d yX12_stoppedBy cX12_stoppedBy 4 (some .int) [va_rf (some a0), .int v1] n K L M n K L M (some (.int r)) 0 0 := by
  obtain ⟨d, rfl⟩ : ∃ e, d = e + 1 := ⟨d - 1, by omega⟩
  refine mk_met (by decide) (by simp [lgs_r, lgs_i, lgs_l, lgs_n]) (fun X e1 e2 e3 e4 o hL hr hnm hz hc hs hE => ?_)
  subst e1 e2 e3 e4
  rw [show lv_args 0 [va_rf (some a0), .int v1] = [(0, va_rf (some a0)), (1, .int v1)] by simp [lva_r, lva_i, lva_l, lva_n]]
  exact w_X12_stoppedBy_0 o hL hr hk0 hE hd h
def f_X12_isOther (K L : Nat → Nat) (M : Mm) (a0 : Nat) (v1 : Int32) : Option Int32 :=
  Option.bind (f_X12_hangsOn K L M a0 v1) (fun x1 =>
  if x1 < 0 then
    some (0 : Int32)
  else
    Option.bind (rx K L (mm_R M (32 * 12 + 12) a0) 13 x1) (fun a3 =>
    Option.bind (f_X12_of K L M a0 v1 (45 : Int32)) (fun x5 =>
    if (mm_A M a3 x1.toNatClampNeg) = x5 then
      some (0 : Int32)
    else
      some (1 : Int32))))
set_option maxHeartbeats 4000000 in
theorem w_X12_isOther_0 {X : Cx} {d n : Nat} {K L : Nat → Nat} {M : Mm} {a0 : Nat} {r : Int32} {v1 : Int32} (o : cOk X cX12_isOther RX12 (d + 1)) (hL : cL X = 3) (hr : (ch X).sig.returnType = some .boolean) (hk0 : K a0 = 12) (hE : cE X n K L M (some (.int r)) 0 0) (hd : 3 ≤ d + 1) (h : f_X12_isOther K L M a0 v1 = some r) : gW X 0 0 n K L M 0 [(0, va_rf (some a0)), (1, .int v1)] [] := by
  unfold f_X12_isOther at h
  refine g_aload_n o dX12_isOther_0 0 rfl ?_
  refine g_iload_n o dX12_isOther_1 1 rfl ?_
  obtain ⟨x1, e2, h⟩ := ob h
  refine g_invV0 o (rc_self hk0) (by decide) ml_X12_100 kb_X12_hangsOn kv_X12_hangsOn rfl (c_X12_hangsOn (cq X) (cD X) (cY X) (cB X) (d := d) (by omega) (rc_at (rc_self hk0)).2 e2) rfl rfl (by simp [cat_i, cat_l, cat_rf]) dX12_isOther_2 ?_
  refine g_istore_n (i := 2) (ls' := [(2, .int x1), (0, va_rf (some a0)), (1, .int v1)]) o dX12_isOther_5 rfl (ltL hL (by decide)) rfl ?_
  refine g_iload_n o dX12_isOther_6 0 rfl ?_
  refine g_if_lt (tgt := 30) o dX12_isOther_7 (by decide) (fun z => ?_) (fun z => ?_)
  · have h := (if_pos z).symm.trans h
    refine g_iconst (v := (0 : Int32)) o dX12_isOther_30 (by decide) ?_
    cases h
    exact g_zret o hr (by decide) hE dX12_isOther_31
  · have h := (if_neg z).symm.trans h
    refine g_aload_n o dX12_isOther_10 1 rfl ?_
    refine g_getR o fl_X12_30 (rc_self hk0) (by decide) rfl dX12_isOther_11 ?_
    refine g_iload_n o dX12_isOther_14 0 rfl ?_
    obtain ⟨a3, e4, h⟩ := ob h
    refine g_iald o e4 dX12_isOther_15 ?_
    refine g_aload_n o dX12_isOther_16 1 rfl ?_
    refine g_iload_n o dX12_isOther_17 2 rfl ?_
    refine g_bipush (v := (45 : Int32)) o dX12_isOther_18 (by decide) ?_
    obtain ⟨x5, e6, h⟩ := ob h
    refine g_invV0 o (rc_self hk0) (by decide) ml_X12_43 kb_X12_of kv_X12_of rfl (c_X12_of (cq X) (cD X) (cY X) (cB X) (d := d) (by omega) (rc_at (rc_self hk0)).2 e6) rfl rfl (by simp [cat_i, cat_l, cat_rf]) dX12_isOther_20 ?_
    refine g_icmp_eq (tgt := 30) o dX12_isOther_23 (by decide) (fun z => ?_) (fun z => ?_)
    · have h := (if_pos z).symm.trans h
      refine g_iconst (v := (0 : Int32)) o dX12_isOther_30 (by decide) ?_
      cases h
      exact g_zret o hr (by decide) hE dX12_isOther_31
    · have h := (if_neg z).symm.trans h
      refine g_iconst (v := (1 : Int32)) o dX12_isOther_26 (by decide) ?_
      refine g_goto (tgt := 31) o dX12_isOther_27 (by decide) ?_
      cases h
      exact g_zret o hr (by decide) hE dX12_isOther_31
theorem c_X12_isOther (l : Launch) (D : va_G) (Y : Nat → ClassId) (B : Nat) {d : Nat} {n : Nat} {K L : Nat → Nat} {M : Mm} {a0 : Nat} {v1 : Int32} {r : Int32} (hd : 3 ≤ d) (hk0 : K a0 = 12) (h : f_X12_isOther K L M a0 v1 = some r) : mC l D Y B d yX12_isOther cX12_isOther 3 (some .boolean) [va_rf (some a0), .int v1] n K L M n K L M (some (.int r)) 0 0 := by
  obtain ⟨d, rfl⟩ : ∃ e, d = e + 1 := ⟨d - 1, by omega⟩
  refine mk_met (by decide) (by simp [lgs_r, lgs_i, lgs_l, lgs_n]) (fun X e1 e2 e3 e4 o hL hr hnm hz hc hs hE => ?_)
  subst e1 e2 e3 e4
  rw [show lv_args 0 [va_rf (some a0), .int v1] = [(0, va_rf (some a0)), (1, .int v1)] by simp [lva_r, lva_i, lva_l, lva_n]]
  exact w_X12_isOther_0 o hL hr hk0 hE hd h
def f_X12_findWays_99 (K L : Nat → Nat) (fu : Nat) (k35 : Int32 → Mm → Option Mm) (k43 : Int32 → Int32 → Mm → Option Mm) (a0 : Nat) (v1 : Int32) (v2 : Int32) (s0 : Int32) (s1 : Int32) (s2 : (Option Nat)) (M : Mm) : Option Mm :=
  Option.bind (rx K L s2 13 s1) (fun a1 =>
  bn (ms_A M a1 (upd (mm_A M a1) s1.toNatClampNeg s0)) (fun M3 =>
  Option.bind (rx K L (mm_R M3 (32 * 12 + 13) a0) 15 v2) (fun a5 =>
  bn (ms_A M3 a5 (upd (mm_A M3 a5) v2.toNatClampNeg (1 : Int32))) (fun M7 =>
  k43 v1 (v2 + 1) M7))))
set_option maxHeartbeats 4000000 in
theorem w_X12_findWays_99 {X : Cx} {d n : Nat} {K L : Nat → Nat} {fu : Nat} {a0 : Nat} {r : Mm} {k35 : Int32 → Mm → Option Mm} {k43 : Int32 → Int32 → Mm → Option Mm} {v1 : Int32} {v2 : Int32} {s0 : Int32} {s1 : Int32} {s2 : (Option Nat)} {M : Mm} (o : cOk X cX12_findWays RX12 (d + 1)) (hL : cL X = 3) (hr : (ch X).sig.returnType = none) (hz : (cs X).heap.size + 0 = cB X + n) (hk0 : K a0 = 12) (hE : cE X n K L r none 0 0) (hk35 : ∀ (v1 : Int32) (M : Mm), k35 v1 M = some r → gW X 0 0 n K L M 35 [(0, va_rf (some a0)), (1, .int v1)] []) (hk43 : ∀ (v1 : Int32) (v2 : Int32) (M : Mm), k43 v1 v2 M = some r → gW X 0 0 n K L M 43 [(0, va_rf (some a0)), (1, .int v1), (2, .int v2)] []) (hd : 4 ≤ d + 1) (h : f_X12_findWays_99 K L fu k35 k43 a0 v1 v2 s0 s1 s2 M = some r) : gW X 0 0 n K L M 99 [(0, va_rf (some a0)), (1, .int v1), (2, .int v2)] [.int s0, .int s1, va_rf s2] := by
  unfold f_X12_findWays_99 at h
  obtain ⟨a1, e2, h⟩ := ob h
  refine g_iast o hz e2  dX12_findWays_99 ?_
  obtain ⟨M3, e4, h⟩ := bn_at h
  refine g_mem e4 ?_
  refine g_aload_n o dX12_findWays_100 0 rfl ?_
  refine g_getR o fl_X12_33 (rc_self hk0) (by decide) rfl dX12_findWays_101 ?_
  refine g_iload_n o dX12_findWays_104 2 rfl ?_
  refine g_iconst (v := (1 : Int32)) o dX12_findWays_105 (by decide) ?_
  obtain ⟨a5, e6, h⟩ := ob h
  refine g_zast o hz e6 (by decide) dX12_findWays_106 ?_
  obtain ⟨M7, e8, h⟩ := bn_at h
  refine g_mem e8 ?_
  refine g_iinc (i := 2) (v := v2 + 1) (ls' := [(2, .int (v2 + 1)), (0, va_rf (some a0)), (1, .int v1)]) o dX12_findWays_107 2 rfl (by first | rfl | (congr 1)) (ltL hL (by decide)) rfl ?_
  refine g_goto (tgt := 43) o dX12_findWays_110 (by decide) ?_
  refine gsub [1, 2, 0] rfl ?_
  exact hk43 _ _ _ h
def f_X12_findWays_90 (K L : Nat → Nat) (fu : Nat) (k35 : Int32 → Mm → Option Mm) (k43 : Int32 → Int32 → Mm → Option Mm) (a0 : Nat) (v1 : Int32) (v2 : Int32) (s0 : Int32) (s1 : (Option Nat)) (M : Mm) : Option Mm :=
  f_X12_findWays_99 K L fu k35 k43 a0 v1 v2 (0 : Int32) s0 s1 M
set_option maxHeartbeats 4000000 in
theorem w_X12_findWays_90 {X : Cx} {d n : Nat} {K L : Nat → Nat} {fu : Nat} {a0 : Nat} {r : Mm} {k35 : Int32 → Mm → Option Mm} {k43 : Int32 → Int32 → Mm → Option Mm} {v1 : Int32} {v2 : Int32} {s0 : Int32} {s1 : (Option Nat)} {M : Mm} (o : cOk X cX12_findWays RX12 (d + 1)) (hL : cL X = 3) (hr : (ch X).sig.returnType = none) (hz : (cs X).heap.size + 0 = cB X + n) (hk0 : K a0 = 12) (hE : cE X n K L r none 0 0) (hk35 : ∀ (v1 : Int32) (M : Mm), k35 v1 M = some r → gW X 0 0 n K L M 35 [(0, va_rf (some a0)), (1, .int v1)] []) (hk43 : ∀ (v1 : Int32) (v2 : Int32) (M : Mm), k43 v1 v2 M = some r → gW X 0 0 n K L M 43 [(0, va_rf (some a0)), (1, .int v1), (2, .int v2)] []) (hd : 4 ≤ d + 1) (h : f_X12_findWays_90 K L fu k35 k43 a0 v1 v2 s0 s1 M = some r) : gW X 0 0 n K L M 90 [(0, va_rf (some a0)), (1, .int v1), (2, .int v2)] [.int s0, va_rf s1] := by
  unfold f_X12_findWays_90 at h
  refine g_iconst (v := (0 : Int32)) o dX12_findWays_90 (by decide) ?_
  refine g_goto (tgt := 99) o dX12_findWays_91 (by decide) ?_
  exact w_X12_findWays_99 o hL hr hz hk0 hE hk35 hk43 hd h
def f_X12_findWays_43b (K L : Nat → Nat) (fu : Nat) (k35 : Int32 → Mm → Option Mm) (k43 : Int32 → Int32 → Mm → Option Mm) (a0 : Nat) (v1 : Int32) (v2 : Int32) (M : Mm) : Option Mm :=
  if (16 : Int32) ≤ v2 then
    k35 (v1 + 1) M
  else
    Option.bind (rx K L (mm_R M (32 * 12 + 13) a0) 15 v2) (fun a1 =>
    if (mm_A M a1 v2.toNatClampNeg) = 0 then
      Option.bind (f_X12_isReady K L fu M a0 v2) (fun x3 =>
      if x3 = 0 then
        k43 v1 (v2 + 1) M
      else
        Option.bind (f_X12_stoppedBy K L fu M a0 v2) (fun x5 =>
        if 0 ≤ x5 then
          f_X12_findWays_90 K L fu k35 k43 a0 v1 v2 v2 (mm_R M (32 * 12 + 12) a0) M
        else
          Option.bind (f_X12_isOther K L M a0 v2) (fun x7 =>
          if x7 = 0 then
            Option.bind (f_X12_ownWay K L fu M a0 v2) (fun x9 =>
            f_X12_findWays_99 K L fu k35 k43 a0 v1 v2 x9 v2 (mm_R M (32 * 12 + 12) a0) M)
          else
            f_X12_findWays_90 K L fu k35 k43 a0 v1 v2 v2 (mm_R M (32 * 12 + 12) a0) M)))
    else
      k43 v1 (v2 + 1) M)
def f_X12_findWays_43 (K L : Nat → Nat) (fu : Nat) (k35 : Int32 → Mm → Option Mm) (a0 : Nat) : Nat → Int32 → Int32 → Mm → Option Mm
  | 0, _, _, _ => none
  | g + 1, v1, v2, M => f_X12_findWays_43b K L fu k35 (f_X12_findWays_43 K L fu k35 a0 g) a0 v1 v2 M
set_option maxHeartbeats 4000000 in
theorem w_X12_findWays_43b {X : Cx} {d n : Nat} {K L : Nat → Nat} {fu : Nat} {a0 : Nat} {r : Mm} {k35 : Int32 → Mm → Option Mm} {k43 : Int32 → Int32 → Mm → Option Mm} {v1 : Int32} {v2 : Int32} {M : Mm} (o : cOk X cX12_findWays RX12 (d + 1)) (hL : cL X = 3) (hr : (ch X).sig.returnType = none) (hz : (cs X).heap.size + 0 = cB X + n) (hk0 : K a0 = 12) (hE : cE X n K L r none 0 0) (hk35 : ∀ (v1 : Int32) (M : Mm), k35 v1 M = some r → gW X 0 0 n K L M 35 [(0, va_rf (some a0)), (1, .int v1)] []) (hk43 : ∀ (v1 : Int32) (v2 : Int32) (M : Mm), k43 v1 v2 M = some r → gW X 0 0 n K L M 43 [(0, va_rf (some a0)), (1, .int v1), (2, .int v2)] []) (hd : 4 ≤ d + 1) (h : f_X12_findWays_43b K L fu k35 k43 a0 v1 v2 M = some r) : gW X 0 0 n K L M 43 [(0, va_rf (some a0)), (1, .int v1), (2, .int v2)] [] := by
  unfold f_X12_findWays_43b at h
  refine g_iload_n o dX12_findWays_43 2 rfl ?_
  refine g_bipush (v := (16 : Int32)) o dX12_findWays_44 (by decide) ?_
  refine g_icmp_ge (tgt := 113) o dX12_findWays_46 (by decide) (fun z => ?_) (fun z => ?_)
  · have h := (if_pos z).symm.trans h
    refine g_iinc (i := 1) (v := v1 + 1) (ls' := [(1, .int (v1 + 1)), (0, va_rf (some a0)), (2, .int v2)]) o dX12_findWays_113 1 rfl (by first | rfl | (congr 1)) (ltL hL (by decide)) rfl ?_
    refine g_goto (tgt := 35) o dX12_findWays_116 (by decide) ?_
    refine gsub [1, 0] rfl ?_
    exact hk35 _ _ h
  · have h := (if_neg z).symm.trans h
    refine g_aload_n o dX12_findWays_49 0 rfl ?_
    refine g_getR o fl_X12_33 (rc_self hk0) (by decide) rfl dX12_findWays_50 ?_
    refine g_iload_n o dX12_findWays_53 2 rfl ?_
    obtain ⟨a1, e2, h⟩ := ob h
    refine g_zald o e2 dX12_findWays_54 ?_
    refine g_if_ne (tgt := 107) o dX12_findWays_55 (by decide) (fun z => ?_) (fun z => ?_)
    · have h := (if_neg z).symm.trans h
      refine g_iinc (i := 2) (v := v2 + 1) (ls' := [(2, .int (v2 + 1)), (0, va_rf (some a0)), (1, .int v1)]) o dX12_findWays_107 2 rfl (by first | rfl | (congr 1)) (ltL hL (by decide)) rfl ?_
      refine g_goto (tgt := 43) o dX12_findWays_110 (by decide) ?_
      refine gsub [1, 2, 0] rfl ?_
      exact hk43 _ _ _ h
    · have h := (if_pos z).symm.trans h
      refine g_aload_n o dX12_findWays_58 0 rfl ?_
      refine g_iload_n o dX12_findWays_59 2 rfl ?_
      obtain ⟨x3, e4, h⟩ := ob h
      refine g_invV0 o (rc_self hk0) (by decide) ml_X12_107 kb_X12_isReady kv_X12_isReady rfl (c_X12_isReady (cq X) (cD X) (cY X) (cB X) (d := d) (by omega) (rc_at (rc_self hk0)).2 e4) rfl rfl (by simp [cat_i, cat_l, cat_rf]) dX12_findWays_60 ?_
      refine g_if_ne (tgt := 69) o dX12_findWays_63 (by decide) (fun z => ?_) (fun z => ?_)
      · have h := (if_neg z).symm.trans h
        refine g_aload_n o dX12_findWays_69 0 rfl ?_
        refine g_getR o fl_X12_30 (rc_self hk0) (by decide) rfl dX12_findWays_70 ?_
        refine g_iload_n o dX12_findWays_73 2 rfl ?_
        refine g_aload_n o dX12_findWays_74 0 rfl ?_
        refine g_iload_n o dX12_findWays_75 2 rfl ?_
        obtain ⟨x5, e6, h⟩ := ob h
        refine g_invV0 o (rc_self hk0) (by decide) ml_X12_110 kb_X12_stoppedBy kv_X12_stoppedBy rfl (c_X12_stoppedBy (cq X) (cD X) (cY X) (cB X) (d := d) (by omega) (rc_at (rc_self hk0)).2 e6) rfl rfl (by simp [cat_i, cat_l, cat_rf]) dX12_findWays_76 ?_
        refine g_if_ge (tgt := 90) o dX12_findWays_79 (by decide) (fun z => ?_) (fun z => ?_)
        · have h := (if_pos z).symm.trans h
          exact w_X12_findWays_90 o hL hr hz hk0 hE hk35 hk43 hd h
        · have h := (if_neg z).symm.trans h
          refine g_aload_n o dX12_findWays_82 0 rfl ?_
          refine g_iload_n o dX12_findWays_83 2 rfl ?_
          obtain ⟨x7, e8, h⟩ := ob h
          refine g_invV0 o (rc_self hk0) (by decide) ml_X12_113 kb_X12_isOther kv_X12_isOther rfl (c_X12_isOther (cq X) (cD X) (cY X) (cB X) (d := d) (by omega) (rc_at (rc_self hk0)).2 e8) rfl rfl (by simp [cat_i, cat_l, cat_rf]) dX12_findWays_84 ?_
          refine g_if_eq (tgt := 94) o dX12_findWays_87 (by decide) (fun z => ?_) (fun z => ?_)
          · have h := (if_pos z).symm.trans h
            refine g_aload_n o dX12_findWays_94 0 rfl ?_
            refine g_iload_n o dX12_findWays_95 2 rfl ?_
            obtain ⟨x9, e10, h⟩ := ob h
            refine g_invV0 o (rc_self hk0) (by decide) ml_X12_116 kb_X12_ownWay kv_X12_ownWay rfl (c_X12_ownWay (cq X) (cD X) (cY X) (cB X) (d := d) (by omega) (rc_at (rc_self hk0)).2 e10) rfl rfl (by simp [cat_i, cat_l, cat_rf]) dX12_findWays_96 ?_
            exact w_X12_findWays_99 o hL hr hz hk0 hE hk35 hk43 hd h
          · have h := (if_neg z).symm.trans h
            exact w_X12_findWays_90 o hL hr hz hk0 hE hk35 hk43 hd h
      · have h := (if_pos z).symm.trans h
        refine g_goto (tgt := 107) o dX12_findWays_66 (by decide) ?_
        refine g_iinc (i := 2) (v := v2 + 1) (ls' := [(2, .int (v2 + 1)), (0, va_rf (some a0)), (1, .int v1)]) o dX12_findWays_107 2 rfl (by first | rfl | (congr 1)) (ltL hL (by decide)) rfl ?_
        refine g_goto (tgt := 43) o dX12_findWays_110 (by decide) ?_
        refine gsub [1, 2, 0] rfl ?_
        exact hk43 _ _ _ h
theorem w_X12_findWays_43_n {X : Cx} {d n : Nat} {K L : Nat → Nat} {fu : Nat} {a0 : Nat} {r : Mm} {k35 : Int32 → Mm → Option Mm} (o : cOk X cX12_findWays RX12 (d + 1)) (hL : cL X = 3) (hr : (ch X).sig.returnType = none) (hz : (cs X).heap.size + 0 = cB X + n) (hk0 : K a0 = 12) (hE : cE X n K L r none 0 0) (hk35 : ∀ (v1 : Int32) (M : Mm), k35 v1 M = some r → gW X 0 0 n K L M 35 [(0, va_rf (some a0)), (1, .int v1)] []) (hd : 4 ≤ d + 1) : ∀ (g : Nat) (v1 : Int32) (v2 : Int32) (M : Mm), f_X12_findWays_43 K L fu k35 a0 g v1 v2 M = some r → gW X 0 0 n K L M 43 [(0, va_rf (some a0)), (1, .int v1), (2, .int v2)] []
  | 0, _, _, _, h => by cases h
  | g + 1, v1, v2, M, h => w_X12_findWays_43b o hL hr hz hk0 hE hk35 (w_X12_findWays_43_n o hL hr hz hk0 hE hk35 hd g) hd h
theorem w_X12_findWays_43 {X : Cx} {d n : Nat} {K L : Nat → Nat} {fu : Nat} {a0 : Nat} {r : Mm} {k35 : Int32 → Mm → Option Mm} {v1 : Int32} {v2 : Int32} {M : Mm} (o : cOk X cX12_findWays RX12 (d + 1)) (hL : cL X = 3) (hr : (ch X).sig.returnType = none) (hz : (cs X).heap.size + 0 = cB X + n) (hk0 : K a0 = 12) (hE : cE X n K L r none 0 0) (hk35 : ∀ (v1 : Int32) (M : Mm), k35 v1 M = some r → gW X 0 0 n K L M 35 [(0, va_rf (some a0)), (1, .int v1)] []) (hd : 4 ≤ d + 1) (h : f_X12_findWays_43 K L fu k35 a0 fu v1 v2 M = some r) : gW X 0 0 n K L M 43 [(0, va_rf (some a0)), (1, .int v1), (2, .int v2)] [] := w_X12_findWays_43_n o hL hr hz hk0 hE hk35 hd fu v1 v2 M h
def f_X12_findWays_35b (K L : Nat → Nat) (fu : Nat) (k35 : Int32 → Mm → Option Mm) (a0 : Nat) (v1 : Int32) (M : Mm) : Option Mm :=
  if (16 : Int32) ≤ v1 then
    some M
  else
    f_X12_findWays_43 K L fu k35 a0 fu v1 (0 : Int32) M
def f_X12_findWays_35 (K L : Nat → Nat) (fu : Nat) (a0 : Nat) : Nat → Int32 → Mm → Option Mm
  | 0, _, _ => none
  | g + 1, v1, M => f_X12_findWays_35b K L fu (f_X12_findWays_35 K L fu a0 g) a0 v1 M
set_option maxHeartbeats 4000000 in
theorem w_X12_findWays_35b {X : Cx} {d n : Nat} {K L : Nat → Nat} {fu : Nat} {a0 : Nat} {r : Mm} {k35 : Int32 → Mm → Option Mm} {v1 : Int32} {M : Mm} (o : cOk X cX12_findWays RX12 (d + 1)) (hL : cL X = 3) (hr : (ch X).sig.returnType = none) (hz : (cs X).heap.size + 0 = cB X + n) (hk0 : K a0 = 12) (hE : cE X n K L r none 0 0) (hk35 : ∀ (v1 : Int32) (M : Mm), k35 v1 M = some r → gW X 0 0 n K L M 35 [(0, va_rf (some a0)), (1, .int v1)] []) (hd : 4 ≤ d + 1) (h : f_X12_findWays_35b K L fu k35 a0 v1 M = some r) : gW X 0 0 n K L M 35 [(0, va_rf (some a0)), (1, .int v1)] [] := by
  unfold f_X12_findWays_35b at h
  refine g_iload_n o dX12_findWays_35 1 rfl ?_
  refine g_bipush (v := (16 : Int32)) o dX12_findWays_36 (by decide) ?_
  refine g_icmp_ge (tgt := 119) o dX12_findWays_38 (by decide) (fun z => ?_) (fun z => ?_)
  · have h := (if_pos z).symm.trans h
    cases h
    exact g_vret o hr hE dX12_findWays_119
  · have h := (if_neg z).symm.trans h
    refine g_iconst (v := (0 : Int32)) o dX12_findWays_41 (by decide) ?_
    refine g_istore_n (i := 2) (ls' := [(2, .int (0 : Int32)), (0, va_rf (some a0)), (1, .int v1)]) o dX12_findWays_42 rfl (ltL hL (by decide)) rfl ?_
    refine gsub [1, 2, 0] rfl ?_
    exact w_X12_findWays_43 o hL hr hz hk0 hE hk35 hd h
theorem w_X12_findWays_35_n {X : Cx} {d n : Nat} {K L : Nat → Nat} {fu : Nat} {a0 : Nat} {r : Mm} (o : cOk X cX12_findWays RX12 (d + 1)) (hL : cL X = 3) (hr : (ch X).sig.returnType = none) (hz : (cs X).heap.size + 0 = cB X + n) (hk0 : K a0 = 12) (hE : cE X n K L r none 0 0) (hd : 4 ≤ d + 1) : ∀ (g : Nat) (v1 : Int32) (M : Mm), f_X12_findWays_35 K L fu a0 g v1 M = some r → gW X 0 0 n K L M 35 [(0, va_rf (some a0)), (1, .int v1)] []
  | 0, _, _, h => by cases h
  | g + 1, v1, M, h => w_X12_findWays_35b o hL hr hz hk0 hE (w_X12_findWays_35_n o hL hr hz hk0 hE hd g) hd h
theorem w_X12_findWays_35 {X : Cx} {d n : Nat} {K L : Nat → Nat} {fu : Nat} {a0 : Nat} {r : Mm} {v1 : Int32} {M : Mm} (o : cOk X cX12_findWays RX12 (d + 1)) (hL : cL X = 3) (hr : (ch X).sig.returnType = none) (hz : (cs X).heap.size + 0 = cB X + n) (hk0 : K a0 = 12) (hE : cE X n K L r none 0 0) (hd : 4 ≤ d + 1) (h : f_X12_findWays_35 K L fu a0 fu v1 M = some r) : gW X 0 0 n K L M 35 [(0, va_rf (some a0)), (1, .int v1)] [] := w_X12_findWays_35_n o hL hr hz hk0 hE hd fu v1 M h
def f_X12_findWays_2b (K L : Nat → Nat) (fu : Nat) (k2 : Int32 → Mm → Option Mm) (a0 : Nat) (v1 : Int32) (M : Mm) : Option Mm :=
  if (16 : Int32) ≤ v1 then
    f_X12_findWays_35 K L fu a0 fu (0 : Int32) M
  else
    Option.bind (f_X12_isSwitch K L M a0 v1) (fun x1 =>
    if x1 = 0 then
      Option.bind (rx K L (mm_R M (32 * 12 + 13) a0) 15 v1) (fun a7 =>
      bn (ms_A M a7 (upd (mm_A M a7) v1.toNatClampNeg (1 : Int32))) (fun M9 =>
      k2 (v1 + 1) M9))
    else
      Option.bind (rx K L (mm_R M (32 * 12 + 13) a0) 15 v1) (fun a3 =>
      bn (ms_A M a3 (upd (mm_A M a3) v1.toNatClampNeg (0 : Int32))) (fun M5 =>
      k2 (v1 + 1) M5)))
def f_X12_findWays_2 (K L : Nat → Nat) (fu : Nat) (a0 : Nat) : Nat → Int32 → Mm → Option Mm
  | 0, _, _ => none
  | g + 1, v1, M => f_X12_findWays_2b K L fu (f_X12_findWays_2 K L fu a0 g) a0 v1 M
set_option maxHeartbeats 4000000 in
theorem w_X12_findWays_2b {X : Cx} {d n : Nat} {K L : Nat → Nat} {fu : Nat} {a0 : Nat} {r : Mm} {k2 : Int32 → Mm → Option Mm} {v1 : Int32} {M : Mm} (o : cOk X cX12_findWays RX12 (d + 1)) (hL : cL X = 3) (hr : (ch X).sig.returnType = none) (hz : (cs X).heap.size + 0 = cB X + n) (hk0 : K a0 = 12) (hE : cE X n K L r none 0 0) (hk2 : ∀ (v1 : Int32) (M : Mm), k2 v1 M = some r → gW X 0 0 n K L M 2 [(0, va_rf (some a0)), (1, .int v1)] []) (hd : 4 ≤ d + 1) (h : f_X12_findWays_2b K L fu k2 a0 v1 M = some r) : gW X 0 0 n K L M 2 [(0, va_rf (some a0)), (1, .int v1)] [] := by
  unfold f_X12_findWays_2b at h
  refine g_iload_n o dX12_findWays_2 1 rfl ?_
  refine g_bipush (v := (16 : Int32)) o dX12_findWays_3 (by decide) ?_
  refine g_icmp_ge (tgt := 33) o dX12_findWays_5 (by decide) (fun z => ?_) (fun z => ?_)
  · have h := (if_pos z).symm.trans h
    refine g_iconst (v := (0 : Int32)) o dX12_findWays_33 (by decide) ?_
    refine g_istore_n (i := 1) (ls' := [(1, .int (0 : Int32)), (0, va_rf (some a0))]) o dX12_findWays_34 rfl (ltL hL (by decide)) rfl ?_
    refine gsub [1, 0] rfl ?_
    exact w_X12_findWays_35 o hL hr hz hk0 hE hd h
  · have h := (if_neg z).symm.trans h
    refine g_aload_n o dX12_findWays_8 0 rfl ?_
    refine g_getR o fl_X12_33 (rc_self hk0) (by decide) rfl dX12_findWays_9 ?_
    refine g_iload_n o dX12_findWays_12 1 rfl ?_
    refine g_aload_n o dX12_findWays_13 0 rfl ?_
    refine g_iload_n o dX12_findWays_14 1 rfl ?_
    obtain ⟨x1, e2, h⟩ := ob h
    refine g_invV0 o (rc_self hk0) (by decide) ml_X12_51 kb_X12_isSwitch kv_X12_isSwitch rfl (c_X12_isSwitch (cq X) (cD X) (cY X) (cB X) (d := d) (by omega) (rc_at (rc_self hk0)).2 e2) rfl rfl (by simp [cat_i, cat_l, cat_rf]) dX12_findWays_15 ?_
    refine g_if_ne (tgt := 25) o dX12_findWays_18 (by decide) (fun z => ?_) (fun z => ?_)
    · have h := (if_neg z).symm.trans h
      refine g_iconst (v := (0 : Int32)) o dX12_findWays_25 (by decide) ?_
      obtain ⟨a3, e4, h⟩ := ob h
      refine g_zast o hz e4 (by decide) dX12_findWays_26 ?_
      obtain ⟨M5, e6, h⟩ := bn_at h
      refine g_mem e6 ?_
      refine g_iinc (i := 1) (v := v1 + 1) (ls' := [(1, .int (v1 + 1)), (0, va_rf (some a0))]) o dX12_findWays_27 1 rfl (by first | rfl | (congr 1)) (ltL hL (by decide)) rfl ?_
      refine g_goto (tgt := 2) o dX12_findWays_30 (by decide) ?_
      refine gsub [1, 0] rfl ?_
      exact hk2 _ _ h
    · have h := (if_pos z).symm.trans h
      refine g_iconst (v := (1 : Int32)) o dX12_findWays_21 (by decide) ?_
      refine g_goto (tgt := 26) o dX12_findWays_22 (by decide) ?_
      obtain ⟨a7, e8, h⟩ := ob h
      refine g_zast o hz e8 (by decide) dX12_findWays_26 ?_
      obtain ⟨M9, e10, h⟩ := bn_at h
      refine g_mem e10 ?_
      refine g_iinc (i := 1) (v := v1 + 1) (ls' := [(1, .int (v1 + 1)), (0, va_rf (some a0))]) o dX12_findWays_27 1 rfl (by first | rfl | (congr 1)) (ltL hL (by decide)) rfl ?_
      refine g_goto (tgt := 2) o dX12_findWays_30 (by decide) ?_
      refine gsub [1, 0] rfl ?_
      exact hk2 _ _ h
theorem w_X12_findWays_2_n {X : Cx} {d n : Nat} {K L : Nat → Nat} {fu : Nat} {a0 : Nat} {r : Mm} (o : cOk X cX12_findWays RX12 (d + 1)) (hL : cL X = 3) (hr : (ch X).sig.returnType = none) (hz : (cs X).heap.size + 0 = cB X + n) (hk0 : K a0 = 12) (hE : cE X n K L r none 0 0) (hd : 4 ≤ d + 1) : ∀ (g : Nat) (v1 : Int32) (M : Mm), f_X12_findWays_2 K L fu a0 g v1 M = some r → gW X 0 0 n K L M 2 [(0, va_rf (some a0)), (1, .int v1)] []
  | 0, _, _, h => by cases h
  | g + 1, v1, M, h => w_X12_findWays_2b o hL hr hz hk0 hE (w_X12_findWays_2_n o hL hr hz hk0 hE hd g) hd h
theorem w_X12_findWays_2 {X : Cx} {d n : Nat} {K L : Nat → Nat} {fu : Nat} {a0 : Nat} {r : Mm} {v1 : Int32} {M : Mm} (o : cOk X cX12_findWays RX12 (d + 1)) (hL : cL X = 3) (hr : (ch X).sig.returnType = none) (hz : (cs X).heap.size + 0 = cB X + n) (hk0 : K a0 = 12) (hE : cE X n K L r none 0 0) (hd : 4 ≤ d + 1) (h : f_X12_findWays_2 K L fu a0 fu v1 M = some r) : gW X 0 0 n K L M 2 [(0, va_rf (some a0)), (1, .int v1)] [] := w_X12_findWays_2_n o hL hr hz hk0 hE hd fu v1 M h
def f_X12_findWays (K L : Nat → Nat) (fu : Nat) (a0 : Nat) (M : Mm) : Option Mm :=
  f_X12_findWays_2 K L fu a0 fu (0 : Int32) M
set_option maxHeartbeats 4000000 in
theorem w_X12_findWays_0 {X : Cx} {d n : Nat} {K L : Nat → Nat} {fu : Nat} {a0 : Nat} {r : Mm} {M : Mm} (o : cOk X cX12_findWays RX12 (d + 1)) (hL : cL X = 3) (hr : (ch X).sig.returnType = none) (hz : (cs X).heap.size + 0 = cB X + n) (hk0 : K a0 = 12) (hE : cE X n K L r none 0 0) (hd : 4 ≤ d + 1) (h : f_X12_findWays K L fu a0  M = some r) : gW X 0 0 n K L M 0 [(0, va_rf (some a0))] [] := by
  unfold f_X12_findWays at h
  refine g_iconst (v := (0 : Int32)) o dX12_findWays_0 (by decide) ?_
  refine g_istore_n (i := 1) (ls' := [(1, .int (0 : Int32)), (0, va_rf (some a0))]) o dX12_findWays_1 rfl (ltL hL (by decide)) rfl ?_
  refine gsub [1, 0] rfl ?_
  exact w_X12_findWays_2 o hL hr hz hk0 hE hd h
theorem c_X12_findWays (l : Launch) (D : va_G) (Y : Nat → ClassId) (B : Nat) {d : Nat} {n : Nat} {K L : Nat → Nat} {fu : Nat} {M : Mm} {a0 : Nat} {r : Mm} (hd : 4 ≤ d) (hk0 : K a0 = 12) (h : f_X12_findWays K L fu a0  M = some r) : mC l D Y B d yX12_findWays cX12_findWays 3 (none) [va_rf (some a0)] n K L M n K L r none 0 0 := by
  obtain ⟨d, rfl⟩ : ∃ e, d = e + 1 := ⟨d - 1, by omega⟩
  refine mk_met (by decide) (by simp [lgs_r, lgs_i, lgs_l, lgs_n]) (fun X e1 e2 e3 e4 o hL hr hnm hz hc hs hE => ?_)
  subst e1 e2 e3 e4
  rw [show lv_args 0 [va_rf (some a0)] = [(0, va_rf (some a0))] by simp [lva_r, lva_i, lva_l, lva_n]]
  exact w_X12_findWays_0 o hL hr hz hk0 hE hd h
