/-! methods: X12_sums X12_chosen X12_chances X12_isAbove X12_millionths X12_look X12_trialTold X12_whyAmong X12_isNumber X12_among X12_both -/
def f_X12_sums_22b (K L : Nat → Nat) (fu : Nat) (k22 : Int32 → Int32 → Int32 → Mm → Option Mm) (a0 : Nat) (v1 : Int32) (v2 : Int32) (v3 : Int32) (M : Mm) : Option Mm :=
  if v2 < v3 then
    some M
  else
    Option.bind (f_X12_of K L M a0 v1 (77 : Int32)) (fun x1 =>
    Option.bind (f_X12_minuteAt x1 v3) (fun x3 =>
    Option.bind (f_X12_of K L M a0 v1 (78 : Int32)) (fun x5 =>
    Option.bind (f_X12_minuteAt x5 v3) (fun x7 =>
    Option.bind (f_X12_of K L M a0 v1 x3) (fun x9 =>
    if x9 = 0 then
      k22 v1 v2 (v3 + 1) M
    else
      Option.bind (f_X12_of K L M a0 v1 x7) (fun x11 =>
      if x11 = 0 then
        k22 v1 v2 (v3 + 1) M
      else
        Option.bind (f_X12_of K L M a0 v1 (x3 + (1 : Int32))) (fun x13 =>
        bn (ms_I M (32 * 12 + 19) a0 ((mm_I M (32 * 12 + 19) a0) + x13)) (fun M15 =>
        Option.bind (f_X12_of K L M15 a0 v1 (x7 + (1 : Int32))) (fun x17 =>
        bn (ms_I M15 (32 * 12 + 20) a0 ((mm_I M15 (32 * 12 + 20) a0) + x17)) (fun M19 =>
        Option.bind (f_X12_of K L M19 a0 v1 (x3 + (3 : Int32))) (fun x21 =>
        bn (ms_I M19 (32 * 12 + 21) a0 ((mm_I M19 (32 * 12 + 21) a0) + x21)) (fun M23 =>
        Option.bind (f_X12_of K L M23 a0 v1 (x7 + (3 : Int32))) (fun x25 =>
        bn (ms_I M23 (32 * 12 + 22) a0 ((mm_I M23 (32 * 12 + 22) a0) + x25)) (fun M27 =>
        k22 v1 v2 (v3 + 1) M27))))))))))))))
def f_X12_sums_22 (K L : Nat → Nat) (fu : Nat) (a0 : Nat) : Nat → Int32 → Int32 → Int32 → Mm → Option Mm
  | 0, _, _, _, _ => none
  | g + 1, v1, v2, v3, M => f_X12_sums_22b K L fu (f_X12_sums_22 K L fu a0 g) a0 v1 v2 v3 M
set_option maxHeartbeats 4000000 in
theorem w_X12_sums_22b {X : Cx} {d n : Nat} {K L : Nat → Nat} {fu : Nat} {a0 : Nat} {r : Mm} {k22 : Int32 → Int32 → Int32 → Mm → Option Mm} {v1 : Int32} {v2 : Int32} {v3 : Int32} {M : Mm} (o : cOk X cX12_sums RX12 (d + 1)) (hL : cL X = 6) (hr : (ch X).sig.returnType = none) (hz : (cs X).heap.size + 0 = cB X + n) (hk0 : K a0 = 12) (hE : cE X n K L r none 0 0) (hk22 : ∀ (v1 : Int32) (v2 : Int32) (v3 : Int32) (M : Mm), k22 v1 v2 v3 M = some r → gW X 0 0 n K L M 22 [(0, va_rf (some a0)), (1, .int v1), (2, .int v2), (3, .int v3)] []) (hd : 1 ≤ d + 1) (h : f_X12_sums_22b K L fu k22 a0 v1 v2 v3 M = some r) : gW X 0 0 n K L M 22 [(0, va_rf (some a0)), (1, .int v1), (2, .int v2), (3, .int v3)] [] := by
  unfold f_X12_sums_22b at h
  refine g_iload_n o dX12_sums_22 3 rfl ?_
  refine g_iload_n o dX12_sums_23 2 rfl ?_
  refine g_icmp_gt (tgt := 154) o dX12_sums_24 (by decide) (fun z => ?_) (fun z => ?_)
  · have h := (if_pos z).symm.trans h
    cases h
    exact g_vret o hr hE dX12_sums_154
  · have h := (if_neg z).symm.trans h
    refine g_aload_n o dX12_sums_27 0 rfl ?_
    refine g_iload_n o dX12_sums_28 1 rfl ?_
    refine g_bipush (v := (77 : Int32)) o dX12_sums_29 (by decide) ?_
    obtain ⟨x1, e2, h⟩ := ob h
    refine g_invV0 o (rc_self hk0) (by decide) ml_X12_43 kb_X12_of kv_X12_of rfl (c_X12_of (cq X) (cD X) (cY X) (cB X) (d := d) (by omega) (rc_at (rc_self hk0)).2 e2) rfl rfl (by simp [cat_i, cat_l, cat_rf]) dX12_sums_31 ?_
    refine g_iload_n o dX12_sums_34 3 rfl ?_
    obtain ⟨x3, e4, h⟩ := ob h
    refine g_invS0 o ml_X12_178 kb_X12_minuteAt ks_X12_minuteAt (c_X12_minuteAt (cq X) (cD X) (cY X) (cB X) (d := d) (by omega) e4) rfl rfl (by simp [cat_i, cat_l, cat_rf]) dX12_sums_35 ?_
    refine g_istore (i := 4) (ls' := [(4, .int x3), (0, va_rf (some a0)), (1, .int v1), (2, .int v2), (3, .int v3)]) o dX12_sums_38 (ltL hL (by decide)) rfl ?_
    refine g_aload_n o dX12_sums_40 1 rfl ?_
    refine g_iload_n o dX12_sums_41 2 rfl ?_
    refine g_bipush (v := (78 : Int32)) o dX12_sums_42 (by decide) ?_
    obtain ⟨x5, e6, h⟩ := ob h
    refine g_invV0 o (rc_self hk0) (by decide) ml_X12_43 kb_X12_of kv_X12_of rfl (c_X12_of (cq X) (cD X) (cY X) (cB X) (d := d) (by omega) (rc_at (rc_self hk0)).2 e6) rfl rfl (by simp [cat_i, cat_l, cat_rf]) dX12_sums_44 ?_
    refine g_iload_n o dX12_sums_47 4 rfl ?_
    obtain ⟨x7, e8, h⟩ := ob h
    refine g_invS0 o ml_X12_178 kb_X12_minuteAt ks_X12_minuteAt (c_X12_minuteAt (cq X) (cD X) (cY X) (cB X) (d := d) (by omega) e8) rfl rfl (by simp [cat_i, cat_l, cat_rf]) dX12_sums_48 ?_
    refine g_istore (i := 5) (ls' := [(5, .int x7), (4, .int x3), (0, va_rf (some a0)), (1, .int v1), (2, .int v2), (3, .int v3)]) o dX12_sums_51 (ltL hL (by decide)) rfl ?_
    refine g_aload_n o dX12_sums_53 2 rfl ?_
    refine g_iload_n o dX12_sums_54 3 rfl ?_
    refine g_iload o dX12_sums_55 1 rfl ?_
    obtain ⟨x9, e10, h⟩ := ob h
    refine g_invV0 o (rc_self hk0) (by decide) ml_X12_43 kb_X12_of kv_X12_of rfl (c_X12_of (cq X) (cD X) (cY X) (cB X) (d := d) (by omega) (rc_at (rc_self hk0)).2 e10) rfl rfl (by simp [cat_i, cat_l, cat_rf]) dX12_sums_57 ?_
    refine g_if_eq (tgt := 148) o dX12_sums_60 (by decide) (fun z => ?_) (fun z => ?_)
    · have h := (if_pos z).symm.trans h
      refine g_iinc (i := 3) (v := v3 + 1) (ls' := [(3, .int (v3 + 1)), (5, .int x7), (4, .int x3), (0, va_rf (some a0)), (1, .int v1), (2, .int v2)]) o dX12_sums_148 5 rfl (by first | rfl | (congr 1)) (ltL hL (by decide)) rfl ?_
      refine g_goto (tgt := 22) o dX12_sums_151 (by decide) ?_
      refine gsub [3, 4, 5, 0] rfl ?_
      exact hk22 _ _ _ _ h
    · have h := (if_neg z).symm.trans h
      refine g_aload_n o dX12_sums_63 2 rfl ?_
      refine g_iload_n o dX12_sums_64 3 rfl ?_
      refine g_iload o dX12_sums_65 0 rfl ?_
      obtain ⟨x11, e12, h⟩ := ob h
      refine g_invV0 o (rc_self hk0) (by decide) ml_X12_43 kb_X12_of kv_X12_of rfl (c_X12_of (cq X) (cD X) (cY X) (cB X) (d := d) (by omega) (rc_at (rc_self hk0)).2 e12) rfl rfl (by simp [cat_i, cat_l, cat_rf]) dX12_sums_67 ?_
      refine g_if_ne (tgt := 76) o dX12_sums_70 (by decide) (fun z => ?_) (fun z => ?_)
      · have h := (if_neg z).symm.trans h
        refine g_aload_n o dX12_sums_76 2 rfl ?_
        refine g_dup o dX12_sums_77 (cat_rf _) ?_
        refine g_getI o fl_X12_213 (rc_self hk0) (by decide) rfl dX12_sums_78 ?_
        refine g_aload_n o dX12_sums_81 2 rfl ?_
        refine g_iload_n o dX12_sums_82 3 rfl ?_
        refine g_iload o dX12_sums_83 1 rfl ?_
        refine g_iconst (v := (1 : Int32)) o dX12_sums_85 (by decide) ?_
        refine g_iadd o dX12_sums_86 ?_
        obtain ⟨x13, e14, h⟩ := ob h
        refine g_invV0 o (rc_self hk0) (by decide) ml_X12_43 kb_X12_of kv_X12_of rfl (c_X12_of (cq X) (cD X) (cY X) (cB X) (d := d) (by omega) (rc_at (rc_self hk0)).2 e14) rfl rfl (by simp [cat_i, cat_l, cat_rf]) dX12_sums_87 ?_
        refine g_iadd o dX12_sums_90 ?_
        refine g_putI o hz fl_X12_213 (rc_self hk0) (by decide) rfl rfl rfl  dX12_sums_91 ?_
        obtain ⟨M15, e16, h⟩ := bn_at h
        refine g_mem e16 ?_
        refine g_aload_n o dX12_sums_94 2 rfl ?_
        refine g_dup o dX12_sums_95 (cat_rf _) ?_
        refine g_getI o fl_X12_216 (rc_self hk0) (by decide) rfl dX12_sums_96 ?_
        refine g_aload_n o dX12_sums_99 2 rfl ?_
        refine g_iload_n o dX12_sums_100 3 rfl ?_
        refine g_iload o dX12_sums_101 0 rfl ?_
        refine g_iconst (v := (1 : Int32)) o dX12_sums_103 (by decide) ?_
        refine g_iadd o dX12_sums_104 ?_
        obtain ⟨x17, e18, h⟩ := ob h
        refine g_invV0 o (rc_self hk0) (by decide) ml_X12_43 kb_X12_of kv_X12_of rfl (c_X12_of (cq X) (cD X) (cY X) (cB X) (d := d) (by omega) (rc_at (rc_self hk0)).2 e18) rfl rfl (by simp [cat_i, cat_l, cat_rf]) dX12_sums_105 ?_
        refine g_iadd o dX12_sums_108 ?_
        refine g_putI o hz fl_X12_216 (rc_self hk0) (by decide) rfl rfl rfl  dX12_sums_109 ?_
        obtain ⟨M19, e20, h⟩ := bn_at h
        refine g_mem e20 ?_
        refine g_aload_n o dX12_sums_112 2 rfl ?_
        refine g_dup o dX12_sums_113 (cat_rf _) ?_
        refine g_getI o fl_X12_219 (rc_self hk0) (by decide) rfl dX12_sums_114 ?_
        refine g_aload_n o dX12_sums_117 2 rfl ?_
        refine g_iload_n o dX12_sums_118 3 rfl ?_
        refine g_iload o dX12_sums_119 1 rfl ?_
        refine g_iconst (v := (3 : Int32)) o dX12_sums_121 (by decide) ?_
        refine g_iadd o dX12_sums_122 ?_
        obtain ⟨x21, e22, h⟩ := ob h
        refine g_invV0 o (rc_self hk0) (by decide) ml_X12_43 kb_X12_of kv_X12_of rfl (c_X12_of (cq X) (cD X) (cY X) (cB X) (d := d) (by omega) (rc_at (rc_self hk0)).2 e22) rfl rfl (by simp [cat_i, cat_l, cat_rf]) dX12_sums_123 ?_
        refine g_iadd o dX12_sums_126 ?_
        refine g_putI o hz fl_X12_219 (rc_self hk0) (by decide) rfl rfl rfl  dX12_sums_127 ?_
        obtain ⟨M23, e24, h⟩ := bn_at h
        refine g_mem e24 ?_
        refine g_aload_n o dX12_sums_130 2 rfl ?_
        refine g_dup o dX12_sums_131 (cat_rf _) ?_
        refine g_getI o fl_X12_222 (rc_self hk0) (by decide) rfl dX12_sums_132 ?_
        refine g_aload_n o dX12_sums_135 2 rfl ?_
        refine g_iload_n o dX12_sums_136 3 rfl ?_
        refine g_iload o dX12_sums_137 0 rfl ?_
        refine g_iconst (v := (3 : Int32)) o dX12_sums_139 (by decide) ?_
        refine g_iadd o dX12_sums_140 ?_
        obtain ⟨x25, e26, h⟩ := ob h
        refine g_invV0 o (rc_self hk0) (by decide) ml_X12_43 kb_X12_of kv_X12_of rfl (c_X12_of (cq X) (cD X) (cY X) (cB X) (d := d) (by omega) (rc_at (rc_self hk0)).2 e26) rfl rfl (by simp [cat_i, cat_l, cat_rf]) dX12_sums_141 ?_
        refine g_iadd o dX12_sums_144 ?_
        refine g_putI o hz fl_X12_222 (rc_self hk0) (by decide) rfl rfl rfl  dX12_sums_145 ?_
        obtain ⟨M27, e28, h⟩ := bn_at h
        refine g_mem e28 ?_
        refine g_iinc (i := 3) (v := v3 + 1) (ls' := [(3, .int (v3 + 1)), (5, .int x7), (4, .int x3), (0, va_rf (some a0)), (1, .int v1), (2, .int v2)]) o dX12_sums_148 5 rfl (by first | rfl | (congr 1)) (ltL hL (by decide)) rfl ?_
        refine g_goto (tgt := 22) o dX12_sums_151 (by decide) ?_
        refine gsub [3, 4, 5, 0] rfl ?_
        exact hk22 _ _ _ _ h
      · have h := (if_pos z).symm.trans h
        refine g_goto (tgt := 148) o dX12_sums_73 (by decide) ?_
        refine g_iinc (i := 3) (v := v3 + 1) (ls' := [(3, .int (v3 + 1)), (5, .int x7), (4, .int x3), (0, va_rf (some a0)), (1, .int v1), (2, .int v2)]) o dX12_sums_148 5 rfl (by first | rfl | (congr 1)) (ltL hL (by decide)) rfl ?_
        refine g_goto (tgt := 22) o dX12_sums_151 (by decide) ?_
        refine gsub [3, 4, 5, 0] rfl ?_
        exact hk22 _ _ _ _ h
theorem w_X12_sums_22_n {X : Cx} {d n : Nat} {K L : Nat → Nat} {fu : Nat} {a0 : Nat} {r : Mm} (o : cOk X cX12_sums RX12 (d + 1)) (hL : cL X = 6) (hr : (ch X).sig.returnType = none) (hz : (cs X).heap.size + 0 = cB X + n) (hk0 : K a0 = 12) (hE : cE X n K L r none 0 0) (hd : 1 ≤ d + 1) : ∀ (g : Nat) (v1 : Int32) (v2 : Int32) (v3 : Int32) (M : Mm), f_X12_sums_22 K L fu a0 g v1 v2 v3 M = some r → gW X 0 0 n K L M 22 [(0, va_rf (some a0)), (1, .int v1), (2, .int v2), (3, .int v3)] []
  | 0, _, _, _, _, h => by cases h
  | g + 1, v1, v2, v3, M, h => w_X12_sums_22b o hL hr hz hk0 hE (w_X12_sums_22_n o hL hr hz hk0 hE hd g) hd h
theorem w_X12_sums_22 {X : Cx} {d n : Nat} {K L : Nat → Nat} {fu : Nat} {a0 : Nat} {r : Mm} {v1 : Int32} {v2 : Int32} {v3 : Int32} {M : Mm} (o : cOk X cX12_sums RX12 (d + 1)) (hL : cL X = 6) (hr : (ch X).sig.returnType = none) (hz : (cs X).heap.size + 0 = cB X + n) (hk0 : K a0 = 12) (hE : cE X n K L r none 0 0) (hd : 1 ≤ d + 1) (h : f_X12_sums_22 K L fu a0 fu v1 v2 v3 M = some r) : gW X 0 0 n K L M 22 [(0, va_rf (some a0)), (1, .int v1), (2, .int v2), (3, .int v3)] [] := w_X12_sums_22_n o hL hr hz hk0 hE hd fu v1 v2 v3 M h
def f_X12_sums (K L : Nat → Nat) (fu : Nat) (a0 : Nat) (v1 : Int32) (v2 : Int32) (M : Mm) : Option Mm :=
  bn (ms_I M (32 * 12 + 19) a0 (0 : Int32)) (fun M1 =>
  bn (ms_I M1 (32 * 12 + 20) a0 (0 : Int32)) (fun M3 =>
  bn (ms_I M3 (32 * 12 + 21) a0 (0 : Int32)) (fun M5 =>
  bn (ms_I M5 (32 * 12 + 22) a0 (0 : Int32)) (fun M7 =>
  f_X12_sums_22 K L fu a0 fu v1 v2 (0 : Int32) M7))))
set_option maxHeartbeats 4000000 in
theorem w_X12_sums_0 {X : Cx} {d n : Nat} {K L : Nat → Nat} {fu : Nat} {a0 : Nat} {r : Mm} {v1 : Int32} {v2 : Int32} {M : Mm} (o : cOk X cX12_sums RX12 (d + 1)) (hL : cL X = 6) (hr : (ch X).sig.returnType = none) (hz : (cs X).heap.size + 0 = cB X + n) (hk0 : K a0 = 12) (hE : cE X n K L r none 0 0) (hd : 1 ≤ d + 1) (h : f_X12_sums K L fu a0 v1 v2 M = some r) : gW X 0 0 n K L M 0 [(0, va_rf (some a0)), (1, .int v1), (2, .int v2)] [] := by
  unfold f_X12_sums at h
  refine g_aload_n o dX12_sums_0 0 rfl ?_
  refine g_iconst (v := (0 : Int32)) o dX12_sums_1 (by decide) ?_
  refine g_putI o hz fl_X12_213 (rc_self hk0) (by decide) rfl rfl rfl  dX12_sums_2 ?_
  obtain ⟨M1, e2, h⟩ := bn_at h
  refine g_mem e2 ?_
  refine g_aload_n o dX12_sums_5 0 rfl ?_
  refine g_iconst (v := (0 : Int32)) o dX12_sums_6 (by decide) ?_
  refine g_putI o hz fl_X12_216 (rc_self hk0) (by decide) rfl rfl rfl  dX12_sums_7 ?_
  obtain ⟨M3, e4, h⟩ := bn_at h
  refine g_mem e4 ?_
  refine g_aload_n o dX12_sums_10 0 rfl ?_
  refine g_iconst (v := (0 : Int32)) o dX12_sums_11 (by decide) ?_
  refine g_putI o hz fl_X12_219 (rc_self hk0) (by decide) rfl rfl rfl  dX12_sums_12 ?_
  obtain ⟨M5, e6, h⟩ := bn_at h
  refine g_mem e6 ?_
  refine g_aload_n o dX12_sums_15 0 rfl ?_
  refine g_iconst (v := (0 : Int32)) o dX12_sums_16 (by decide) ?_
  refine g_putI o hz fl_X12_222 (rc_self hk0) (by decide) rfl rfl rfl  dX12_sums_17 ?_
  obtain ⟨M7, e8, h⟩ := bn_at h
  refine g_mem e8 ?_
  refine g_iconst (v := (0 : Int32)) o dX12_sums_20 (by decide) ?_
  refine g_istore_n (i := 3) (ls' := [(3, .int (0 : Int32)), (0, va_rf (some a0)), (1, .int v1), (2, .int v2)]) o dX12_sums_21 rfl (ltL hL (by decide)) rfl ?_
  refine gsub [1, 2, 3, 0] rfl ?_
  exact w_X12_sums_22 o hL hr hz hk0 hE hd h
theorem c_X12_sums (l : Launch) (D : va_G) (Y : Nat → ClassId) (B : Nat) {d : Nat} {n : Nat} {K L : Nat → Nat} {fu : Nat} {M : Mm} {a0 : Nat} {v1 : Int32} {v2 : Int32} {r : Mm} (hd : 1 ≤ d) (hk0 : K a0 = 12) (h : f_X12_sums K L fu a0 v1 v2 M = some r) : mC l D Y B d yX12_sums cX12_sums 6 (none) [va_rf (some a0), .int v1, .int v2] n K L M n K L r none 0 0 := by
  obtain ⟨d, rfl⟩ : ∃ e, d = e + 1 := ⟨d - 1, by omega⟩
  refine mk_met (by decide) (by simp [lgs_r, lgs_i, lgs_l, lgs_n]) (fun X e1 e2 e3 e4 o hL hr hnm hz hc hs hE => ?_)
  subst e1 e2 e3 e4
  rw [show lv_args 0 [va_rf (some a0), .int v1, .int v2] = [(0, va_rf (some a0)), (1, .int v1), (2, .int v2)] by simp [lva_r, lva_i, lva_l, lva_n]]
  exact w_X12_sums_0 o hL hr hz hk0 hE hd h
def f_X12_chosen_32 (fu : Nat) (k16 : Int32 → Int32 → Int64 → Int32 → Option Int64) (v0 : Int32) (v1 : Int32) (v2 : Int64) (v4 : Int32) (s0 : Int32) (s1 : Int32) : Option Int64 :=
  if s0 < s1 then
    some v2
  else
    Option.bind (nzl (v4.toInt64)) (fun u2 =>
    Option.bind (nzl (v4.toInt64)) (fun u4 =>
    Option.bind (nzl (v4.toInt64)) (fun u6 =>
    bn (((v2 / (v4.toInt64)) * (((v0 - v4) + (1 : Int32)).toInt64)) + (((v2 - v2 / (v4.toInt64) * (v4.toInt64)) * (((v0 - v4) + (1 : Int32)).toInt64)) / (v4.toInt64))) (fun x7 =>
    k16 v0 v1 x7 (v4 + 1)))))
set_option maxHeartbeats 4000000 in
theorem w_X12_chosen_32 {X : Cx} {d n : Nat} {K L : Nat → Nat} {fu : Nat} {M : Mm} {r : Int64} {k16 : Int32 → Int32 → Int64 → Int32 → Option Int64} {v0 : Int32} {v1 : Int32} {v2 : Int64} {v4 : Int32} {s0 : Int32} {s1 : Int32} (o : cOk X cX12_chosen RX12 d) (hL : cL X = 5) (hr : (ch X).sig.returnType = some .long) (hE : cE X n K L M (some (.long r)) 0 0) (hk16 : ∀ (v0 : Int32) (v1 : Int32) (v2 : Int64) (v4 : Int32), k16 v0 v1 v2 v4 = some r → gW X 0 0 n K L M 16 [(0, .int v0), (1, .int v1), (2, .long v2), (4, .int v4)] []) (h : f_X12_chosen_32 fu k16 v0 v1 v2 v4 s0 s1 = some r) : gW X 0 0 n K L M 32 [(0, .int v0), (1, .int v1), (2, .long v2), (4, .int v4)] [.int s0, .int s1] := by
  unfold f_X12_chosen_32 at h
  refine g_icmp_gt (tgt := 73) o dX12_chosen_32 (by decide) (fun z => ?_) (fun z => ?_)
  · have h := (if_pos z).symm.trans h
    refine g_lload_n o dX12_chosen_73 2 rfl ?_
    cases h
    exact g_lret o hr hE dX12_chosen_74
  · have h := (if_neg z).symm.trans h
    refine g_lload_n o dX12_chosen_35 2 rfl ?_
    refine g_iload o dX12_chosen_36 3 rfl ?_
    refine g_i2l o dX12_chosen_38 ?_
    obtain ⟨u2, e1, h⟩ := ob h
    refine g_ldiv o dX12_chosen_39 (nzl_at e1) ?_
    refine g_iload_n o dX12_chosen_40 0 rfl ?_
    refine g_iload o dX12_chosen_41 3 rfl ?_
    refine g_isub o dX12_chosen_43 ?_
    refine g_iconst (v := (1 : Int32)) o dX12_chosen_44 (by decide) ?_
    refine g_iadd o dX12_chosen_45 ?_
    refine g_i2l o dX12_chosen_46 ?_
    refine g_lmul o dX12_chosen_47 ?_
    refine g_lload_n o dX12_chosen_48 2 rfl ?_
    refine g_iload o dX12_chosen_49 3 rfl ?_
    refine g_i2l o dX12_chosen_51 ?_
    obtain ⟨u4, e3, h⟩ := ob h
    refine g_lrem o dX12_chosen_52 (nzl_at e3) ?_
    refine g_iload_n o dX12_chosen_53 0 rfl ?_
    refine g_iload o dX12_chosen_54 3 rfl ?_
    refine g_isub o dX12_chosen_56 ?_
    refine g_iconst (v := (1 : Int32)) o dX12_chosen_57 (by decide) ?_
    refine g_iadd o dX12_chosen_58 ?_
    refine g_i2l o dX12_chosen_59 ?_
    refine g_lmul o dX12_chosen_60 ?_
    refine g_iload o dX12_chosen_61 3 rfl ?_
    refine g_i2l o dX12_chosen_63 ?_
    obtain ⟨u6, e5, h⟩ := ob h
    refine g_ldiv o dX12_chosen_64 (nzl_at e5) ?_
    refine g_ladd o dX12_chosen_65 ?_
    obtain ⟨x7, e8, h⟩ := bn_at h
    refine g_topJ e8 ?_
    refine g_lstore_n (i := 2) (ls' := [(2, .long x7), (0, .int v0), (1, .int v1), (4, .int v4)]) o dX12_chosen_66 rfl (ltL hL (by decide)) rfl ?_
    refine g_iinc (i := 4) (v := v4 + 1) (ls' := [(4, .int (v4 + 1)), (2, .long x7), (0, .int v0), (1, .int v1)]) o dX12_chosen_67 3 rfl (by first | rfl | (congr 1)) (ltL hL (by decide)) rfl ?_
    refine g_goto (tgt := 16) o dX12_chosen_70 (by decide) ?_
    refine gsub [2, 3, 1, 0] rfl ?_
    exact hk16 _ _ _ _ h
def f_X12_chosen_16b (fu : Nat) (k16 : Int32 → Int32 → Int64 → Int32 → Option Int64) (v0 : Int32) (v1 : Int32) (v2 : Int64) (v4 : Int32) : Option Int64 :=
  if (v0 - v1) ≤ v1 then
    f_X12_chosen_32 fu k16 v0 v1 v2 v4 (v0 - v1) v4
  else
    f_X12_chosen_32 fu k16 v0 v1 v2 v4 v1 v4
def f_X12_chosen_16 (fu : Nat) : Nat → Int32 → Int32 → Int64 → Int32 → Option Int64
  | 0, _, _, _, _ => none
  | g + 1, v0, v1, v2, v4 => f_X12_chosen_16b fu (f_X12_chosen_16 fu g) v0 v1 v2 v4
set_option maxHeartbeats 4000000 in
theorem w_X12_chosen_16b {X : Cx} {d n : Nat} {K L : Nat → Nat} {fu : Nat} {M : Mm} {r : Int64} {k16 : Int32 → Int32 → Int64 → Int32 → Option Int64} {v0 : Int32} {v1 : Int32} {v2 : Int64} {v4 : Int32} (o : cOk X cX12_chosen RX12 d) (hL : cL X = 5) (hr : (ch X).sig.returnType = some .long) (hE : cE X n K L M (some (.long r)) 0 0) (hk16 : ∀ (v0 : Int32) (v1 : Int32) (v2 : Int64) (v4 : Int32), k16 v0 v1 v2 v4 = some r → gW X 0 0 n K L M 16 [(0, .int v0), (1, .int v1), (2, .long v2), (4, .int v4)] []) (h : f_X12_chosen_16b fu k16 v0 v1 v2 v4 = some r) : gW X 0 0 n K L M 16 [(0, .int v0), (1, .int v1), (2, .long v2), (4, .int v4)] [] := by
  unfold f_X12_chosen_16b at h
  refine g_iload o dX12_chosen_16 3 rfl ?_
  refine g_iload_n o dX12_chosen_18 1 rfl ?_
  refine g_iload_n o dX12_chosen_19 0 rfl ?_
  refine g_iload_n o dX12_chosen_20 1 rfl ?_
  refine g_isub o dX12_chosen_21 ?_
  refine g_icmp_ge (tgt := 29) o dX12_chosen_22 (by decide) (fun z => ?_) (fun z => ?_)
  · have h := (if_pos z).symm.trans h
    refine g_iload_n o dX12_chosen_29 0 rfl ?_
    refine g_iload_n o dX12_chosen_30 1 rfl ?_
    refine g_isub o dX12_chosen_31 ?_
    exact w_X12_chosen_32 o hL hr hE hk16 h
  · have h := (if_neg z).symm.trans h
    refine g_iload_n o dX12_chosen_25 1 rfl ?_
    refine g_goto (tgt := 32) o dX12_chosen_26 (by decide) ?_
    exact w_X12_chosen_32 o hL hr hE hk16 h
theorem w_X12_chosen_16_n {X : Cx} {d n : Nat} {K L : Nat → Nat} {fu : Nat} {M : Mm} {r : Int64} (o : cOk X cX12_chosen RX12 d) (hL : cL X = 5) (hr : (ch X).sig.returnType = some .long) (hE : cE X n K L M (some (.long r)) 0 0) : ∀ (g : Nat) (v0 : Int32) (v1 : Int32) (v2 : Int64) (v4 : Int32), f_X12_chosen_16 fu g v0 v1 v2 v4 = some r → gW X 0 0 n K L M 16 [(0, .int v0), (1, .int v1), (2, .long v2), (4, .int v4)] []
  | 0, _, _, _, _, h => by cases h
  | g + 1, v0, v1, v2, v4, h => w_X12_chosen_16b o hL hr hE (w_X12_chosen_16_n o hL hr hE g) h
theorem w_X12_chosen_16 {X : Cx} {d n : Nat} {K L : Nat → Nat} {fu : Nat} {M : Mm} {r : Int64} {v0 : Int32} {v1 : Int32} {v2 : Int64} {v4 : Int32} (o : cOk X cX12_chosen RX12 d) (hL : cL X = 5) (hr : (ch X).sig.returnType = some .long) (hE : cE X n K L M (some (.long r)) 0 0) (h : f_X12_chosen_16 fu fu v0 v1 v2 v4 = some r) : gW X 0 0 n K L M 16 [(0, .int v0), (1, .int v1), (2, .long v2), (4, .int v4)] [] := w_X12_chosen_16_n o hL hr hE fu v0 v1 v2 v4 h
def f_X12_chosen (fu : Nat) (v0 : Int32) (v1 : Int32) : Option Int64 :=
  if v1 < 0 then
    some (0 : Int64)
  else
    if v1 ≤ v0 then
      f_X12_chosen_16 fu fu v0 v1 (1 : Int64) (1 : Int32)
    else
      some (0 : Int64)
set_option maxHeartbeats 4000000 in
theorem w_X12_chosen_0 {X : Cx} {d n : Nat} {K L : Nat → Nat} {fu : Nat} {M : Mm} {r : Int64} {v0 : Int32} {v1 : Int32} (o : cOk X cX12_chosen RX12 d) (hL : cL X = 5) (hr : (ch X).sig.returnType = some .long) (hE : cE X n K L M (some (.long r)) 0 0) (h : f_X12_chosen fu v0 v1 = some r) : gW X 0 0 n K L M 0 [(0, .int v0), (1, .int v1)] [] := by
  unfold f_X12_chosen at h
  refine g_iload_n o dX12_chosen_0 1 rfl ?_
  refine g_if_lt (tgt := 9) o dX12_chosen_1 (by decide) (fun z => ?_) (fun z => ?_)
  · have h := (if_pos z).symm.trans h
    refine g_lconst (v := (0 : Int64)) o dX12_chosen_9 (by decide) ?_
    cases h
    exact g_lret o hr hE dX12_chosen_10
  · have h := (if_neg z).symm.trans h
    refine g_iload_n o dX12_chosen_4 1 rfl ?_
    refine g_iload_n o dX12_chosen_5 0 rfl ?_
    refine g_icmp_le (tgt := 11) o dX12_chosen_6 (by decide) (fun z => ?_) (fun z => ?_)
    · have h := (if_pos z).symm.trans h
      refine g_lconst (v := (1 : Int64)) o dX12_chosen_11 (by decide) ?_
      refine g_lstore_n (i := 2) (ls' := [(2, .long (1 : Int64)), (0, .int v0), (1, .int v1)]) o dX12_chosen_12 rfl (ltL hL (by decide)) rfl ?_
      refine g_iconst (v := (1 : Int32)) o dX12_chosen_13 (by decide) ?_
      refine g_istore (i := 4) (ls' := [(4, .int (1 : Int32)), (2, .long (1 : Int64)), (0, .int v0), (1, .int v1)]) o dX12_chosen_14 (ltL hL (by decide)) rfl ?_
      refine gsub [2, 3, 1, 0] rfl ?_
      exact w_X12_chosen_16 o hL hr hE h
    · have h := (if_neg z).symm.trans h
      refine g_lconst (v := (0 : Int64)) o dX12_chosen_9 (by decide) ?_
      cases h
      exact g_lret o hr hE dX12_chosen_10
theorem c_X12_chosen (l : Launch) (D : va_G) (Y : Nat → ClassId) (B : Nat) {d : Nat} {n : Nat} {K L : Nat → Nat} {fu : Nat} {M : Mm} {v0 : Int32} {v1 : Int32} {r : Int64} (hd : 0 ≤ d) (h : f_X12_chosen fu v0 v1 = some r) : mC l D Y B d yX12_chosen cX12_chosen 5 (some .long) [.int v0, .int v1] n K L M n K L M (some (.long r)) 0 0 := by
  refine mk_met (by decide) (by simp [lgs_r, lgs_i, lgs_l, lgs_n]) (fun X e1 e2 e3 e4 o hL hr hnm hz hc hs hE => ?_)
  subst e1 e2 e3 e4
  rw [show lv_args 0 [.int v0, .int v1] = [(0, .int v0), (1, .int v1)] by simp [lva_r, lva_i, lva_l, lva_n]]
  exact w_X12_chosen_0 o hL hr hE h
def f_X12_chances_107 (K L : Nat → Nat) (fu : Nat) (k54 : Int32 → Int32 → Int32 → Mm → Option Mm) (a0 : Nat) (v1 : Int32) (v2 : Int32) (v3 : Int32) (s0 : Int32) (M : Mm) : Option Mm :=
  if s0 = 0 then
    k54 v1 v2 (v3 + 1) M
  else
    Option.bind (f_X12_chosen fu (mm_I M (32 * 12 + 19) a0) v3) (fun x1 =>
    Option.bind (f_X12_chosen fu (mm_I M (32 * 12 + 20) a0) (v1 - v3)) (fun x3 =>
    bn (ms_J M (32 * 12 + 23) a0 ((mm_J M (32 * 12 + 23) a0) + (x1 * x3))) (fun M5 =>
    k54 v1 v2 (v3 + 1) M5)))
set_option maxHeartbeats 4000000 in
theorem w_X12_chances_107 {X : Cx} {d n : Nat} {K L : Nat → Nat} {fu : Nat} {a0 : Nat} {r : Mm} {k54 : Int32 → Int32 → Int32 → Mm → Option Mm} {v1 : Int32} {v2 : Int32} {v3 : Int32} {s0 : Int32} {M : Mm} (o : cOk X cX12_chances RX12 (d + 1)) (hL : cL X = 6) (hr : (ch X).sig.returnType = none) (hz : (cs X).heap.size + 0 = cB X + n) (hk0 : K a0 = 12) (hE : cE X n K L r none 0 0) (hk54 : ∀ (v1 : Int32) (v2 : Int32) (v3 : Int32) (M : Mm), k54 v1 v2 v3 M = some r → gW X 0 0 n K L M 54 [(0, va_rf (some a0)), (1, .int v1), (2, .int v2), (3, .int v3)] []) (hd : 1 ≤ d + 1) (h : f_X12_chances_107 K L fu k54 a0 v1 v2 v3 s0 M = some r) : gW X 0 0 n K L M 107 [(0, va_rf (some a0)), (1, .int v1), (2, .int v2), (3, .int v3)] [.int s0] := by
  unfold f_X12_chances_107 at h
  refine g_istore (i := 5) (ls' := [(5, .int s0), (0, va_rf (some a0)), (1, .int v1), (2, .int v2), (3, .int v3)]) o dX12_chances_107 (ltL hL (by decide)) rfl ?_
  refine g_iload o dX12_chances_109 0 rfl ?_
  refine g_if_eq (tgt := 142) o dX12_chances_111 (by decide) (fun z => ?_) (fun z => ?_)
  · have h := (if_pos z).symm.trans h
    refine g_iinc (i := 3) (v := v3 + 1) (ls' := [(3, .int (v3 + 1)), (5, .int s0), (0, va_rf (some a0)), (1, .int v1), (2, .int v2)]) o dX12_chances_142 4 rfl (by first | rfl | (congr 1)) (ltL hL (by decide)) rfl ?_
    refine g_goto (tgt := 54) o dX12_chances_145 (by decide) ?_
    refine gsub [2, 3, 4, 0] rfl ?_
    exact hk54 _ _ _ _ h
  · have h := (if_neg z).symm.trans h
    refine g_aload_n o dX12_chances_114 1 rfl ?_
    refine g_dup o dX12_chances_115 (cat_rf _) ?_
    refine g_getJ o fl_X12_225 (rc_self hk0) (by decide) rfl dX12_chances_116 ?_
    refine g_aload_n o dX12_chances_119 1 rfl ?_
    refine g_getI o fl_X12_213 (rc_self hk0) (by decide) rfl dX12_chances_120 ?_
    refine g_iload_n o dX12_chances_123 4 rfl ?_
    obtain ⟨x1, e2, h⟩ := ob h
    refine g_invS0 o ml_X12_228 kb_X12_chosen ks_X12_chosen (c_X12_chosen (cq X) (cD X) (cY X) (cB X) (d := d) (by omega) e2) rfl rfl (by simp [cat_i, cat_l, cat_rf]) dX12_chances_124 ?_
    refine g_aload_n o dX12_chances_127 1 rfl ?_
    refine g_getI o fl_X12_216 (rc_self hk0) (by decide) rfl dX12_chances_128 ?_
    refine g_iload_n o dX12_chances_131 2 rfl ?_
    refine g_iload_n o dX12_chances_132 4 rfl ?_
    refine g_isub o dX12_chances_133 ?_
    obtain ⟨x3, e4, h⟩ := ob h
    refine g_invS0 o ml_X12_228 kb_X12_chosen ks_X12_chosen (c_X12_chosen (cq X) (cD X) (cY X) (cB X) (d := d) (by omega) e4) rfl rfl (by simp [cat_i, cat_l, cat_rf]) dX12_chances_134 ?_
    refine g_lmul o dX12_chances_137 ?_
    refine g_ladd o dX12_chances_138 ?_
    refine g_putJ o hz fl_X12_225 (rc_self hk0) (by decide) rfl rfl rfl  dX12_chances_139 ?_
    obtain ⟨M5, e6, h⟩ := bn_at h
    refine g_mem e6 ?_
    refine g_iinc (i := 3) (v := v3 + 1) (ls' := [(3, .int (v3 + 1)), (5, .int s0), (0, va_rf (some a0)), (1, .int v1), (2, .int v2)]) o dX12_chances_142 4 rfl (by first | rfl | (congr 1)) (ltL hL (by decide)) rfl ?_
    refine g_goto (tgt := 54) o dX12_chances_145 (by decide) ?_
    refine gsub [2, 3, 4, 0] rfl ?_
    exact hk54 _ _ _ _ h
def f_X12_chances_99 (K L : Nat → Nat) (fu : Nat) (k54 : Int32 → Int32 → Int32 → Mm → Option Mm) (a0 : Nat) (v1 : Int32) (v2 : Int32) (v3 : Int32) (s0 : Int32) (s1 : Int32) (M : Mm) : Option Mm :=
  if s1 < s0 then
    f_X12_chances_107 K L fu k54 a0 v1 v2 v3 (0 : Int32) M
  else
    f_X12_chances_107 K L fu k54 a0 v1 v2 v3 (1 : Int32) M
set_option maxHeartbeats 4000000 in
theorem w_X12_chances_99 {X : Cx} {d n : Nat} {K L : Nat → Nat} {fu : Nat} {a0 : Nat} {r : Mm} {k54 : Int32 → Int32 → Int32 → Mm → Option Mm} {v1 : Int32} {v2 : Int32} {v3 : Int32} {s0 : Int32} {s1 : Int32} {M : Mm} (o : cOk X cX12_chances RX12 (d + 1)) (hL : cL X = 6) (hr : (ch X).sig.returnType = none) (hz : (cs X).heap.size + 0 = cB X + n) (hk0 : K a0 = 12) (hE : cE X n K L r none 0 0) (hk54 : ∀ (v1 : Int32) (v2 : Int32) (v3 : Int32) (M : Mm), k54 v1 v2 v3 M = some r → gW X 0 0 n K L M 54 [(0, va_rf (some a0)), (1, .int v1), (2, .int v2), (3, .int v3)] []) (hd : 1 ≤ d + 1) (h : f_X12_chances_99 K L fu k54 a0 v1 v2 v3 s0 s1 M = some r) : gW X 0 0 n K L M 99 [(0, va_rf (some a0)), (1, .int v1), (2, .int v2), (3, .int v3)] [.int s0, .int s1] := by
  unfold f_X12_chances_99 at h
  refine g_icmp_lt (tgt := 106) o dX12_chances_99 (by decide) (fun z => ?_) (fun z => ?_)
  · have h := (if_pos z).symm.trans h
    refine g_iconst (v := (0 : Int32)) o dX12_chances_106 (by decide) ?_
    exact w_X12_chances_107 o hL hr hz hk0 hE hk54 hd h
  · have h := (if_neg z).symm.trans h
    refine g_iconst (v := (1 : Int32)) o dX12_chances_102 (by decide) ?_
    refine g_goto (tgt := 107) o dX12_chances_103 (by decide) ?_
    exact w_X12_chances_107 o hL hr hz hk0 hE hk54 hd h
def f_X12_chances_89 (K L : Nat → Nat) (fu : Nat) (k54 : Int32 → Int32 → Int32 → Mm → Option Mm) (a0 : Nat) (v1 : Int32) (v2 : Int32) (v3 : Int32) (s0 : Int32) (M : Mm) : Option Mm :=
  if 0 ≤ v2 then
    f_X12_chances_99 K L fu k54 a0 v1 v2 v3 v2 s0 M
  else
    f_X12_chances_99 K L fu k54 a0 v1 v2 v3 (-v2) s0 M
set_option maxHeartbeats 4000000 in
theorem w_X12_chances_89 {X : Cx} {d n : Nat} {K L : Nat → Nat} {fu : Nat} {a0 : Nat} {r : Mm} {k54 : Int32 → Int32 → Int32 → Mm → Option Mm} {v1 : Int32} {v2 : Int32} {v3 : Int32} {s0 : Int32} {M : Mm} (o : cOk X cX12_chances RX12 (d + 1)) (hL : cL X = 6) (hr : (ch X).sig.returnType = none) (hz : (cs X).heap.size + 0 = cB X + n) (hk0 : K a0 = 12) (hE : cE X n K L r none 0 0) (hk54 : ∀ (v1 : Int32) (v2 : Int32) (v3 : Int32) (M : Mm), k54 v1 v2 v3 M = some r → gW X 0 0 n K L M 54 [(0, va_rf (some a0)), (1, .int v1), (2, .int v2), (3, .int v3)] []) (hd : 1 ≤ d + 1) (h : f_X12_chances_89 K L fu k54 a0 v1 v2 v3 s0 M = some r) : gW X 0 0 n K L M 89 [(0, va_rf (some a0)), (1, .int v1), (2, .int v2), (3, .int v3)] [.int s0] := by
  unfold f_X12_chances_89 at h
  refine g_iload_n o dX12_chances_89 2 rfl ?_
  refine g_if_ge (tgt := 98) o dX12_chances_90 (by decide) (fun z => ?_) (fun z => ?_)
  · have h := (if_pos z).symm.trans h
    refine g_iload_n o dX12_chances_98 2 rfl ?_
    exact w_X12_chances_99 o hL hr hz hk0 hE hk54 hd h
  · have h := (if_neg z).symm.trans h
    refine g_iload_n o dX12_chances_93 2 rfl ?_
    refine g_ineg o dX12_chances_94 ?_
    refine g_goto (tgt := 99) o dX12_chances_95 (by decide) ?_
    exact w_X12_chances_99 o hL hr hz hk0 hE hk54 hd h
def f_X12_chances_54b (K L : Nat → Nat) (fu : Nat) (k54 : Int32 → Int32 → Int32 → Mm → Option Mm) (a0 : Nat) (v1 : Int32) (v2 : Int32) (v3 : Int32) (M : Mm) : Option Mm :=
  if v1 < v3 then
    some M
  else
    bn ((v3 * (mm_I M (32 * 12 + 20) a0)) - ((v1 - v3) * (mm_I M (32 * 12 + 19) a0))) (fun x1 =>
    if 0 ≤ x1 then
      f_X12_chances_89 K L fu k54 a0 v1 v2 v3 x1 M
    else
      f_X12_chances_89 K L fu k54 a0 v1 v2 v3 (-x1) M)
def f_X12_chances_54 (K L : Nat → Nat) (fu : Nat) (a0 : Nat) : Nat → Int32 → Int32 → Int32 → Mm → Option Mm
  | 0, _, _, _, _ => none
  | g + 1, v1, v2, v3, M => f_X12_chances_54b K L fu (f_X12_chances_54 K L fu a0 g) a0 v1 v2 v3 M
set_option maxHeartbeats 4000000 in
theorem w_X12_chances_54b {X : Cx} {d n : Nat} {K L : Nat → Nat} {fu : Nat} {a0 : Nat} {r : Mm} {k54 : Int32 → Int32 → Int32 → Mm → Option Mm} {v1 : Int32} {v2 : Int32} {v3 : Int32} {M : Mm} (o : cOk X cX12_chances RX12 (d + 1)) (hL : cL X = 6) (hr : (ch X).sig.returnType = none) (hz : (cs X).heap.size + 0 = cB X + n) (hk0 : K a0 = 12) (hE : cE X n K L r none 0 0) (hk54 : ∀ (v1 : Int32) (v2 : Int32) (v3 : Int32) (M : Mm), k54 v1 v2 v3 M = some r → gW X 0 0 n K L M 54 [(0, va_rf (some a0)), (1, .int v1), (2, .int v2), (3, .int v3)] []) (hd : 1 ≤ d + 1) (h : f_X12_chances_54b K L fu k54 a0 v1 v2 v3 M = some r) : gW X 0 0 n K L M 54 [(0, va_rf (some a0)), (1, .int v1), (2, .int v2), (3, .int v3)] [] := by
  unfold f_X12_chances_54b at h
  refine g_iload_n o dX12_chances_54 3 rfl ?_
  refine g_iload_n o dX12_chances_55 1 rfl ?_
  refine g_icmp_gt (tgt := 148) o dX12_chances_56 (by decide) (fun z => ?_) (fun z => ?_)
  · have h := (if_pos z).symm.trans h
    cases h
    exact g_vret o hr hE dX12_chances_148
  · have h := (if_neg z).symm.trans h
    refine g_iload_n o dX12_chances_59 3 rfl ?_
    refine g_aload_n o dX12_chances_60 0 rfl ?_
    refine g_getI o fl_X12_216 (rc_self hk0) (by decide) rfl dX12_chances_61 ?_
    refine g_imul o dX12_chances_64 ?_
    refine g_iload_n o dX12_chances_65 1 rfl ?_
    refine g_iload_n o dX12_chances_66 3 rfl ?_
    refine g_isub o dX12_chances_67 ?_
    refine g_aload_n o dX12_chances_68 0 rfl ?_
    refine g_getI o fl_X12_213 (rc_self hk0) (by decide) rfl dX12_chances_69 ?_
    refine g_imul o dX12_chances_72 ?_
    refine g_isub o dX12_chances_73 ?_
    obtain ⟨x1, e2, h⟩ := bn_at h
    refine g_topI e2 ?_
    refine g_istore (i := 4) (ls' := [(4, .int x1), (0, va_rf (some a0)), (1, .int v1), (2, .int v2), (3, .int v3)]) o dX12_chances_74 (ltL hL (by decide)) rfl ?_
    refine g_iload o dX12_chances_76 0 rfl ?_
    refine g_if_ge (tgt := 87) o dX12_chances_78 (by decide) (fun z => ?_) (fun z => ?_)
    · have h := (if_pos z).symm.trans h
      refine g_iload o dX12_chances_87 0 rfl ?_
      refine gsub [1, 2, 3, 4] rfl ?_
      exact w_X12_chances_89 o hL hr hz hk0 hE hk54 hd h
    · have h := (if_neg z).symm.trans h
      refine g_iload o dX12_chances_81 0 rfl ?_
      refine g_ineg o dX12_chances_83 ?_
      refine g_goto (tgt := 89) o dX12_chances_84 (by decide) ?_
      refine gsub [1, 2, 3, 4] rfl ?_
      exact w_X12_chances_89 o hL hr hz hk0 hE hk54 hd h
theorem w_X12_chances_54_n {X : Cx} {d n : Nat} {K L : Nat → Nat} {fu : Nat} {a0 : Nat} {r : Mm} (o : cOk X cX12_chances RX12 (d + 1)) (hL : cL X = 6) (hr : (ch X).sig.returnType = none) (hz : (cs X).heap.size + 0 = cB X + n) (hk0 : K a0 = 12) (hE : cE X n K L r none 0 0) (hd : 1 ≤ d + 1) : ∀ (g : Nat) (v1 : Int32) (v2 : Int32) (v3 : Int32) (M : Mm), f_X12_chances_54 K L fu a0 g v1 v2 v3 M = some r → gW X 0 0 n K L M 54 [(0, va_rf (some a0)), (1, .int v1), (2, .int v2), (3, .int v3)] []
  | 0, _, _, _, _, h => by cases h
  | g + 1, v1, v2, v3, M, h => w_X12_chances_54b o hL hr hz hk0 hE (w_X12_chances_54_n o hL hr hz hk0 hE hd g) hd h
theorem w_X12_chances_54 {X : Cx} {d n : Nat} {K L : Nat → Nat} {fu : Nat} {a0 : Nat} {r : Mm} {v1 : Int32} {v2 : Int32} {v3 : Int32} {M : Mm} (o : cOk X cX12_chances RX12 (d + 1)) (hL : cL X = 6) (hr : (ch X).sig.returnType = none) (hz : (cs X).heap.size + 0 = cB X + n) (hk0 : K a0 = 12) (hE : cE X n K L r none 0 0) (hd : 1 ≤ d + 1) (h : f_X12_chances_54 K L fu a0 fu v1 v2 v3 M = some r) : gW X 0 0 n K L M 54 [(0, va_rf (some a0)), (1, .int v1), (2, .int v2), (3, .int v3)] [] := w_X12_chances_54_n o hL hr hz hk0 hE hd fu v1 v2 v3 M h
def f_X12_chances (K L : Nat → Nat) (fu : Nat) (a0 : Nat) (M : Mm) : Option Mm :=
  bn ((mm_I M (32 * 12 + 21) a0) + (mm_I M (32 * 12 + 22) a0)) (fun x1 =>
  bn (((mm_I M (32 * 12 + 21) a0) * (mm_I M (32 * 12 + 20) a0)) - ((mm_I M (32 * 12 + 22) a0) * (mm_I M (32 * 12 + 19) a0))) (fun x3 =>
  bn (ms_J M (32 * 12 + 23) a0 (0 : Int64)) (fun M5 =>
  Option.bind (f_X12_chosen fu ((mm_I M5 (32 * 12 + 19) a0) + (mm_I M5 (32 * 12 + 20) a0)) x1) (fun x7 =>
  bn (ms_J M5 (32 * 12 + 24) a0 x7) (fun M9 =>
  f_X12_chances_54 K L fu a0 fu x1 x3 (0 : Int32) M9)))))
set_option maxHeartbeats 4000000 in
theorem w_X12_chances_0 {X : Cx} {d n : Nat} {K L : Nat → Nat} {fu : Nat} {a0 : Nat} {r : Mm} {M : Mm} (o : cOk X cX12_chances RX12 (d + 1)) (hL : cL X = 6) (hr : (ch X).sig.returnType = none) (hz : (cs X).heap.size + 0 = cB X + n) (hk0 : K a0 = 12) (hE : cE X n K L r none 0 0) (hd : 1 ≤ d + 1) (h : f_X12_chances K L fu a0  M = some r) : gW X 0 0 n K L M 0 [(0, va_rf (some a0))] [] := by
  unfold f_X12_chances at h
  refine g_aload_n o dX12_chances_0 0 rfl ?_
  refine g_getI o fl_X12_219 (rc_self hk0) (by decide) rfl dX12_chances_1 ?_
  refine g_aload_n o dX12_chances_4 0 rfl ?_
  refine g_getI o fl_X12_222 (rc_self hk0) (by decide) rfl dX12_chances_5 ?_
  refine g_iadd o dX12_chances_8 ?_
  obtain ⟨x1, e2, h⟩ := bn_at h
  refine g_topI e2 ?_
  refine g_istore_n (i := 1) (ls' := [(1, .int x1), (0, va_rf (some a0))]) o dX12_chances_9 rfl (ltL hL (by decide)) rfl ?_
  refine g_aload_n o dX12_chances_10 1 rfl ?_
  refine g_getI o fl_X12_219 (rc_self hk0) (by decide) rfl dX12_chances_11 ?_
  refine g_aload_n o dX12_chances_14 1 rfl ?_
  refine g_getI o fl_X12_216 (rc_self hk0) (by decide) rfl dX12_chances_15 ?_
  refine g_imul o dX12_chances_18 ?_
  refine g_aload_n o dX12_chances_19 1 rfl ?_
  refine g_getI o fl_X12_222 (rc_self hk0) (by decide) rfl dX12_chances_20 ?_
  refine g_aload_n o dX12_chances_23 1 rfl ?_
  refine g_getI o fl_X12_213 (rc_self hk0) (by decide) rfl dX12_chances_24 ?_
  refine g_imul o dX12_chances_27 ?_
  refine g_isub o dX12_chances_28 ?_
  obtain ⟨x3, e4, h⟩ := bn_at h
  refine g_topI e4 ?_
  refine g_istore_n (i := 2) (ls' := [(2, .int x3), (1, .int x1), (0, va_rf (some a0))]) o dX12_chances_29 rfl (ltL hL (by decide)) rfl ?_
  refine g_aload_n o dX12_chances_30 2 rfl ?_
  refine g_lconst (v := (0 : Int64)) o dX12_chances_31 (by decide) ?_
  refine g_putJ o hz fl_X12_225 (rc_self hk0) (by decide) rfl rfl rfl  dX12_chances_32 ?_
  obtain ⟨M5, e6, h⟩ := bn_at h
  refine g_mem e6 ?_
  refine g_aload_n o dX12_chances_35 2 rfl ?_
  refine g_aload_n o dX12_chances_36 2 rfl ?_
  refine g_getI o fl_X12_213 (rc_self hk0) (by decide) rfl dX12_chances_37 ?_
  refine g_aload_n o dX12_chances_40 2 rfl ?_
  refine g_getI o fl_X12_216 (rc_self hk0) (by decide) rfl dX12_chances_41 ?_
  refine g_iadd o dX12_chances_44 ?_
  refine g_iload_n o dX12_chances_45 1 rfl ?_
  obtain ⟨x7, e8, h⟩ := ob h
  refine g_invS0 o ml_X12_228 kb_X12_chosen ks_X12_chosen (c_X12_chosen (cq X) (cD X) (cY X) (cB X) (d := d) (by omega) e8) rfl rfl (by simp [cat_i, cat_l, cat_rf]) dX12_chances_46 ?_
  refine g_putJ o hz fl_X12_232 (rc_self hk0) (by decide) rfl rfl rfl  dX12_chances_49 ?_
  obtain ⟨M9, e10, h⟩ := bn_at h
  refine g_mem e10 ?_
  refine g_iconst (v := (0 : Int32)) o dX12_chances_52 (by decide) ?_
  refine g_istore_n (i := 3) (ls' := [(3, .int (0 : Int32)), (2, .int x3), (1, .int x1), (0, va_rf (some a0))]) o dX12_chances_53 rfl (ltL hL (by decide)) rfl ?_
  refine gsub [3, 2, 1, 0] rfl ?_
  exact w_X12_chances_54 o hL hr hz hk0 hE hd h
theorem c_X12_chances (l : Launch) (D : va_G) (Y : Nat → ClassId) (B : Nat) {d : Nat} {n : Nat} {K L : Nat → Nat} {fu : Nat} {M : Mm} {a0 : Nat} {r : Mm} (hd : 1 ≤ d) (hk0 : K a0 = 12) (h : f_X12_chances K L fu a0  M = some r) : mC l D Y B d yX12_chances cX12_chances 6 (none) [va_rf (some a0)] n K L M n K L r none 0 0 := by
  obtain ⟨d, rfl⟩ : ∃ e, d = e + 1 := ⟨d - 1, by omega⟩
  refine mk_met (by decide) (by simp [lgs_r, lgs_i, lgs_l, lgs_n]) (fun X e1 e2 e3 e4 o hL hr hnm hz hc hs hE => ?_)
  subst e1 e2 e3 e4
  rw [show lv_args 0 [va_rf (some a0)] = [(0, va_rf (some a0))] by simp [lva_r, lva_i, lva_l, lva_n]]
  exact w_X12_chances_0 o hL hr hz hk0 hE hd h
def f_X12_isAbove  (v0 : Int64) (v2 : Int64) (v4 : Int64) (v6 : Int64) : Option Int32 :=
  bn ((v0 - v0 / (1000000000 : Int64) * (1000000000 : Int64)) * v2) (fun x1 =>
  bn (((v0 / (1000000000 : Int64)) * v2) + (x1 / (1000000000 : Int64))) (fun x3 =>
  bn ((v4 - v4 / (1000000000 : Int64) * (1000000000 : Int64)) * v6) (fun x5 =>
  bn (((v4 / (1000000000 : Int64)) * v6) + (x5 / (1000000000 : Int64))) (fun x7 =>
  if (lg_cmp x3 x7) = 0 then
    if (lg_cmp (x1 - x1 / (1000000000 : Int64) * (1000000000 : Int64)) (x5 - x5 / (1000000000 : Int64) * (1000000000 : Int64))) ≤ 0 then
      some (0 : Int32)
    else
      some (1 : Int32)
  else
    if (lg_cmp x3 x7) ≤ 0 then
      some (0 : Int32)
    else
      some (1 : Int32)))))
set_option maxHeartbeats 4000000 in
theorem w_X12_isAbove_0 {X : Cx} {d n : Nat} {K L : Nat → Nat} {M : Mm} {r : Int32} {v0 : Int64} {v2 : Int64} {v4 : Int64} {v6 : Int64} (o : cOk X cX12_isAbove RX12 d) (hL : cL X = 16) (hr : (ch X).sig.returnType = some .boolean) (hE : cE X n K L M (some (.int r)) 0 0) (h : f_X12_isAbove  v0 v2 v4 v6 = some r) : gW X 0 0 n K L M 0 [(0, .long v0), (2, .long v2), (4, .long v4), (6, .long v6)] [] := by
  unfold f_X12_isAbove at h
  refine g_lload_n o dX12_isAbove_0 0 rfl ?_
  refine g_ldc2 (v := (1000000000 : Int64)) o kc_X12_235 dX12_isAbove_1 ?_
  refine g_lrem o dX12_isAbove_4 (by decide) ?_
  refine g_lload_n o dX12_isAbove_5 1 rfl ?_
  refine g_lmul o dX12_isAbove_6 ?_
  obtain ⟨x1, e2, h⟩ := bn_at h
  refine g_topJ e2 ?_
  refine g_lstore (i := 8) (ls' := [(8, .long x1), (0, .long v0), (2, .long v2), (4, .long v4), (6, .long v6)]) o dX12_isAbove_7 (ltL hL (by decide)) rfl ?_
  refine g_lload_n o dX12_isAbove_9 1 rfl ?_
  refine g_ldc2 (v := (1000000000 : Int64)) o kc_X12_235 dX12_isAbove_10 ?_
  refine g_ldiv o dX12_isAbove_13 (by decide) ?_
  refine g_lload_n o dX12_isAbove_14 2 rfl ?_
  refine g_lmul o dX12_isAbove_15 ?_
  refine g_lload o dX12_isAbove_16 0 rfl ?_
  refine g_ldc2 (v := (1000000000 : Int64)) o kc_X12_235 dX12_isAbove_18 ?_
  refine g_ldiv o dX12_isAbove_21 (by decide) ?_
  refine g_ladd o dX12_isAbove_22 ?_
  obtain ⟨x3, e4, h⟩ := bn_at h
  refine g_topJ e4 ?_
  refine g_lstore (i := 10) (ls' := [(10, .long x3), (8, .long x1), (0, .long v0), (2, .long v2), (4, .long v4), (6, .long v6)]) o dX12_isAbove_23 (ltL hL (by decide)) rfl ?_
  refine g_lload o dX12_isAbove_25 4 rfl ?_
  refine g_ldc2 (v := (1000000000 : Int64)) o kc_X12_235 dX12_isAbove_27 ?_
  refine g_lrem o dX12_isAbove_30 (by decide) ?_
  refine g_lload o dX12_isAbove_31 5 rfl ?_
  refine g_lmul o dX12_isAbove_33 ?_
  obtain ⟨x5, e6, h⟩ := bn_at h
  refine g_topJ e6 ?_
  refine g_lstore (i := 12) (ls' := [(12, .long x5), (10, .long x3), (8, .long x1), (0, .long v0), (2, .long v2), (4, .long v4), (6, .long v6)]) o dX12_isAbove_34 (ltL hL (by decide)) rfl ?_
  refine g_lload o dX12_isAbove_36 5 rfl ?_
  refine g_ldc2 (v := (1000000000 : Int64)) o kc_X12_235 dX12_isAbove_38 ?_
  refine g_ldiv o dX12_isAbove_41 (by decide) ?_
  refine g_lload o dX12_isAbove_42 6 rfl ?_
  refine g_lmul o dX12_isAbove_44 ?_
  refine g_lload o dX12_isAbove_45 0 rfl ?_
  refine g_ldc2 (v := (1000000000 : Int64)) o kc_X12_235 dX12_isAbove_47 ?_
  refine g_ldiv o dX12_isAbove_50 (by decide) ?_
  refine g_ladd o dX12_isAbove_51 ?_
  obtain ⟨x7, e8, h⟩ := bn_at h
  refine g_topJ e8 ?_
  refine g_lstore (i := 14) (ls' := [(14, .long x7), (12, .long x5), (10, .long x3), (8, .long x1), (0, .long v0), (2, .long v2), (4, .long v4), (6, .long v6)]) o dX12_isAbove_52 (ltL hL (by decide)) rfl ?_
  refine g_lload o dX12_isAbove_54 2 rfl ?_
  refine g_lload o dX12_isAbove_56 0 rfl ?_
  refine g_lcmp o dX12_isAbove_58 ?_
  refine g_if_eq (tgt := 76) o dX12_isAbove_59 (by decide) (fun z => ?_) (fun z => ?_)
  · have h := (if_pos z).symm.trans h
    refine g_lload o dX12_isAbove_76 3 rfl ?_
    refine g_ldc2 (v := (1000000000 : Int64)) o kc_X12_235 dX12_isAbove_78 ?_
    refine g_lrem o dX12_isAbove_81 (by decide) ?_
    refine g_lload o dX12_isAbove_82 1 rfl ?_
    refine g_ldc2 (v := (1000000000 : Int64)) o kc_X12_235 dX12_isAbove_84 ?_
    refine g_lrem o dX12_isAbove_87 (by decide) ?_
    refine g_lcmp o dX12_isAbove_88 ?_
    refine g_if_le (tgt := 96) o dX12_isAbove_89 (by decide) (fun z => ?_) (fun z => ?_)
    · have h := (if_pos z).symm.trans h
      refine g_iconst (v := (0 : Int32)) o dX12_isAbove_96 (by decide) ?_
      cases h
      exact g_zret o hr (by decide) hE dX12_isAbove_97
    · have h := (if_neg z).symm.trans h
      refine g_iconst (v := (1 : Int32)) o dX12_isAbove_92 (by decide) ?_
      refine g_goto (tgt := 97) o dX12_isAbove_93 (by decide) ?_
      cases h
      exact g_zret o hr (by decide) hE dX12_isAbove_97
  · have h := (if_neg z).symm.trans h
    refine g_lload o dX12_isAbove_62 2 rfl ?_
    refine g_lload o dX12_isAbove_64 0 rfl ?_
    refine g_lcmp o dX12_isAbove_66 ?_
    refine g_if_le (tgt := 74) o dX12_isAbove_67 (by decide) (fun z => ?_) (fun z => ?_)
    · have h := (if_pos z).symm.trans h
      refine g_iconst (v := (0 : Int32)) o dX12_isAbove_74 (by decide) ?_
      cases h
      exact g_zret o hr (by decide) hE dX12_isAbove_75
    · have h := (if_neg z).symm.trans h
      refine g_iconst (v := (1 : Int32)) o dX12_isAbove_70 (by decide) ?_
      refine g_goto (tgt := 75) o dX12_isAbove_71 (by decide) ?_
      cases h
      exact g_zret o hr (by decide) hE dX12_isAbove_75
theorem c_X12_isAbove (l : Launch) (D : va_G) (Y : Nat → ClassId) (B : Nat) {d : Nat} {n : Nat} {K L : Nat → Nat} {M : Mm} {v0 : Int64} {v2 : Int64} {v4 : Int64} {v6 : Int64} {r : Int32} (hd : 0 ≤ d) (h : f_X12_isAbove  v0 v2 v4 v6 = some r) : mC l D Y B d yX12_isAbove cX12_isAbove 16 (some .boolean) [.long v0, .long v2, .long v4, .long v6] n K L M n K L M (some (.int r)) 0 0 := by
  refine mk_met (by decide) (by simp [lgs_r, lgs_i, lgs_l, lgs_n]) (fun X e1 e2 e3 e4 o hL hr hnm hz hc hs hE => ?_)
  subst e1 e2 e3 e4
  rw [show lv_args 0 [.long v0, .long v2, .long v4, .long v6] = [(0, .long v0), (2, .long v2), (4, .long v4), (6, .long v6)] by simp [lva_r, lva_i, lva_l, lva_n]]
  exact w_X12_isAbove_0 o hL hr hE h
def f_X12_millionths_25b (K L : Nat → Nat) (fu : Nat) (k25 : Int32 → Int64 → Int32 → Option Int32) (M : Mm) (a0 : Nat) (v1 : Int32) (v2 : Int64) (v4 : Int32) : Option Int32 :=
  if (6 : Int32) ≤ v4 then
    some v1
  else
    bn (v2 * (10 : Int64)) (fun x1 =>
    Option.bind (nzl (mm_J M (32 * 12 + 24) a0)) (fun u4 =>
    bn (((10 : Int32) * v1) + ((x1 / (mm_J M (32 * 12 + 24) a0)).toInt32)) (fun x5 =>
    Option.bind (nzl (mm_J M (32 * 12 + 24) a0)) (fun u8 =>
    bn (x1 - x1 / (mm_J M (32 * 12 + 24) a0) * (mm_J M (32 * 12 + 24) a0)) (fun x9 =>
    k25 x5 x9 (v4 + 1))))))
def f_X12_millionths_25 (K L : Nat → Nat) (fu : Nat) (M : Mm) (a0 : Nat) : Nat → Int32 → Int64 → Int32 → Option Int32
  | 0, _, _, _ => none
  | g + 1, v1, v2, v4 => f_X12_millionths_25b K L fu (f_X12_millionths_25 K L fu M a0 g) M a0 v1 v2 v4
set_option maxHeartbeats 4000000 in
theorem w_X12_millionths_25b {X : Cx} {d n : Nat} {K L : Nat → Nat} {fu : Nat} {M : Mm} {a0 : Nat} {r : Int32} {k25 : Int32 → Int64 → Int32 → Option Int32} {v1 : Int32} {v2 : Int64} {v4 : Int32} (o : cOk X cX12_millionths RX12 d) (hL : cL X = 5) (hr : (ch X).sig.returnType = some .int) (hk0 : K a0 = 12) (hE : cE X n K L M (some (.int r)) 0 0) (hk25 : ∀ (v1 : Int32) (v2 : Int64) (v4 : Int32), k25 v1 v2 v4 = some r → gW X 0 0 n K L M 25 [(0, va_rf (some a0)), (1, .int v1), (2, .long v2), (4, .int v4)] []) (h : f_X12_millionths_25b K L fu k25 M a0 v1 v2 v4 = some r) : gW X 0 0 n K L M 25 [(0, va_rf (some a0)), (1, .int v1), (2, .long v2), (4, .int v4)] [] := by
  unfold f_X12_millionths_25b at h
  refine g_iload o dX12_millionths_25 3 rfl ?_
  refine g_bipush (v := (6 : Int32)) o dX12_millionths_27 (by decide) ?_
  refine g_icmp_ge (tgt := 64) o dX12_millionths_29 (by decide) (fun z => ?_) (fun z => ?_)
  · have h := (if_pos z).symm.trans h
    refine g_iload_n o dX12_millionths_64 1 rfl ?_
    cases h
    exact g_iret o hr hE dX12_millionths_65
  · have h := (if_neg z).symm.trans h
    refine g_lload_n o dX12_millionths_32 2 rfl ?_
    refine g_ldc2 (v := (10 : Int64)) o kc_X12_238 dX12_millionths_33 ?_
    refine g_lmul o dX12_millionths_36 ?_
    obtain ⟨x1, e2, h⟩ := bn_at h
    refine g_topJ e2 ?_
    refine g_lstore_n (i := 2) (ls' := [(2, .long x1), (0, va_rf (some a0)), (1, .int v1), (4, .int v4)]) o dX12_millionths_37 rfl (ltL hL (by decide)) rfl ?_
    refine g_bipush (v := (10 : Int32)) o dX12_millionths_38 (by decide) ?_
    refine g_iload_n o dX12_millionths_40 2 rfl ?_
    refine g_imul o dX12_millionths_41 ?_
    refine g_lload_n o dX12_millionths_42 0 rfl ?_
    refine g_aload_n o dX12_millionths_43 1 rfl ?_
    refine g_getJ o fl_X12_232 (rc_self hk0) (by decide) rfl dX12_millionths_44 ?_
    obtain ⟨u4, e3, h⟩ := ob h
    refine g_ldiv o dX12_millionths_47 (nzl_at e3) ?_
    refine g_l2i o dX12_millionths_48 ?_
    refine g_iadd o dX12_millionths_49 ?_
    obtain ⟨x5, e6, h⟩ := bn_at h
    refine g_topI e6 ?_
    refine g_istore_n (i := 1) (ls' := [(1, .int x5), (2, .long x1), (0, va_rf (some a0)), (4, .int v4)]) o dX12_millionths_50 rfl (ltL hL (by decide)) rfl ?_
    refine g_lload_n o dX12_millionths_51 1 rfl ?_
    refine g_aload_n o dX12_millionths_52 2 rfl ?_
    refine g_getJ o fl_X12_232 (rc_self hk0) (by decide) rfl dX12_millionths_53 ?_
    obtain ⟨u8, e7, h⟩ := ob h
    refine g_lrem o dX12_millionths_56 (nzl_at e7) ?_
    obtain ⟨x9, e10, h⟩ := bn_at h
    refine g_topJ e10 ?_
    refine g_lstore_n (i := 2) (ls' := [(2, .long x9), (1, .int x5), (0, va_rf (some a0)), (4, .int v4)]) o dX12_millionths_57 rfl (ltL hL (by decide)) rfl ?_
    refine g_iinc (i := 4) (v := v4 + 1) (ls' := [(4, .int (v4 + 1)), (2, .long x9), (1, .int x5), (0, va_rf (some a0))]) o dX12_millionths_58 3 rfl (by first | rfl | (congr 1)) (ltL hL (by decide)) rfl ?_
    refine g_goto (tgt := 25) o dX12_millionths_61 (by decide) ?_
    refine gsub [3, 2, 1, 0] rfl ?_
    exact hk25 _ _ _ h
theorem w_X12_millionths_25_n {X : Cx} {d n : Nat} {K L : Nat → Nat} {fu : Nat} {M : Mm} {a0 : Nat} {r : Int32} (o : cOk X cX12_millionths RX12 d) (hL : cL X = 5) (hr : (ch X).sig.returnType = some .int) (hk0 : K a0 = 12) (hE : cE X n K L M (some (.int r)) 0 0) : ∀ (g : Nat) (v1 : Int32) (v2 : Int64) (v4 : Int32), f_X12_millionths_25 K L fu M a0 g v1 v2 v4 = some r → gW X 0 0 n K L M 25 [(0, va_rf (some a0)), (1, .int v1), (2, .long v2), (4, .int v4)] []
  | 0, _, _, _, h => by cases h
  | g + 1, v1, v2, v4, h => w_X12_millionths_25b o hL hr hk0 hE (w_X12_millionths_25_n o hL hr hk0 hE g) h
theorem w_X12_millionths_25 {X : Cx} {d n : Nat} {K L : Nat → Nat} {fu : Nat} {M : Mm} {a0 : Nat} {r : Int32} {v1 : Int32} {v2 : Int64} {v4 : Int32} (o : cOk X cX12_millionths RX12 d) (hL : cL X = 5) (hr : (ch X).sig.returnType = some .int) (hk0 : K a0 = 12) (hE : cE X n K L M (some (.int r)) 0 0) (h : f_X12_millionths_25 K L fu M a0 fu v1 v2 v4 = some r) : gW X 0 0 n K L M 25 [(0, va_rf (some a0)), (1, .int v1), (2, .long v2), (4, .int v4)] [] := w_X12_millionths_25_n o hL hr hk0 hE fu v1 v2 v4 h
def f_X12_millionths (K L : Nat → Nat) (fu : Nat) (M : Mm) (a0 : Nat) : Option Int32 :=
  if (lg_cmp (mm_J M (32 * 12 + 23) a0) (mm_J M (32 * 12 + 24) a0)) < 0 then
    bn (mm_J M (32 * 12 + 23) a0) (fun x1 =>
    f_X12_millionths_25 K L fu M a0 fu (0 : Int32) x1 (0 : Int32))
  else
    some (1000000 : Int32)
set_option maxHeartbeats 4000000 in
theorem w_X12_millionths_0 {X : Cx} {d n : Nat} {K L : Nat → Nat} {fu : Nat} {M : Mm} {a0 : Nat} {r : Int32} (o : cOk X cX12_millionths RX12 d) (hL : cL X = 5) (hr : (ch X).sig.returnType = some .int) (hk0 : K a0 = 12) (hE : cE X n K L M (some (.int r)) 0 0) (h : f_X12_millionths K L fu M a0  = some r) : gW X 0 0 n K L M 0 [(0, va_rf (some a0))] [] := by
  unfold f_X12_millionths at h
  refine g_aload_n o dX12_millionths_0 0 rfl ?_
  refine g_getJ o fl_X12_225 (rc_self hk0) (by decide) rfl dX12_millionths_1 ?_
  refine g_aload_n o dX12_millionths_4 0 rfl ?_
  refine g_getJ o fl_X12_232 (rc_self hk0) (by decide) rfl dX12_millionths_5 ?_
  refine g_lcmp o dX12_millionths_8 ?_
  refine g_if_lt (tgt := 15) o dX12_millionths_9 (by decide) (fun z => ?_) (fun z => ?_)
  · have h := (if_pos z).symm.trans h
    refine g_iconst (v := (0 : Int32)) o dX12_millionths_15 (by decide) ?_
    refine g_istore_n (i := 1) (ls' := [(1, .int (0 : Int32)), (0, va_rf (some a0))]) o dX12_millionths_16 rfl (ltL hL (by decide)) rfl ?_
    refine g_aload_n o dX12_millionths_17 1 rfl ?_
    refine g_getJ o fl_X12_225 (rc_self hk0) (by decide) rfl dX12_millionths_18 ?_
    obtain ⟨x1, e2, h⟩ := bn_at h
    refine g_topJ e2 ?_
    refine g_lstore_n (i := 2) (ls' := [(2, .long x1), (1, .int (0 : Int32)), (0, va_rf (some a0))]) o dX12_millionths_21 rfl (ltL hL (by decide)) rfl ?_
    refine g_iconst (v := (0 : Int32)) o dX12_millionths_22 (by decide) ?_
    refine g_istore (i := 4) (ls' := [(4, .int (0 : Int32)), (2, .long x1), (1, .int (0 : Int32)), (0, va_rf (some a0))]) o dX12_millionths_23 (ltL hL (by decide)) rfl ?_
    refine gsub [3, 2, 1, 0] rfl ?_
    exact w_X12_millionths_25 o hL hr hk0 hE h
  · have h := (if_neg z).symm.trans h
    refine g_ldc (v := (1000000 : Int32)) o kc_X12_237 dX12_millionths_12 ?_
    cases h
    exact g_iret o hr hE dX12_millionths_14
theorem c_X12_millionths (l : Launch) (D : va_G) (Y : Nat → ClassId) (B : Nat) {d : Nat} {n : Nat} {K L : Nat → Nat} {fu : Nat} {M : Mm} {a0 : Nat} {r : Int32} (hd : 0 ≤ d) (hk0 : K a0 = 12) (h : f_X12_millionths K L fu M a0  = some r) : mC l D Y B d yX12_millionths cX12_millionths 5 (some .int) [va_rf (some a0)] n K L M n K L M (some (.int r)) 0 0 := by
  refine mk_met (by decide) (by simp [lgs_r, lgs_i, lgs_l, lgs_n]) (fun X e1 e2 e3 e4 o hL hr hnm hz hc hs hE => ?_)
  subst e1 e2 e3 e4
  rw [show lv_args 0 [va_rf (some a0)] = [(0, va_rf (some a0))] by simp [lva_r, lva_i, lva_l, lva_n]]
  exact w_X12_millionths_0 o hL hr hk0 hE h
def f_X12_look_327 (K L : Nat → Nat) (fu : Nat) (a0 : Nat) (v1 : Int32) (s0 : Int32) (M : Mm) : Option (Int32 × Mm) :=
  Option.bind (f_X12_to K L a0 v1 (82 : Int32) s0 M) (fun x1 =>
  some (s0, x1))
set_option maxHeartbeats 4000000 in
theorem w_X12_look_327 {X : Cx} {d n : Nat} {K L : Nat → Nat} {fu : Nat} {a0 : Nat} {r : (Int32 × Mm)} {v1 : Int32} {s0 : Int32} {M : Mm} (o : cOk X cX12_look RX12 (d + 1)) (hL : cL X = 7) (hr : (ch X).sig.returnType = some .int) (hz : (cs X).heap.size + 0 = cB X + n) (hk0 : K a0 = 12) (hE : cE X n K L r.2 (some (.int r.1)) 0 0) (hd : 3 ≤ d + 1) (h : f_X12_look_327 K L fu a0 v1 s0 M = some r) : gW X 0 0 n K L M 327 [(0, va_rf (some a0)), (1, .int v1)] [.int s0] := by
  unfold f_X12_look_327 at h
  refine g_istore (i := 6) (ls' := [(6, .int s0), (0, va_rf (some a0)), (1, .int v1)]) o dX12_look_327 (ltL hL (by decide)) rfl ?_
  refine g_aload_n o dX12_look_329 1 rfl ?_
  refine g_iload_n o dX12_look_330 2 rfl ?_
  refine g_bipush (v := (82 : Int32)) o dX12_look_331 (by decide) ?_
  refine g_iload o dX12_look_333 0 rfl ?_
  obtain ⟨x1, e2, h⟩ := ob h
  refine g_invV0 o (rc_self hk0) (by decide) ml_X12_125 kb_X12_to kv_X12_to rfl (c_X12_to (cq X) (cD X) (cY X) (cB X) (d := d) (by omega) (rc_at (rc_self hk0)).2 e2) rfl rfl (by simp [cat_i, cat_l, cat_rf]) dX12_look_335 ?_
  refine g_iload o dX12_look_338 0 rfl ?_
  cases h
  exact g_iret o hr hE dX12_look_340
def f_X12_look_276 (K L : Nat → Nat) (fu : Nat) (a0 : Nat) (v1 : Int32) (v4 : Int32) (s0 : Int32) (M : Mm) : Option (Int32 × Mm) :=
  if s0 = 0 then
    Option.bind (f_X12_of K L M a0 v1 (81 : Int32)) (fun x1 =>
    Option.bind (f_X12_of K L M a0 v1 (80 : Int32)) (fun x3 =>
    if x1 < x3 then
      f_X12_look_327 K L fu a0 v1 (0 : Int32) M
    else
      f_X12_look_327 K L fu a0 v1 (3 : Int32) M))
  else
    if v4 ≤ 0 then
      if 0 ≤ v4 then
        f_X12_look_327 K L fu a0 v1 (3 : Int32) M
      else
        f_X12_look_327 K L fu a0 v1 (2 : Int32) M
    else
      f_X12_look_327 K L fu a0 v1 (1 : Int32) M
set_option maxHeartbeats 4000000 in
theorem w_X12_look_276 {X : Cx} {d n : Nat} {K L : Nat → Nat} {fu : Nat} {a0 : Nat} {r : (Int32 × Mm)} {v1 : Int32} {v4 : Int32} {s0 : Int32} {M : Mm} (o : cOk X cX12_look RX12 (d + 1)) (hL : cL X = 7) (hr : (ch X).sig.returnType = some .int) (hz : (cs X).heap.size + 0 = cB X + n) (hk0 : K a0 = 12) (hE : cE X n K L r.2 (some (.int r.1)) 0 0) (hd : 3 ≤ d + 1) (h : f_X12_look_276 K L fu a0 v1 v4 s0 M = some r) : gW X 0 0 n K L M 276 [(0, va_rf (some a0)), (1, .int v1), (4, .int v4)] [.int s0] := by
  unfold f_X12_look_276 at h
  refine g_istore (i := 5) (ls' := [(5, .int s0), (0, va_rf (some a0)), (1, .int v1), (4, .int v4)]) o dX12_look_276 (ltL hL (by decide)) rfl ?_
  refine g_iload o dX12_look_278 0 rfl ?_
  refine g_if_eq (tgt := 305) o dX12_look_280 (by decide) (fun z => ?_) (fun z => ?_)
  · have h := (if_pos z).symm.trans h
    refine g_aload_n o dX12_look_305 1 rfl ?_
    refine g_iload_n o dX12_look_306 2 rfl ?_
    refine g_bipush (v := (81 : Int32)) o dX12_look_307 (by decide) ?_
    obtain ⟨x1, e2, h⟩ := ob h
    refine g_invV0 o (rc_self hk0) (by decide) ml_X12_43 kb_X12_of kv_X12_of rfl (c_X12_of (cq X) (cD X) (cY X) (cB X) (d := d) (by omega) (rc_at (rc_self hk0)).2 e2) rfl rfl (by simp [cat_i, cat_l, cat_rf]) dX12_look_309 ?_
    refine g_aload_n o dX12_look_312 1 rfl ?_
    refine g_iload_n o dX12_look_313 2 rfl ?_
    refine g_bipush (v := (80 : Int32)) o dX12_look_314 (by decide) ?_
    obtain ⟨x3, e4, h⟩ := ob h
    refine g_invV0 o (rc_self hk0) (by decide) ml_X12_43 kb_X12_of kv_X12_of rfl (c_X12_of (cq X) (cD X) (cY X) (cB X) (d := d) (by omega) (rc_at (rc_self hk0)).2 e4) rfl rfl (by simp [cat_i, cat_l, cat_rf]) dX12_look_316 ?_
    refine g_icmp_lt (tgt := 326) o dX12_look_319 (by decide) (fun z => ?_) (fun z => ?_)
    · have h := (if_pos z).symm.trans h
      refine g_iconst (v := (0 : Int32)) o dX12_look_326 (by decide) ?_
      refine gsub [1, 2] rfl ?_
      exact w_X12_look_327 o hL hr hz hk0 hE hd h
    · have h := (if_neg z).symm.trans h
      refine g_iconst (v := (3 : Int32)) o dX12_look_322 (by decide) ?_
      refine g_goto (tgt := 327) o dX12_look_323 (by decide) ?_
      refine gsub [1, 2] rfl ?_
      exact w_X12_look_327 o hL hr hz hk0 hE hd h
  · have h := (if_neg z).symm.trans h
    refine g_iload o dX12_look_283 3 rfl ?_
    refine g_if_le (tgt := 292) o dX12_look_285 (by decide) (fun z => ?_) (fun z => ?_)
    · have h := (if_pos z).symm.trans h
      refine g_iload o dX12_look_292 3 rfl ?_
      refine g_if_ge (tgt := 301) o dX12_look_294 (by decide) (fun z => ?_) (fun z => ?_)
      · have h := (if_pos z).symm.trans h
        refine g_iconst (v := (3 : Int32)) o dX12_look_301 (by decide) ?_
        refine g_goto (tgt := 327) o dX12_look_302 (by decide) ?_
        refine gsub [1, 2] rfl ?_
        exact w_X12_look_327 o hL hr hz hk0 hE hd h
      · have h := (if_neg z).symm.trans h
        refine g_iconst (v := (2 : Int32)) o dX12_look_297 (by decide) ?_
        refine g_goto (tgt := 327) o dX12_look_298 (by decide) ?_
        refine gsub [1, 2] rfl ?_
        exact w_X12_look_327 o hL hr hz hk0 hE hd h
    · have h := (if_neg z).symm.trans h
      refine g_iconst (v := (1 : Int32)) o dX12_look_288 (by decide) ?_
      refine g_goto (tgt := 327) o dX12_look_289 (by decide) ?_
      refine gsub [1, 2] rfl ?_
      exact w_X12_look_327 o hL hr hz hk0 hE hd h
def f_X12_look_134 (K L : Nat → Nat) (fu : Nat) (a0 : Nat) (M : Mm) : Option (Int32 × Mm) :=
  Option.bind (f_X12_no K L a0 (-13 : Int32) M) (fun x1 =>
  some (x1.1, x1.2))
set_option maxHeartbeats 4000000 in
theorem w_X12_look_134 {X : Cx} {d n : Nat} {K L : Nat → Nat} {fu : Nat} {a0 : Nat} {r : (Int32 × Mm)} {M : Mm} (o : cOk X cX12_look RX12 (d + 1)) (hL : cL X = 7) (hr : (ch X).sig.returnType = some .int) (hz : (cs X).heap.size + 0 = cB X + n) (hk0 : K a0 = 12) (hE : cE X n K L r.2 (some (.int r.1)) 0 0) (hd : 3 ≤ d + 1) (h : f_X12_look_134 K L fu a0  M = some r) : gW X 0 0 n K L M 134 [(0, va_rf (some a0))] [] := by
  unfold f_X12_look_134 at h
  refine g_aload_n o dX12_look_134 0 rfl ?_
  refine g_bipush (v := (-13 : Int32)) o dX12_look_135 (by decide) ?_
  obtain ⟨x1, e2, h⟩ := ob h
  refine g_invV0 o (rc_self hk0) (by decide) ml_X12_72 kb_X12_no kv_X12_no rfl (c_X12_no (cq X) (cD X) (cY X) (cB X) (d := d) (by omega) (rc_at (rc_self hk0)).2 e2) rfl rfl (by simp [cat_i, cat_l, cat_rf]) dX12_look_137 ?_
  cases h
  exact g_iret o hr hE dX12_look_140
def f_X12_look_109 (K L : Nat → Nat) (fu : Nat) (a0 : Nat) (M : Mm) : Option (Int32 × Mm) :=
  Option.bind (f_X12_no K L a0 (-8 : Int32) M) (fun x1 =>
  some (x1.1, x1.2))
set_option maxHeartbeats 4000000 in
theorem w_X12_look_109 {X : Cx} {d n : Nat} {K L : Nat → Nat} {fu : Nat} {a0 : Nat} {r : (Int32 × Mm)} {M : Mm} (o : cOk X cX12_look RX12 (d + 1)) (hL : cL X = 7) (hr : (ch X).sig.returnType = some .int) (hz : (cs X).heap.size + 0 = cB X + n) (hk0 : K a0 = 12) (hE : cE X n K L r.2 (some (.int r.1)) 0 0) (hd : 3 ≤ d + 1) (h : f_X12_look_109 K L fu a0  M = some r) : gW X 0 0 n K L M 109 [(0, va_rf (some a0))] [] := by
  unfold f_X12_look_109 at h
  refine g_aload_n o dX12_look_109 0 rfl ?_
  refine g_bipush (v := (-8 : Int32)) o dX12_look_110 (by decide) ?_
  obtain ⟨x1, e2, h⟩ := ob h
  refine g_invV0 o (rc_self hk0) (by decide) ml_X12_72 kb_X12_no kv_X12_no rfl (c_X12_no (cq X) (cD X) (cY X) (cB X) (d := d) (by omega) (rc_at (rc_self hk0)).2 e2) rfl rfl (by simp [cat_i, cat_l, cat_rf]) dX12_look_112 ?_
  cases h
  exact g_iret o hr hE dX12_look_115
def f_X12_look_79 (K L : Nat → Nat) (fu : Nat) (a0 : Nat) (v1 : Int32) (v2 : Int32) (v3 : Int32) (M : Mm) : Option (Int32 × Mm) :=
  if v3 = 0 then
    Option.bind (f_X12_sums K L fu a0 v1 v2 M) (fun x1 =>
    if (mm_I x1 (32 * 12 + 19) a0) = 0 then
      f_X12_look_109 K L fu a0 x1
    else
      if (mm_I x1 (32 * 12 + 20) a0) = 0 then
        f_X12_look_109 K L fu a0 x1
      else
        if (30 : Int32) < (mm_I x1 (32 * 12 + 19) a0) then
          f_X12_look_134 K L fu a0 x1
        else
          if (mm_I x1 (32 * 12 + 20) a0) ≤ (30 : Int32) then
            Option.bind (f_X12_chances K L fu a0 x1) (fun x3 =>
            Option.bind (f_X12_of K L x3 a0 v1 (81 : Int32)) (fun x5 =>
            Option.bind (f_X12_to K L a0 v1 (81 : Int32) (x5 + (1 : Int32)) x3) (fun x7 =>
            Option.bind (f_X12_millionths K L fu x7 a0) (fun x9 =>
            Option.bind (f_X12_to K L a0 v1 (83 : Int32) x9 x7) (fun x11 =>
            Option.bind (f_X12_to K L a0 v1 (84 : Int32) (mm_I x11 (32 * 12 + 19) a0) x11) (fun x13 =>
            Option.bind (f_X12_to K L a0 v1 (85 : Int32) (mm_I x13 (32 * 12 + 20) a0) x13) (fun x15 =>
            Option.bind (f_X12_to K L a0 v1 (86 : Int32) (mm_I x15 (32 * 12 + 21) a0) x15) (fun x17 =>
            Option.bind (f_X12_to K L a0 v1 (87 : Int32) (mm_I x17 (32 * 12 + 22) a0) x17) (fun x19 =>
            bn (((mm_I x19 (32 * 12 + 21) a0) * (mm_I x19 (32 * 12 + 20) a0)) - ((mm_I x19 (32 * 12 + 22) a0) * (mm_I x19 (32 * 12 + 19) a0))) (fun x21 =>
            Option.bind (f_X12_of K L x19 a0 v1 (80 : Int32)) (fun x23 =>
            Option.bind (f_X12_of K L x19 a0 v1 (79 : Int32)) (fun x25 =>
            Option.bind (f_X12_isAbove (mm_J x19 (32 * 12 + 23) a0) ((10000 : Int64) * (x23.toInt64)) (mm_J x19 (32 * 12 + 24) a0) (x25.toInt64)) (fun x27 =>
            if x27 = 0 then
              f_X12_look_276 K L fu a0 v1 x21 (1 : Int32) x19
            else
              f_X12_look_276 K L fu a0 v1 x21 (0 : Int32) x19)))))))))))))
          else
            f_X12_look_134 K L fu a0 x1)
  else
    Option.bind (f_X12_no K L a0 v3 M) (fun x29 =>
    some (x29.1, x29.2))
set_option maxHeartbeats 4000000 in
theorem w_X12_look_79 {X : Cx} {d n : Nat} {K L : Nat → Nat} {fu : Nat} {a0 : Nat} {r : (Int32 × Mm)} {v1 : Int32} {v2 : Int32} {v3 : Int32} {M : Mm} (o : cOk X cX12_look RX12 (d + 1)) (hL : cL X = 7) (hr : (ch X).sig.returnType = some .int) (hz : (cs X).heap.size + 0 = cB X + n) (hk0 : K a0 = 12) (hE : cE X n K L r.2 (some (.int r.1)) 0 0) (hd : 3 ≤ d + 1) (h : f_X12_look_79 K L fu a0 v1 v2 v3 M = some r) : gW X 0 0 n K L M 79 [(0, va_rf (some a0)), (1, .int v1), (2, .int v2), (3, .int v3)] [] := by
  unfold f_X12_look_79 at h
  refine g_iload_n o dX12_look_79 3 rfl ?_
  refine g_if_eq (tgt := 89) o dX12_look_80 (by decide) (fun z => ?_) (fun z => ?_)
  · have h := (if_pos z).symm.trans h
    refine g_aload_n o dX12_look_89 0 rfl ?_
    refine g_iload_n o dX12_look_90 1 rfl ?_
    refine g_iload_n o dX12_look_91 2 rfl ?_
    obtain ⟨x1, e2, h⟩ := ob h
    refine g_invV0 o (rc_self hk0) (by decide) ml_X12_240 kb_X12_sums kv_X12_sums rfl (c_X12_sums (cq X) (cD X) (cY X) (cB X) (d := d) (by omega) (rc_at (rc_self hk0)).2 e2) rfl rfl (by simp [cat_i, cat_l, cat_rf]) dX12_look_92 ?_
    refine g_aload_n o dX12_look_95 0 rfl ?_
    refine g_getI o fl_X12_213 (rc_self hk0) (by decide) rfl dX12_look_96 ?_
    refine g_if_eq (tgt := 109) o dX12_look_99 (by decide) (fun z => ?_) (fun z => ?_)
    · have h := (if_pos z).symm.trans h
      refine gsub [0] rfl ?_
      exact w_X12_look_109 o hL hr hz hk0 hE hd h
    · have h := (if_neg z).symm.trans h
      refine g_aload_n o dX12_look_102 0 rfl ?_
      refine g_getI o fl_X12_216 (rc_self hk0) (by decide) rfl dX12_look_103 ?_
      refine g_if_ne (tgt := 116) o dX12_look_106 (by decide) (fun z => ?_) (fun z => ?_)
      · have h := (if_neg z).symm.trans h
        refine g_aload_n o dX12_look_116 0 rfl ?_
        refine g_getI o fl_X12_213 (rc_self hk0) (by decide) rfl dX12_look_117 ?_
        refine g_bipush (v := (30 : Int32)) o dX12_look_120 (by decide) ?_
        refine g_icmp_gt (tgt := 134) o dX12_look_122 (by decide) (fun z => ?_) (fun z => ?_)
        · have h := (if_pos z).symm.trans h
          refine gsub [0] rfl ?_
          exact w_X12_look_134 o hL hr hz hk0 hE hd h
        · have h := (if_neg z).symm.trans h
          refine g_aload_n o dX12_look_125 0 rfl ?_
          refine g_getI o fl_X12_216 (rc_self hk0) (by decide) rfl dX12_look_126 ?_
          refine g_bipush (v := (30 : Int32)) o dX12_look_129 (by decide) ?_
          refine g_icmp_le (tgt := 141) o dX12_look_131 (by decide) (fun z => ?_) (fun z => ?_)
          · have h := (if_pos z).symm.trans h
            refine g_aload_n o dX12_look_141 0 rfl ?_
            obtain ⟨x3, e4, h⟩ := ob h
            refine g_invV0 o (rc_self hk0) (by decide) ml_X12_243 kb_X12_chances kv_X12_chances rfl (c_X12_chances (cq X) (cD X) (cY X) (cB X) (d := d) (by omega) (rc_at (rc_self hk0)).2 e4) rfl rfl (by simp [cat_i, cat_l, cat_rf]) dX12_look_142 ?_
            refine g_aload_n o dX12_look_145 0 rfl ?_
            refine g_iload_n o dX12_look_146 1 rfl ?_
            refine g_bipush (v := (81 : Int32)) o dX12_look_147 (by decide) ?_
            refine g_aload_n o dX12_look_149 0 rfl ?_
            refine g_iload_n o dX12_look_150 1 rfl ?_
            refine g_bipush (v := (81 : Int32)) o dX12_look_151 (by decide) ?_
            obtain ⟨x5, e6, h⟩ := ob h
            refine g_invV0 o (rc_self hk0) (by decide) ml_X12_43 kb_X12_of kv_X12_of rfl (c_X12_of (cq X) (cD X) (cY X) (cB X) (d := d) (by omega) (rc_at (rc_self hk0)).2 e6) rfl rfl (by simp [cat_i, cat_l, cat_rf]) dX12_look_153 ?_
            refine g_iconst (v := (1 : Int32)) o dX12_look_156 (by decide) ?_
            refine g_iadd o dX12_look_157 ?_
            obtain ⟨x7, e8, h⟩ := ob h
            refine g_invV0 o (rc_self hk0) (by decide) ml_X12_125 kb_X12_to kv_X12_to rfl (c_X12_to (cq X) (cD X) (cY X) (cB X) (d := d) (by omega) (rc_at (rc_self hk0)).2 e8) rfl rfl (by simp [cat_i, cat_l, cat_rf]) dX12_look_158 ?_
            refine g_aload_n o dX12_look_161 0 rfl ?_
            refine g_iload_n o dX12_look_162 1 rfl ?_
            refine g_bipush (v := (83 : Int32)) o dX12_look_163 (by decide) ?_
            refine g_aload_n o dX12_look_165 0 rfl ?_
            obtain ⟨x9, e10, h⟩ := ob h
            refine g_invV0 o (rc_self hk0) (by decide) ml_X12_246 kb_X12_millionths kv_X12_millionths rfl (c_X12_millionths (cq X) (cD X) (cY X) (cB X) (d := d) (by omega) (rc_at (rc_self hk0)).2 e10) rfl rfl (by simp [cat_i, cat_l, cat_rf]) dX12_look_166 ?_
            obtain ⟨x11, e12, h⟩ := ob h
            refine g_invV0 o (rc_self hk0) (by decide) ml_X12_125 kb_X12_to kv_X12_to rfl (c_X12_to (cq X) (cD X) (cY X) (cB X) (d := d) (by omega) (rc_at (rc_self hk0)).2 e12) rfl rfl (by simp [cat_i, cat_l, cat_rf]) dX12_look_169 ?_
            refine g_aload_n o dX12_look_172 0 rfl ?_
            refine g_iload_n o dX12_look_173 1 rfl ?_
            refine g_bipush (v := (84 : Int32)) o dX12_look_174 (by decide) ?_
            refine g_aload_n o dX12_look_176 0 rfl ?_
            refine g_getI o fl_X12_213 (rc_self hk0) (by decide) rfl dX12_look_177 ?_
            obtain ⟨x13, e14, h⟩ := ob h
            refine g_invV0 o (rc_self hk0) (by decide) ml_X12_125 kb_X12_to kv_X12_to rfl (c_X12_to (cq X) (cD X) (cY X) (cB X) (d := d) (by omega) (rc_at (rc_self hk0)).2 e14) rfl rfl (by simp [cat_i, cat_l, cat_rf]) dX12_look_180 ?_
            refine g_aload_n o dX12_look_183 0 rfl ?_
            refine g_iload_n o dX12_look_184 1 rfl ?_
            refine g_bipush (v := (85 : Int32)) o dX12_look_185 (by decide) ?_
            refine g_aload_n o dX12_look_187 0 rfl ?_
            refine g_getI o fl_X12_216 (rc_self hk0) (by decide) rfl dX12_look_188 ?_
            obtain ⟨x15, e16, h⟩ := ob h
            refine g_invV0 o (rc_self hk0) (by decide) ml_X12_125 kb_X12_to kv_X12_to rfl (c_X12_to (cq X) (cD X) (cY X) (cB X) (d := d) (by omega) (rc_at (rc_self hk0)).2 e16) rfl rfl (by simp [cat_i, cat_l, cat_rf]) dX12_look_191 ?_
            refine g_aload_n o dX12_look_194 0 rfl ?_
            refine g_iload_n o dX12_look_195 1 rfl ?_
            refine g_bipush (v := (86 : Int32)) o dX12_look_196 (by decide) ?_
            refine g_aload_n o dX12_look_198 0 rfl ?_
            refine g_getI o fl_X12_219 (rc_self hk0) (by decide) rfl dX12_look_199 ?_
            obtain ⟨x17, e18, h⟩ := ob h
            refine g_invV0 o (rc_self hk0) (by decide) ml_X12_125 kb_X12_to kv_X12_to rfl (c_X12_to (cq X) (cD X) (cY X) (cB X) (d := d) (by omega) (rc_at (rc_self hk0)).2 e18) rfl rfl (by simp [cat_i, cat_l, cat_rf]) dX12_look_202 ?_
            refine g_aload_n o dX12_look_205 0 rfl ?_
            refine g_iload_n o dX12_look_206 1 rfl ?_
            refine g_bipush (v := (87 : Int32)) o dX12_look_207 (by decide) ?_
            refine g_aload_n o dX12_look_209 0 rfl ?_
            refine g_getI o fl_X12_222 (rc_self hk0) (by decide) rfl dX12_look_210 ?_
            obtain ⟨x19, e20, h⟩ := ob h
            refine g_invV0 o (rc_self hk0) (by decide) ml_X12_125 kb_X12_to kv_X12_to rfl (c_X12_to (cq X) (cD X) (cY X) (cB X) (d := d) (by omega) (rc_at (rc_self hk0)).2 e20) rfl rfl (by simp [cat_i, cat_l, cat_rf]) dX12_look_213 ?_
            refine g_aload_n o dX12_look_216 0 rfl ?_
            refine g_getI o fl_X12_219 (rc_self hk0) (by decide) rfl dX12_look_217 ?_
            refine g_aload_n o dX12_look_220 0 rfl ?_
            refine g_getI o fl_X12_216 (rc_self hk0) (by decide) rfl dX12_look_221 ?_
            refine g_imul o dX12_look_224 ?_
            refine g_aload_n o dX12_look_225 0 rfl ?_
            refine g_getI o fl_X12_222 (rc_self hk0) (by decide) rfl dX12_look_226 ?_
            refine g_aload_n o dX12_look_229 0 rfl ?_
            refine g_getI o fl_X12_213 (rc_self hk0) (by decide) rfl dX12_look_230 ?_
            refine g_imul o dX12_look_233 ?_
            refine g_isub o dX12_look_234 ?_
            obtain ⟨x21, e22, h⟩ := bn_at h
            refine g_topI e22 ?_
            refine g_istore (i := 4) (ls' := [(4, .int x21), (0, va_rf (some a0)), (1, .int v1), (2, .int v2), (3, .int v3)]) o dX12_look_235 (ltL hL (by decide)) rfl ?_
            refine g_aload_n o dX12_look_237 1 rfl ?_
            refine g_getJ o fl_X12_225 (rc_self hk0) (by decide) rfl dX12_look_238 ?_
            refine g_ldc2 (v := (10000 : Int64)) o kc_X12_89 dX12_look_241 ?_
            refine g_aload_n o dX12_look_244 1 rfl ?_
            refine g_iload_n o dX12_look_245 2 rfl ?_
            refine g_bipush (v := (80 : Int32)) o dX12_look_246 (by decide) ?_
            obtain ⟨x23, e24, h⟩ := ob h
            refine g_invV0 o (rc_self hk0) (by decide) ml_X12_43 kb_X12_of kv_X12_of rfl (c_X12_of (cq X) (cD X) (cY X) (cB X) (d := d) (by omega) (rc_at (rc_self hk0)).2 e24) rfl rfl (by simp [cat_i, cat_l, cat_rf]) dX12_look_248 ?_
            refine g_i2l o dX12_look_251 ?_
            refine g_lmul o dX12_look_252 ?_
            refine g_aload_n o dX12_look_253 1 rfl ?_
            refine g_getJ o fl_X12_232 (rc_self hk0) (by decide) rfl dX12_look_254 ?_
            refine g_aload_n o dX12_look_257 1 rfl ?_
            refine g_iload_n o dX12_look_258 2 rfl ?_
            refine g_bipush (v := (79 : Int32)) o dX12_look_259 (by decide) ?_
            obtain ⟨x25, e26, h⟩ := ob h
            refine g_invV0 o (rc_self hk0) (by decide) ml_X12_43 kb_X12_of kv_X12_of rfl (c_X12_of (cq X) (cD X) (cY X) (cB X) (d := d) (by omega) (rc_at (rc_self hk0)).2 e26) rfl rfl (by simp [cat_i, cat_l, cat_rf]) dX12_look_261 ?_
            refine g_i2l o dX12_look_264 ?_
            obtain ⟨x27, e28, h⟩ := ob h
            refine g_invS0 o ml_X12_250 kb_X12_isAbove ks_X12_isAbove (c_X12_isAbove (cq X) (cD X) (cY X) (cB X) (d := d) (by omega) e28) rfl rfl (by simp [cat_i, cat_l, cat_rf]) dX12_look_265 ?_
            refine g_if_ne (tgt := 275) o dX12_look_268 (by decide) (fun z => ?_) (fun z => ?_)
            · have h := (if_neg z).symm.trans h
              refine g_iconst (v := (0 : Int32)) o dX12_look_275 (by decide) ?_
              refine gsub [1, 2, 0] rfl ?_
              exact w_X12_look_276 o hL hr hz hk0 hE hd h
            · have h := (if_pos z).symm.trans h
              refine g_iconst (v := (1 : Int32)) o dX12_look_271 (by decide) ?_
              refine g_goto (tgt := 276) o dX12_look_272 (by decide) ?_
              refine gsub [1, 2, 0] rfl ?_
              exact w_X12_look_276 o hL hr hz hk0 hE hd h
          · have h := (if_neg z).symm.trans h
            refine gsub [0] rfl ?_
            exact w_X12_look_134 o hL hr hz hk0 hE hd h
      · have h := (if_pos z).symm.trans h
        refine gsub [0] rfl ?_
        exact w_X12_look_109 o hL hr hz hk0 hE hd h
  · have h := (if_neg z).symm.trans h
    refine g_aload_n o dX12_look_83 0 rfl ?_
    refine g_iload_n o dX12_look_84 3 rfl ?_
    obtain ⟨x29, e30, h⟩ := ob h
    refine g_invV0 o (rc_self hk0) (by decide) ml_X12_72 kb_X12_no kv_X12_no rfl (c_X12_no (cq X) (cD X) (cY X) (cB X) (d := d) (by omega) (rc_at (rc_self hk0)).2 e30) rfl rfl (by simp [cat_i, cat_l, cat_rf]) dX12_look_85 ?_
    cases h
    exact g_iret o hr hE dX12_look_88
def f_X12_look_62 (K L : Nat → Nat) (fu : Nat) (a0 : Nat) (v1 : Int32) (v2 : Int32) (v3 : Int32) (M : Mm) : Option (Int32 × Mm) :=
  if v3 = 0 then
    Option.bind (f_X12_of K L M a0 v1 (82 : Int32)) (fun x1 =>
    if x1 ≤ 0 then
      f_X12_look_79 K L fu a0 v1 v2 v3 M
    else
      f_X12_look_79 K L fu a0 v1 v2 (-12 : Int32) M)
  else
    f_X12_look_79 K L fu a0 v1 v2 v3 M
set_option maxHeartbeats 4000000 in
theorem w_X12_look_62 {X : Cx} {d n : Nat} {K L : Nat → Nat} {fu : Nat} {a0 : Nat} {r : (Int32 × Mm)} {v1 : Int32} {v2 : Int32} {v3 : Int32} {M : Mm} (o : cOk X cX12_look RX12 (d + 1)) (hL : cL X = 7) (hr : (ch X).sig.returnType = some .int) (hz : (cs X).heap.size + 0 = cB X + n) (hk0 : K a0 = 12) (hE : cE X n K L r.2 (some (.int r.1)) 0 0) (hd : 3 ≤ d + 1) (h : f_X12_look_62 K L fu a0 v1 v2 v3 M = some r) : gW X 0 0 n K L M 62 [(0, va_rf (some a0)), (1, .int v1), (2, .int v2), (3, .int v3)] [] := by
  unfold f_X12_look_62 at h
  refine g_iload_n o dX12_look_62 3 rfl ?_
  refine g_if_ne (tgt := 79) o dX12_look_63 (by decide) (fun z => ?_) (fun z => ?_)
  · have h := (if_neg z).symm.trans h
    exact w_X12_look_79 o hL hr hz hk0 hE hd h
  · have h := (if_pos z).symm.trans h
    refine g_aload_n o dX12_look_66 0 rfl ?_
    refine g_iload_n o dX12_look_67 1 rfl ?_
    refine g_bipush (v := (82 : Int32)) o dX12_look_68 (by decide) ?_
    obtain ⟨x1, e2, h⟩ := ob h
    refine g_invV0 o (rc_self hk0) (by decide) ml_X12_43 kb_X12_of kv_X12_of rfl (c_X12_of (cq X) (cD X) (cY X) (cB X) (d := d) (by omega) (rc_at (rc_self hk0)).2 e2) rfl rfl (by simp [cat_i, cat_l, cat_rf]) dX12_look_70 ?_
    refine g_if_le (tgt := 79) o dX12_look_73 (by decide) (fun z => ?_) (fun z => ?_)
    · have h := (if_pos z).symm.trans h
      exact w_X12_look_79 o hL hr hz hk0 hE hd h
    · have h := (if_neg z).symm.trans h
      refine g_bipush (v := (-12 : Int32)) o dX12_look_76 (by decide) ?_
      refine g_istore_n (i := 3) (ls' := [(3, .int (-12 : Int32)), (0, va_rf (some a0)), (1, .int v1), (2, .int v2)]) o dX12_look_78 rfl (ltL hL (by decide)) rfl ?_
      refine gsub [1, 2, 3, 0] rfl ?_
      exact w_X12_look_79 o hL hr hz hk0 hE hd h
def f_X12_look_59 (K L : Nat → Nat) (fu : Nat) (a0 : Nat) (v1 : Int32) (v2 : Int32) (M : Mm) : Option (Int32 × Mm) :=
  f_X12_look_62 K L fu a0 v1 v2 (-2 : Int32) M
set_option maxHeartbeats 4000000 in
theorem w_X12_look_59 {X : Cx} {d n : Nat} {K L : Nat → Nat} {fu : Nat} {a0 : Nat} {r : (Int32 × Mm)} {v1 : Int32} {v2 : Int32} {M : Mm} (o : cOk X cX12_look RX12 (d + 1)) (hL : cL X = 7) (hr : (ch X).sig.returnType = some .int) (hz : (cs X).heap.size + 0 = cB X + n) (hk0 : K a0 = 12) (hE : cE X n K L r.2 (some (.int r.1)) 0 0) (hd : 3 ≤ d + 1) (h : f_X12_look_59 K L fu a0 v1 v2 M = some r) : gW X 0 0 n K L M 59 [(0, va_rf (some a0)), (1, .int v1), (2, .int v2)] [] := by
  unfold f_X12_look_59 at h
  refine g_bipush (v := (-2 : Int32)) o dX12_look_59 (by decide) ?_
  refine g_istore_n (i := 3) (ls' := [(3, .int (-2 : Int32)), (0, va_rf (some a0)), (1, .int v1), (2, .int v2)]) o dX12_look_61 rfl (ltL hL (by decide)) rfl ?_
  refine gsub [1, 2, 3, 0] rfl ?_
  exact w_X12_look_62 o hL hr hz hk0 hE hd h
def f_X12_look_18 (K L : Nat → Nat) (fu : Nat) (a0 : Nat) (v1 : Int32) (v2 : Int32) (s0 : Int32) (M : Mm) : Option (Int32 × Mm) :=
  if s0 = 0 then
    Option.bind (f_X12_of K L M a0 v1 (77 : Int32)) (fun x1 =>
    Option.bind (f_X12_of K L M a0 v1 ((90 : Int32) + x1)) (fun x3 =>
    if x3 = 0 then
      f_X12_look_59 K L fu a0 v1 v2 M
    else
      Option.bind (f_X12_of K L M a0 v1 (78 : Int32)) (fun x5 =>
      Option.bind (f_X12_of K L M a0 v1 ((90 : Int32) + x5)) (fun x7 =>
      if x7 = 0 then
        f_X12_look_59 K L fu a0 v1 v2 M
      else
        f_X12_look_62 K L fu a0 v1 v2 s0 M))))
  else
    f_X12_look_62 K L fu a0 v1 v2 s0 M
set_option maxHeartbeats 4000000 in
theorem w_X12_look_18 {X : Cx} {d n : Nat} {K L : Nat → Nat} {fu : Nat} {a0 : Nat} {r : (Int32 × Mm)} {v1 : Int32} {v2 : Int32} {s0 : Int32} {M : Mm} (o : cOk X cX12_look RX12 (d + 1)) (hL : cL X = 7) (hr : (ch X).sig.returnType = some .int) (hz : (cs X).heap.size + 0 = cB X + n) (hk0 : K a0 = 12) (hE : cE X n K L r.2 (some (.int r.1)) 0 0) (hd : 3 ≤ d + 1) (h : f_X12_look_18 K L fu a0 v1 v2 s0 M = some r) : gW X 0 0 n K L M 18 [(0, va_rf (some a0)), (1, .int v1), (2, .int v2)] [.int s0] := by
  unfold f_X12_look_18 at h
  refine g_istore_n (i := 3) (ls' := [(3, .int s0), (0, va_rf (some a0)), (1, .int v1), (2, .int v2)]) o dX12_look_18 rfl (ltL hL (by decide)) rfl ?_
  refine g_iload_n o dX12_look_19 0 rfl ?_
  refine g_if_ne (tgt := 62) o dX12_look_20 (by decide) (fun z => ?_) (fun z => ?_)
  · have h := (if_neg z).symm.trans h
    refine gsub [1, 2, 3, 0] rfl ?_
    exact w_X12_look_62 o hL hr hz hk0 hE hd h
  · have h := (if_pos z).symm.trans h
    refine g_aload_n o dX12_look_23 1 rfl ?_
    refine g_iload_n o dX12_look_24 2 rfl ?_
    refine g_bipush (v := (90 : Int32)) o dX12_look_25 (by decide) ?_
    refine g_aload_n o dX12_look_27 1 rfl ?_
    refine g_iload_n o dX12_look_28 2 rfl ?_
    refine g_bipush (v := (77 : Int32)) o dX12_look_29 (by decide) ?_
    obtain ⟨x1, e2, h⟩ := ob h
    refine g_invV0 o (rc_self hk0) (by decide) ml_X12_43 kb_X12_of kv_X12_of rfl (c_X12_of (cq X) (cD X) (cY X) (cB X) (d := d) (by omega) (rc_at (rc_self hk0)).2 e2) rfl rfl (by simp [cat_i, cat_l, cat_rf]) dX12_look_31 ?_
    refine g_iadd o dX12_look_34 ?_
    obtain ⟨x3, e4, h⟩ := ob h
    refine g_invV0 o (rc_self hk0) (by decide) ml_X12_43 kb_X12_of kv_X12_of rfl (c_X12_of (cq X) (cD X) (cY X) (cB X) (d := d) (by omega) (rc_at (rc_self hk0)).2 e4) rfl rfl (by simp [cat_i, cat_l, cat_rf]) dX12_look_35 ?_
    refine g_if_eq (tgt := 59) o dX12_look_38 (by decide) (fun z => ?_) (fun z => ?_)
    · have h := (if_pos z).symm.trans h
      refine gsub [1, 2, 3] rfl ?_
      exact w_X12_look_59 o hL hr hz hk0 hE hd h
    · have h := (if_neg z).symm.trans h
      refine g_aload_n o dX12_look_41 1 rfl ?_
      refine g_iload_n o dX12_look_42 2 rfl ?_
      refine g_bipush (v := (90 : Int32)) o dX12_look_43 (by decide) ?_
      refine g_aload_n o dX12_look_45 1 rfl ?_
      refine g_iload_n o dX12_look_46 2 rfl ?_
      refine g_bipush (v := (78 : Int32)) o dX12_look_47 (by decide) ?_
      obtain ⟨x5, e6, h⟩ := ob h
      refine g_invV0 o (rc_self hk0) (by decide) ml_X12_43 kb_X12_of kv_X12_of rfl (c_X12_of (cq X) (cD X) (cY X) (cB X) (d := d) (by omega) (rc_at (rc_self hk0)).2 e6) rfl rfl (by simp [cat_i, cat_l, cat_rf]) dX12_look_49 ?_
      refine g_iadd o dX12_look_52 ?_
      obtain ⟨x7, e8, h⟩ := ob h
      refine g_invV0 o (rc_self hk0) (by decide) ml_X12_43 kb_X12_of kv_X12_of rfl (c_X12_of (cq X) (cD X) (cY X) (cB X) (d := d) (by omega) (rc_at (rc_self hk0)).2 e8) rfl rfl (by simp [cat_i, cat_l, cat_rf]) dX12_look_53 ?_
      refine g_if_ne (tgt := 62) o dX12_look_56 (by decide) (fun z => ?_) (fun z => ?_)
      · have h := (if_neg z).symm.trans h
        refine gsub [1, 2, 3, 0] rfl ?_
        exact w_X12_look_62 o hL hr hz hk0 hE hd h
      · have h := (if_pos z).symm.trans h
        refine gsub [1, 2, 3] rfl ?_
        exact w_X12_look_59 o hL hr hz hk0 hE hd h
def f_X12_look (K L : Nat → Nat) (fu : Nat) (a0 : Nat) (v1 : Int32) (v2 : Int32) (M : Mm) : Option (Int32 × Mm) :=
  Option.bind (f_X12_isMinute v2) (fun x1 =>
  if x1 = 0 then
    f_X12_look_18 K L fu a0 v1 v2 (-3 : Int32) M
  else
    Option.bind (f_X12_why K L M a0 v1 (3 : Int32)) (fun x3 =>
    f_X12_look_18 K L fu a0 v1 v2 x3 M))
set_option maxHeartbeats 4000000 in
theorem w_X12_look_0 {X : Cx} {d n : Nat} {K L : Nat → Nat} {fu : Nat} {a0 : Nat} {r : (Int32 × Mm)} {v1 : Int32} {v2 : Int32} {M : Mm} (o : cOk X cX12_look RX12 (d + 1)) (hL : cL X = 7) (hr : (ch X).sig.returnType = some .int) (hz : (cs X).heap.size + 0 = cB X + n) (hk0 : K a0 = 12) (hE : cE X n K L r.2 (some (.int r.1)) 0 0) (hd : 3 ≤ d + 1) (h : f_X12_look K L fu a0 v1 v2 M = some r) : gW X 0 0 n K L M 0 [(0, va_rf (some a0)), (1, .int v1), (2, .int v2)] [] := by
  unfold f_X12_look at h
  refine g_iload_n o dX12_look_0 2 rfl ?_
  obtain ⟨x1, e2, h⟩ := ob h
  refine g_invS0 o ml_X12_188 kb_X12_isMinute ks_X12_isMinute (c_X12_isMinute (cq X) (cD X) (cY X) (cB X) (d := d) (by omega) e2) rfl rfl (by simp [cat_i, cat_l, cat_rf]) dX12_look_1 ?_
  refine g_if_ne (tgt := 12) o dX12_look_4 (by decide) (fun z => ?_) (fun z => ?_)
  · have h := (if_neg z).symm.trans h
    refine g_aload_n o dX12_look_12 0 rfl ?_
    refine g_iload_n o dX12_look_13 1 rfl ?_
    refine g_iconst (v := (3 : Int32)) o dX12_look_14 (by decide) ?_
    obtain ⟨x3, e4, h⟩ := ob h
    refine g_invV0 o (rc_self hk0) (by decide) ml_X12_119 kb_X12_why kv_X12_why rfl (c_X12_why (cq X) (cD X) (cY X) (cB X) (d := d) (by omega) (rc_at (rc_self hk0)).2 e4) rfl rfl (by simp [cat_i, cat_l, cat_rf]) dX12_look_15 ?_
    exact w_X12_look_18 o hL hr hz hk0 hE hd h
  · have h := (if_pos z).symm.trans h
    refine g_bipush (v := (-3 : Int32)) o dX12_look_7 (by decide) ?_
    refine g_goto (tgt := 18) o dX12_look_9 (by decide) ?_
    exact w_X12_look_18 o hL hr hz hk0 hE hd h
theorem c_X12_look (l : Launch) (D : va_G) (Y : Nat → ClassId) (B : Nat) {d : Nat} {n : Nat} {K L : Nat → Nat} {fu : Nat} {M : Mm} {a0 : Nat} {v1 : Int32} {v2 : Int32} {r : (Int32 × Mm)} (hd : 3 ≤ d) (hk0 : K a0 = 12) (h : f_X12_look K L fu a0 v1 v2 M = some r) : mC l D Y B d yX12_look cX12_look 7 (some .int) [va_rf (some a0), .int v1, .int v2] n K L M n K L r.2 (some (.int r.1)) 0 0 := by
  obtain ⟨d, rfl⟩ : ∃ e, d = e + 1 := ⟨d - 1, by omega⟩
  refine mk_met (by decide) (by simp [lgs_r, lgs_i, lgs_l, lgs_n]) (fun X e1 e2 e3 e4 o hL hr hnm hz hc hs hE => ?_)
  subst e1 e2 e3 e4
  rw [show lv_args 0 [va_rf (some a0), .int v1, .int v2] = [(0, va_rf (some a0)), (1, .int v1), (2, .int v2)] by simp [lva_r, lva_i, lva_l, lva_n]]
  exact w_X12_look_0 o hL hr hz hk0 hE hd h
def f_X12_trialTold_62 (K L : Nat → Nat) (a0 : Nat) (s0 : Int32) (s1 : Int32) (s2 : (Option Nat)) (M : Mm) : Option (Int32 × Mm) :=
  Option.bind (rc K s2 12) (fun a1 =>
  Option.bind (f_X12_of K L M a1 s1 s0) (fun x3 =>
  some (x3, M)))
set_option maxHeartbeats 4000000 in
theorem w_X12_trialTold_62 {X : Cx} {d n : Nat} {K L : Nat → Nat} {a0 : Nat} {r : (Int32 × Mm)} {s0 : Int32} {s1 : Int32} {s2 : (Option Nat)} {M : Mm} (o : cOk X cX12_trialTold RX12 (d + 1)) (hL : cL X = 4) (hr : (ch X).sig.returnType = some .int) (hz : (cs X).heap.size + 0 = cB X + n) (hk0 : K a0 = 12) (hE : cE X n K L r.2 (some (.int r.1)) 0 0) (hd : 3 ≤ d + 1) (h : f_X12_trialTold_62 K L a0 s0 s1 s2 M = some r) : gW X 0 0 n K L M 62 [(0, va_rf (some a0))] [.int s0, .int s1, va_rf s2] := by
  unfold f_X12_trialTold_62 at h
  obtain ⟨a1, e2, h⟩ := ob h
  obtain ⟨x3, e4, h⟩ := ob h
  refine g_invV0 o e2 (by decide) ml_X12_43 kb_X12_of kv_X12_of rfl (c_X12_of (cq X) (cD X) (cY X) (cB X) (d := d) (by omega) (rc_at e2).2 e4) rfl rfl (by simp [cat_i, cat_l, cat_rf]) dX12_trialTold_62 ?_
  cases h
  exact g_iret o hr hE dX12_trialTold_65
def f_X12_trialTold (K L : Nat → Nat) (a0 : Nat) (v1 : Int32) (v2 : Int32) (M : Mm) : Option (Int32 × Mm) :=
  Option.bind (f_X12_why K L M a0 v1 (3 : Int32)) (fun x1 =>
  if x1 = 0 then
    Option.bind (f_X12_isIn (v2.toInt64) (0 : Int64) (6 : Int64)) (fun x3 =>
    if x3 = 0 then
      Option.bind (f_X12_no K L a0 (-12 : Int32) M) (fun x5 =>
      some (x5.1, x5.2))
    else
      if (5 : Int32) ≤ v2 then
        if v2 = (5 : Int32) then
          f_X12_trialTold_62 K L a0 (81 : Int32) v1 (some a0) M
        else
          f_X12_trialTold_62 K L a0 (82 : Int32) v1 (some a0) M
      else
        f_X12_trialTold_62 K L a0 ((83 : Int32) + v2) v1 (some a0) M)
  else
    Option.bind (f_X12_no K L a0 x1 M) (fun x7 =>
    some (x7.1, x7.2)))
set_option maxHeartbeats 4000000 in
theorem w_X12_trialTold_0 {X : Cx} {d n : Nat} {K L : Nat → Nat} {a0 : Nat} {r : (Int32 × Mm)} {v1 : Int32} {v2 : Int32} {M : Mm} (o : cOk X cX12_trialTold RX12 (d + 1)) (hL : cL X = 4) (hr : (ch X).sig.returnType = some .int) (hz : (cs X).heap.size + 0 = cB X + n) (hk0 : K a0 = 12) (hE : cE X n K L r.2 (some (.int r.1)) 0 0) (hd : 3 ≤ d + 1) (h : f_X12_trialTold K L a0 v1 v2 M = some r) : gW X 0 0 n K L M 0 [(0, va_rf (some a0)), (1, .int v1), (2, .int v2)] [] := by
  unfold f_X12_trialTold at h
  refine g_aload_n o dX12_trialTold_0 0 rfl ?_
  refine g_iload_n o dX12_trialTold_1 1 rfl ?_
  refine g_iconst (v := (3 : Int32)) o dX12_trialTold_2 (by decide) ?_
  obtain ⟨x1, e2, h⟩ := ob h
  refine g_invV0 o (rc_self hk0) (by decide) ml_X12_119 kb_X12_why kv_X12_why rfl (c_X12_why (cq X) (cD X) (cY X) (cB X) (d := d) (by omega) (rc_at (rc_self hk0)).2 e2) rfl rfl (by simp [cat_i, cat_l, cat_rf]) dX12_trialTold_3 ?_
  refine g_istore_n (i := 3) (ls' := [(3, .int x1), (0, va_rf (some a0)), (1, .int v1), (2, .int v2)]) o dX12_trialTold_6 rfl (ltL hL (by decide)) rfl ?_
  refine g_iload_n o dX12_trialTold_7 0 rfl ?_
  refine g_if_eq (tgt := 17) o dX12_trialTold_8 (by decide) (fun z => ?_) (fun z => ?_)
  · have h := (if_pos z).symm.trans h
    refine g_iload_n o dX12_trialTold_17 3 rfl ?_
    refine g_i2l o dX12_trialTold_18 ?_
    refine g_lconst (v := (0 : Int64)) o dX12_trialTold_19 (by decide) ?_
    refine g_ldc2 (v := (6 : Int64)) o kc_X12_254 dX12_trialTold_20 ?_
    obtain ⟨x3, e4, h⟩ := ob h
    refine g_invS0 o ml_X12_62 kb_X12_isIn ks_X12_isIn (c_X12_isIn (cq X) (cD X) (cY X) (cB X) (d := d) (by omega) e4) rfl rfl (by simp [cat_i, cat_l, cat_rf]) dX12_trialTold_23 ?_
    refine g_if_ne (tgt := 36) o dX12_trialTold_26 (by decide) (fun z => ?_) (fun z => ?_)
    · have h := (if_neg z).symm.trans h
      refine g_aload_n o dX12_trialTold_36 1 rfl ?_
      refine g_iload_n o dX12_trialTold_37 2 rfl ?_
      refine g_iload_n o dX12_trialTold_38 3 rfl ?_
      refine g_iconst (v := (5 : Int32)) o dX12_trialTold_39 (by decide) ?_
      refine g_icmp_ge (tgt := 50) o dX12_trialTold_40 (by decide) (fun z => ?_) (fun z => ?_)
      · have h := (if_pos z).symm.trans h
        refine g_iload_n o dX12_trialTold_50 3 rfl ?_
        refine g_iconst (v := (5 : Int32)) o dX12_trialTold_51 (by decide) ?_
        refine g_icmp_ne (tgt := 60) o dX12_trialTold_52 (by decide) (fun z => ?_) (fun z => ?_)
        · have h := (if_neg z).symm.trans h
          refine g_bipush (v := (82 : Int32)) o dX12_trialTold_60 (by decide) ?_
          refine gsub [1] rfl ?_
          exact w_X12_trialTold_62 o hL hr hz hk0 hE hd h
        · have h := (if_pos z).symm.trans h
          refine g_bipush (v := (81 : Int32)) o dX12_trialTold_55 (by decide) ?_
          refine g_goto (tgt := 62) o dX12_trialTold_57 (by decide) ?_
          refine gsub [1] rfl ?_
          exact w_X12_trialTold_62 o hL hr hz hk0 hE hd h
      · have h := (if_neg z).symm.trans h
        refine g_bipush (v := (83 : Int32)) o dX12_trialTold_43 (by decide) ?_
        refine g_iload_n o dX12_trialTold_45 3 rfl ?_
        refine g_iadd o dX12_trialTold_46 ?_
        refine g_goto (tgt := 62) o dX12_trialTold_47 (by decide) ?_
        refine gsub [1] rfl ?_
        exact w_X12_trialTold_62 o hL hr hz hk0 hE hd h
    · have h := (if_pos z).symm.trans h
      refine g_aload_n o dX12_trialTold_29 1 rfl ?_
      refine g_bipush (v := (-12 : Int32)) o dX12_trialTold_30 (by decide) ?_
      obtain ⟨x5, e6, h⟩ := ob h
      refine g_invV0 o (rc_self hk0) (by decide) ml_X12_72 kb_X12_no kv_X12_no rfl (c_X12_no (cq X) (cD X) (cY X) (cB X) (d := d) (by omega) (rc_at (rc_self hk0)).2 e6) rfl rfl (by simp [cat_i, cat_l, cat_rf]) dX12_trialTold_32 ?_
      cases h
      exact g_iret o hr hE dX12_trialTold_35
  · have h := (if_neg z).symm.trans h
    refine g_aload_n o dX12_trialTold_11 1 rfl ?_
    refine g_iload_n o dX12_trialTold_12 0 rfl ?_
    obtain ⟨x7, e8, h⟩ := ob h
    refine g_invV0 o (rc_self hk0) (by decide) ml_X12_72 kb_X12_no kv_X12_no rfl (c_X12_no (cq X) (cD X) (cY X) (cB X) (d := d) (by omega) (rc_at (rc_self hk0)).2 e8) rfl rfl (by simp [cat_i, cat_l, cat_rf]) dX12_trialTold_13 ?_
    cases h
    exact g_iret o hr hE dX12_trialTold_16
theorem c_X12_trialTold (l : Launch) (D : va_G) (Y : Nat → ClassId) (B : Nat) {d : Nat} {n : Nat} {K L : Nat → Nat} {M : Mm} {a0 : Nat} {v1 : Int32} {v2 : Int32} {r : (Int32 × Mm)} (hd : 3 ≤ d) (hk0 : K a0 = 12) (h : f_X12_trialTold K L a0 v1 v2 M = some r) : mC l D Y B d yX12_trialTold cX12_trialTold 4 (some .int) [va_rf (some a0), .int v1, .int v2] n K L M n K L r.2 (some (.int r.1)) 0 0 := by
  obtain ⟨d, rfl⟩ : ∃ e, d = e + 1 := ⟨d - 1, by omega⟩
  refine mk_met (by decide) (by simp [lgs_r, lgs_i, lgs_l, lgs_n]) (fun X e1 e2 e3 e4 o hL hr hnm hz hc hs hE => ?_)
  subst e1 e2 e3 e4
  rw [show lv_args 0 [va_rf (some a0), .int v1, .int v2] = [(0, va_rf (some a0)), (1, .int v1), (2, .int v2)] by simp [lva_r, lva_i, lva_l, lva_n]]
  exact w_X12_trialTold_0 o hL hr hz hk0 hE hd h
def f_X12_whyAmong (a0 : Nat) (v1 : Int32) (v2 : Int32) : Option Int32 :=
  if 0 ≤ v2 then
    Option.bind (f_X12_isIn (v2.toInt64) (1 : Int64) (2000 : Int64)) (fun x1 =>
    if x1 = 0 then
      some (-12 : Int32)
    else
      if (v1 + v2) ≤ (1000000 : Int32) then
        some (0 : Int32)
      else
        some (-12 : Int32))
  else
    some (-4 : Int32)
set_option maxHeartbeats 4000000 in
theorem w_X12_whyAmong_0 {X : Cx} {d n : Nat} {K L : Nat → Nat} {M : Mm} {a0 : Nat} {r : Int32} {v1 : Int32} {v2 : Int32} (o : cOk X cX12_whyAmong RX12 (d + 1)) (hL : cL X = 3) (hr : (ch X).sig.returnType = some .int) (hk0 : K a0 = 12) (hE : cE X n K L M (some (.int r)) 0 0) (hd : 1 ≤ d + 1) (h : f_X12_whyAmong a0 v1 v2 = some r) : gW X 0 0 n K L M 0 [(0, va_rf (some a0)), (1, .int v1), (2, .int v2)] [] := by
  unfold f_X12_whyAmong at h
  refine g_iload_n o dX12_whyAmong_0 2 rfl ?_
  refine g_if_ge (tgt := 7) o dX12_whyAmong_1 (by decide) (fun z => ?_) (fun z => ?_)
  · have h := (if_pos z).symm.trans h
    refine g_iload_n o dX12_whyAmong_7 2 rfl ?_
    refine g_i2l o dX12_whyAmong_8 ?_
    refine g_lconst (v := (1 : Int64)) o dX12_whyAmong_9 (by decide) ?_
    refine g_ldc2 (v := (2000 : Int64)) o kc_X12_256 dX12_whyAmong_10 ?_
    obtain ⟨x1, e2, h⟩ := ob h
    refine g_invS0 o ml_X12_62 kb_X12_isIn ks_X12_isIn (c_X12_isIn (cq X) (cD X) (cY X) (cB X) (d := d) (by omega) e2) rfl rfl (by simp [cat_i, cat_l, cat_rf]) dX12_whyAmong_13 ?_
    refine g_if_eq (tgt := 27) o dX12_whyAmong_16 (by decide) (fun z => ?_) (fun z => ?_)
    · have h := (if_pos z).symm.trans h
      refine g_bipush (v := (-12 : Int32)) o dX12_whyAmong_27 (by decide) ?_
      refine g_goto (tgt := 33) o dX12_whyAmong_29 (by decide) ?_
      cases h
      exact g_iret o hr hE dX12_whyAmong_33
    · have h := (if_neg z).symm.trans h
      refine g_iload_n o dX12_whyAmong_19 1 rfl ?_
      refine g_iload_n o dX12_whyAmong_20 2 rfl ?_
      refine g_iadd o dX12_whyAmong_21 ?_
      refine g_ldc (v := (1000000 : Int32)) o kc_X12_237 dX12_whyAmong_22 ?_
      refine g_icmp_le (tgt := 32) o dX12_whyAmong_24 (by decide) (fun z => ?_) (fun z => ?_)
      · have h := (if_pos z).symm.trans h
        refine g_iconst (v := (0 : Int32)) o dX12_whyAmong_32 (by decide) ?_
        cases h
        exact g_iret o hr hE dX12_whyAmong_33
      · have h := (if_neg z).symm.trans h
        refine g_bipush (v := (-12 : Int32)) o dX12_whyAmong_27 (by decide) ?_
        refine g_goto (tgt := 33) o dX12_whyAmong_29 (by decide) ?_
        cases h
        exact g_iret o hr hE dX12_whyAmong_33
  · have h := (if_neg z).symm.trans h
    refine g_bipush (v := (-4 : Int32)) o dX12_whyAmong_4 (by decide) ?_
    cases h
    exact g_iret o hr hE dX12_whyAmong_6
theorem c_X12_whyAmong (l : Launch) (D : va_G) (Y : Nat → ClassId) (B : Nat) {d : Nat} {n : Nat} {K L : Nat → Nat} {M : Mm} {a0 : Nat} {v1 : Int32} {v2 : Int32} {r : Int32} (hd : 1 ≤ d) (hk0 : K a0 = 12) (h : f_X12_whyAmong a0 v1 v2 = some r) : mC l D Y B d yX12_whyAmong cX12_whyAmong 3 (some .int) [va_rf (some a0), .int v1, .int v2] n K L M n K L M (some (.int r)) 0 0 := by
  obtain ⟨d, rfl⟩ : ∃ e, d = e + 1 := ⟨d - 1, by omega⟩
  refine mk_met (by decide) (by simp [lgs_r, lgs_i, lgs_l, lgs_n]) (fun X e1 e2 e3 e4 o hL hr hnm hz hc hs hE => ?_)
  subst e1 e2 e3 e4
  rw [show lv_args 0 [va_rf (some a0), .int v1, .int v2] = [(0, va_rf (some a0)), (1, .int v1), (2, .int v2)] by simp [lva_r, lva_i, lva_l, lva_n]]
  exact w_X12_whyAmong_0 o hL hr hk0 hE hd h
def f_X12_isNumber  (v0 : Int32) : Option Int32 :=
  if v0 < 0 then
    some (0 : Int32)
  else
    if (999999 : Int32) < v0 then
      some (0 : Int32)
    else
      some (1 : Int32)
set_option maxHeartbeats 4000000 in
theorem w_X12_isNumber_0 {X : Cx} {d n : Nat} {K L : Nat → Nat} {M : Mm} {r : Int32} {v0 : Int32} (o : cOk X cX12_isNumber RX12 d) (hL : cL X = 1) (hr : (ch X).sig.returnType = some .boolean) (hE : cE X n K L M (some (.int r)) 0 0) (h : f_X12_isNumber  v0 = some r) : gW X 0 0 n K L M 0 [(0, .int v0)] [] := by
  unfold f_X12_isNumber at h
  refine g_iload_n o dX12_isNumber_0 0 rfl ?_
  refine g_if_lt (tgt := 15) o dX12_isNumber_1 (by decide) (fun z => ?_) (fun z => ?_)
  · have h := (if_pos z).symm.trans h
    refine g_iconst (v := (0 : Int32)) o dX12_isNumber_15 (by decide) ?_
    cases h
    exact g_zret o hr (by decide) hE dX12_isNumber_16
  · have h := (if_neg z).symm.trans h
    refine g_iload_n o dX12_isNumber_4 0 rfl ?_
    refine g_ldcw (v := (999999 : Int32)) o kc_X12_258 dX12_isNumber_5 ?_
    refine g_icmp_gt (tgt := 15) o dX12_isNumber_8 (by decide) (fun z => ?_) (fun z => ?_)
    · have h := (if_pos z).symm.trans h
      refine g_iconst (v := (0 : Int32)) o dX12_isNumber_15 (by decide) ?_
      cases h
      exact g_zret o hr (by decide) hE dX12_isNumber_16
    · have h := (if_neg z).symm.trans h
      refine g_iconst (v := (1 : Int32)) o dX12_isNumber_11 (by decide) ?_
      refine g_goto (tgt := 16) o dX12_isNumber_12 (by decide) ?_
      cases h
      exact g_zret o hr (by decide) hE dX12_isNumber_16
theorem c_X12_isNumber (l : Launch) (D : va_G) (Y : Nat → ClassId) (B : Nat) {d : Nat} {n : Nat} {K L : Nat → Nat} {M : Mm} {v0 : Int32} {r : Int32} (hd : 0 ≤ d) (h : f_X12_isNumber  v0 = some r) : mC l D Y B d yX12_isNumber cX12_isNumber 1 (some .boolean) [.int v0] n K L M n K L M (some (.int r)) 0 0 := by
  refine mk_met (by decide) (by simp [lgs_r, lgs_i, lgs_l, lgs_n]) (fun X e1 e2 e3 e4 o hL hr hnm hz hc hs hE => ?_)
  subst e1 e2 e3 e4
  rw [show lv_args 0 [.int v0] = [(0, .int v0)] by simp [lva_r, lva_i, lva_l, lva_n]]
  exact w_X12_isNumber_0 o hL hr hE h
def f_X12_among_104 (K L : Nat → Nat) (fu : Nat) (k72 : Int32 → Int32 → Int32 → Int32 → Int32 → Int32 → Mm → Option (Int32 × Mm)) (a0 : Nat) (v1 : Int32) (v2 : Int32) (v3 : Int32) (v4 : Int32) (v6 : Int32) (s0 : Int32) (s1 : Int32) (M : Mm) : Option (Int32 × Mm) :=
  bn (s1 + s0) (fun x1 =>
  bn (ms_I M (32 * 12 + 8) a0 ((mm_I M (32 * 12 + 8) a0) + (1 : Int32))) (fun M3 =>
  k72 v1 v2 v3 v4 v6 x1 M3))
set_option maxHeartbeats 4000000 in
theorem w_X12_among_104 {X : Cx} {d n : Nat} {K L : Nat → Nat} {fu : Nat} {a0 : Nat} {r : (Int32 × Mm)} {k72 : Int32 → Int32 → Int32 → Int32 → Int32 → Int32 → Mm → Option (Int32 × Mm)} {v1 : Int32} {v2 : Int32} {v3 : Int32} {v4 : Int32} {v6 : Int32} {s0 : Int32} {s1 : Int32} {M : Mm} (o : cOk X cX12_among RX12 (d + 1)) (hL : cL X = 8) (hr : (ch X).sig.returnType = some .int) (hz : (cs X).heap.size + 0 = cB X + n) (hk0 : K a0 = 12) (hE : cE X n K L r.2 (some (.int r.1)) 0 0) (hk72 : ∀ (v1 : Int32) (v2 : Int32) (v3 : Int32) (v4 : Int32) (v6 : Int32) (v7 : Int32) (M : Mm), k72 v1 v2 v3 v4 v6 v7 M = some r → gW X 0 0 n K L M 72 [(0, va_rf (some a0)), (1, .int v1), (2, .int v2), (3, .int v3), (4, .int v4), (6, .int v6), (7, .int v7)] []) (hd : 5 ≤ d + 1) (h : f_X12_among_104 K L fu k72 a0 v1 v2 v3 v4 v6 s0 s1 M = some r) : gW X 0 0 n K L M 104 [(0, va_rf (some a0)), (1, .int v1), (2, .int v2), (3, .int v3), (4, .int v4), (6, .int v6)] [.int s0, .int s1] := by
  unfold f_X12_among_104 at h
  refine g_iadd o dX12_among_104 ?_
  obtain ⟨x1, e2, h⟩ := bn_at h
  refine g_topI e2 ?_
  refine g_istore (i := 7) (ls' := [(7, .int x1), (0, va_rf (some a0)), (1, .int v1), (2, .int v2), (3, .int v3), (4, .int v4), (6, .int v6)]) o dX12_among_105 (ltL hL (by decide)) rfl ?_
  refine g_aload_n o dX12_among_107 1 rfl ?_
  refine g_dup o dX12_among_108 (cat_rf _) ?_
  refine g_getI o fl_X12_76 (rc_self hk0) (by decide) rfl dX12_among_109 ?_
  refine g_iconst (v := (1 : Int32)) o dX12_among_112 (by decide) ?_
  refine g_iadd o dX12_among_113 ?_
  refine g_putI o hz fl_X12_76 (rc_self hk0) (by decide) rfl rfl rfl  dX12_among_114 ?_
  obtain ⟨M3, e4, h⟩ := bn_at h
  refine g_mem e4 ?_
  refine g_goto (tgt := 72) o dX12_among_117 (by decide) ?_
  refine gsub [1, 2, 3, 4, 5, 6, 0] rfl ?_
  exact hk72 _ _ _ _ _ _ _ h
def f_X12_among_72b (K L : Nat → Nat) (fu : Nat) (k72 : Int32 → Int32 → Int32 → Int32 → Int32 → Int32 → Mm → Option (Int32 × Mm)) (a0 : Nat) (v1 : Int32) (v2 : Int32) (v3 : Int32) (v4 : Int32) (v6 : Int32) (v7 : Int32) (M : Mm) : Option (Int32 × Mm) :=
  if (v3 + v4) ≤ (mm_I M (32 * 12 + 8) a0) then
    bn (ms_I M (32 * 12 + 8) a0 v6) (fun M1 =>
    some (v7, M1))
  else
    Option.bind (f_X12_findWays K L fu a0 M) (fun x3 =>
    Option.bind (rx K L (mm_R x3 (32 * 12 + 12) a0) 13 v1) (fun a5 =>
    if (mm_A x3 a5 v1.toNatClampNeg) = v2 then
      f_X12_among_104 K L fu k72 a0 v1 v2 v3 v4 v6 (1 : Int32) v7 x3
    else
      f_X12_among_104 K L fu k72 a0 v1 v2 v3 v4 v6 (0 : Int32) v7 x3))
def f_X12_among_72 (K L : Nat → Nat) (fu : Nat) (a0 : Nat) : Nat → Int32 → Int32 → Int32 → Int32 → Int32 → Int32 → Mm → Option (Int32 × Mm)
  | 0, _, _, _, _, _, _, _ => none
  | g + 1, v1, v2, v3, v4, v6, v7, M => f_X12_among_72b K L fu (f_X12_among_72 K L fu a0 g) a0 v1 v2 v3 v4 v6 v7 M
set_option maxHeartbeats 4000000 in
theorem w_X12_among_72b {X : Cx} {d n : Nat} {K L : Nat → Nat} {fu : Nat} {a0 : Nat} {r : (Int32 × Mm)} {k72 : Int32 → Int32 → Int32 → Int32 → Int32 → Int32 → Mm → Option (Int32 × Mm)} {v1 : Int32} {v2 : Int32} {v3 : Int32} {v4 : Int32} {v6 : Int32} {v7 : Int32} {M : Mm} (o : cOk X cX12_among RX12 (d + 1)) (hL : cL X = 8) (hr : (ch X).sig.returnType = some .int) (hz : (cs X).heap.size + 0 = cB X + n) (hk0 : K a0 = 12) (hE : cE X n K L r.2 (some (.int r.1)) 0 0) (hk72 : ∀ (v1 : Int32) (v2 : Int32) (v3 : Int32) (v4 : Int32) (v6 : Int32) (v7 : Int32) (M : Mm), k72 v1 v2 v3 v4 v6 v7 M = some r → gW X 0 0 n K L M 72 [(0, va_rf (some a0)), (1, .int v1), (2, .int v2), (3, .int v3), (4, .int v4), (6, .int v6), (7, .int v7)] []) (hd : 5 ≤ d + 1) (h : f_X12_among_72b K L fu k72 a0 v1 v2 v3 v4 v6 v7 M = some r) : gW X 0 0 n K L M 72 [(0, va_rf (some a0)), (1, .int v1), (2, .int v2), (3, .int v3), (4, .int v4), (6, .int v6), (7, .int v7)] [] := by
  unfold f_X12_among_72b at h
  refine g_aload_n o dX12_among_72 0 rfl ?_
  refine g_getI o fl_X12_76 (rc_self hk0) (by decide) rfl dX12_among_73 ?_
  refine g_iload_n o dX12_among_76 3 rfl ?_
  refine g_iload o dX12_among_77 4 rfl ?_
  refine g_iadd o dX12_among_79 ?_
  refine g_icmp_ge (tgt := 120) o dX12_among_80 (by decide) (fun z => ?_) (fun z => ?_)
  · have h := (if_pos z).symm.trans h
    refine g_aload_n o dX12_among_120 0 rfl ?_
    refine g_iload o dX12_among_121 5 rfl ?_
    refine g_putI o hz fl_X12_76 (rc_self hk0) (by decide) rfl rfl rfl  dX12_among_123 ?_
    obtain ⟨M1, e2, h⟩ := bn_at h
    refine g_mem e2 ?_
    refine g_iload o dX12_among_126 6 rfl ?_
    cases h
    exact g_iret o hr hE dX12_among_128
  · have h := (if_neg z).symm.trans h
    refine g_aload_n o dX12_among_83 0 rfl ?_
    obtain ⟨x3, e4, h⟩ := ob h
    refine g_invV0 o (rc_self hk0) (by decide) ml_X12_122 kb_X12_findWays kv_X12_findWays rfl (c_X12_findWays (cq X) (cD X) (cY X) (cB X) (d := d) (by omega) (rc_at (rc_self hk0)).2 e4) rfl rfl (by simp [cat_i, cat_l, cat_rf]) dX12_among_84 ?_
    refine g_iload o dX12_among_87 6 rfl ?_
    refine g_aload_n o dX12_among_89 0 rfl ?_
    refine g_getR o fl_X12_30 (rc_self hk0) (by decide) rfl dX12_among_90 ?_
    refine g_iload_n o dX12_among_93 1 rfl ?_
    obtain ⟨a5, e6, h⟩ := ob h
    refine g_iald o e6 dX12_among_94 ?_
    refine g_iload_n o dX12_among_95 2 rfl ?_
    refine g_icmp_ne (tgt := 103) o dX12_among_96 (by decide) (fun z => ?_) (fun z => ?_)
    · have h := (if_neg z).symm.trans h
      refine g_iconst (v := (0 : Int32)) o dX12_among_103 (by decide) ?_
      refine gsub [0, 1, 2, 3, 4, 5] rfl ?_
      exact w_X12_among_104 o hL hr hz hk0 hE hk72 hd h
    · have h := (if_pos z).symm.trans h
      refine g_iconst (v := (1 : Int32)) o dX12_among_99 (by decide) ?_
      refine g_goto (tgt := 104) o dX12_among_100 (by decide) ?_
      refine gsub [0, 1, 2, 3, 4, 5] rfl ?_
      exact w_X12_among_104 o hL hr hz hk0 hE hk72 hd h
theorem w_X12_among_72_n {X : Cx} {d n : Nat} {K L : Nat → Nat} {fu : Nat} {a0 : Nat} {r : (Int32 × Mm)} (o : cOk X cX12_among RX12 (d + 1)) (hL : cL X = 8) (hr : (ch X).sig.returnType = some .int) (hz : (cs X).heap.size + 0 = cB X + n) (hk0 : K a0 = 12) (hE : cE X n K L r.2 (some (.int r.1)) 0 0) (hd : 5 ≤ d + 1) : ∀ (g : Nat) (v1 : Int32) (v2 : Int32) (v3 : Int32) (v4 : Int32) (v6 : Int32) (v7 : Int32) (M : Mm), f_X12_among_72 K L fu a0 g v1 v2 v3 v4 v6 v7 M = some r → gW X 0 0 n K L M 72 [(0, va_rf (some a0)), (1, .int v1), (2, .int v2), (3, .int v3), (4, .int v4), (6, .int v6), (7, .int v7)] []
  | 0, _, _, _, _, _, _, _, h => by cases h
  | g + 1, v1, v2, v3, v4, v6, v7, M, h => w_X12_among_72b o hL hr hz hk0 hE (w_X12_among_72_n o hL hr hz hk0 hE hd g) hd h
theorem w_X12_among_72 {X : Cx} {d n : Nat} {K L : Nat → Nat} {fu : Nat} {a0 : Nat} {r : (Int32 × Mm)} {v1 : Int32} {v2 : Int32} {v3 : Int32} {v4 : Int32} {v6 : Int32} {v7 : Int32} {M : Mm} (o : cOk X cX12_among RX12 (d + 1)) (hL : cL X = 8) (hr : (ch X).sig.returnType = some .int) (hz : (cs X).heap.size + 0 = cB X + n) (hk0 : K a0 = 12) (hE : cE X n K L r.2 (some (.int r.1)) 0 0) (hd : 5 ≤ d + 1) (h : f_X12_among_72 K L fu a0 fu v1 v2 v3 v4 v6 v7 M = some r) : gW X 0 0 n K L M 72 [(0, va_rf (some a0)), (1, .int v1), (2, .int v2), (3, .int v3), (4, .int v4), (6, .int v6), (7, .int v7)] [] := w_X12_among_72_n o hL hr hz hk0 hE hd fu v1 v2 v3 v4 v6 v7 M h
def f_X12_among_46 (K L : Nat → Nat) (fu : Nat) (a0 : Nat) (v1 : Int32) (v2 : Int32) (v3 : Int32) (v4 : Int32) (v5 : Int32) (M : Mm) : Option (Int32 × Mm) :=
  if v5 = 0 then
    bn (mm_I M (32 * 12 + 8) a0) (fun x1 =>
    bn (ms_I M (32 * 12 + 8) a0 v3) (fun M3 =>
    f_X12_among_72 K L fu a0 fu v1 v2 v3 v4 x1 (0 : Int32) M3))
  else
    Option.bind (f_X12_no K L a0 v5 M) (fun x5 =>
    some (x5.1, x5.2))
set_option maxHeartbeats 4000000 in
theorem w_X12_among_46 {X : Cx} {d n : Nat} {K L : Nat → Nat} {fu : Nat} {a0 : Nat} {r : (Int32 × Mm)} {v1 : Int32} {v2 : Int32} {v3 : Int32} {v4 : Int32} {v5 : Int32} {M : Mm} (o : cOk X cX12_among RX12 (d + 1)) (hL : cL X = 8) (hr : (ch X).sig.returnType = some .int) (hz : (cs X).heap.size + 0 = cB X + n) (hk0 : K a0 = 12) (hE : cE X n K L r.2 (some (.int r.1)) 0 0) (hd : 5 ≤ d + 1) (h : f_X12_among_46 K L fu a0 v1 v2 v3 v4 v5 M = some r) : gW X 0 0 n K L M 46 [(0, va_rf (some a0)), (1, .int v1), (2, .int v2), (3, .int v3), (4, .int v4), (5, .int v5)] [] := by
  unfold f_X12_among_46 at h
  refine g_iload o dX12_among_46 5 rfl ?_
  refine g_if_eq (tgt := 58) o dX12_among_48 (by decide) (fun z => ?_) (fun z => ?_)
  · have h := (if_pos z).symm.trans h
    refine g_aload_n o dX12_among_58 0 rfl ?_
    refine g_getI o fl_X12_76 (rc_self hk0) (by decide) rfl dX12_among_59 ?_
    obtain ⟨x1, e2, h⟩ := bn_at h
    refine g_topI e2 ?_
    refine g_istore (i := 6) (ls' := [(6, .int x1), (0, va_rf (some a0)), (1, .int v1), (2, .int v2), (3, .int v3), (4, .int v4), (5, .int v5)]) o dX12_among_62 (ltL hL (by decide)) rfl ?_
    refine g_iconst (v := (0 : Int32)) o dX12_among_64 (by decide) ?_
    refine g_istore (i := 7) (ls' := [(7, .int (0 : Int32)), (6, .int x1), (0, va_rf (some a0)), (1, .int v1), (2, .int v2), (3, .int v3), (4, .int v4), (5, .int v5)]) o dX12_among_65 (ltL hL (by decide)) rfl ?_
    refine g_aload_n o dX12_among_67 2 rfl ?_
    refine g_iload_n o dX12_among_68 5 rfl ?_
    refine g_putI o hz fl_X12_76 (rc_self hk0) (by decide) rfl rfl rfl  dX12_among_69 ?_
    obtain ⟨M3, e4, h⟩ := bn_at h
    refine g_mem e4 ?_
    refine gsub [2, 3, 4, 5, 6, 1, 0] rfl ?_
    exact w_X12_among_72 o hL hr hz hk0 hE hd h
  · have h := (if_neg z).symm.trans h
    refine g_aload_n o dX12_among_51 0 rfl ?_
    refine g_iload o dX12_among_52 5 rfl ?_
    obtain ⟨x5, e6, h⟩ := ob h
    refine g_invV0 o (rc_self hk0) (by decide) ml_X12_72 kb_X12_no kv_X12_no rfl (c_X12_no (cq X) (cD X) (cY X) (cB X) (d := d) (by omega) (rc_at (rc_self hk0)).2 e6) rfl rfl (by simp [cat_i, cat_l, cat_rf]) dX12_among_54 ?_
    cases h
    exact g_iret o hr hE dX12_among_57
def f_X12_among_30 (K L : Nat → Nat) (fu : Nat) (a0 : Nat) (v1 : Int32) (v2 : Int32) (v3 : Int32) (v4 : Int32) (s0 : Int32) (M : Mm) : Option (Int32 × Mm) :=
  if s0 = 0 then
    Option.bind (f_X12_whyAmong a0 v3 v4) (fun x1 =>
    f_X12_among_46 K L fu a0 v1 v2 v3 v4 x1 M)
  else
    f_X12_among_46 K L fu a0 v1 v2 v3 v4 s0 M
set_option maxHeartbeats 4000000 in
theorem w_X12_among_30 {X : Cx} {d n : Nat} {K L : Nat → Nat} {fu : Nat} {a0 : Nat} {r : (Int32 × Mm)} {v1 : Int32} {v2 : Int32} {v3 : Int32} {v4 : Int32} {s0 : Int32} {M : Mm} (o : cOk X cX12_among RX12 (d + 1)) (hL : cL X = 8) (hr : (ch X).sig.returnType = some .int) (hz : (cs X).heap.size + 0 = cB X + n) (hk0 : K a0 = 12) (hE : cE X n K L r.2 (some (.int r.1)) 0 0) (hd : 5 ≤ d + 1) (h : f_X12_among_30 K L fu a0 v1 v2 v3 v4 s0 M = some r) : gW X 0 0 n K L M 30 [(0, va_rf (some a0)), (1, .int v1), (2, .int v2), (3, .int v3), (4, .int v4)] [.int s0] := by
  unfold f_X12_among_30 at h
  refine g_istore (i := 5) (ls' := [(5, .int s0), (0, va_rf (some a0)), (1, .int v1), (2, .int v2), (3, .int v3), (4, .int v4)]) o dX12_among_30 (ltL hL (by decide)) rfl ?_
  refine g_iload o dX12_among_32 0 rfl ?_
  refine g_if_ne (tgt := 46) o dX12_among_34 (by decide) (fun z => ?_) (fun z => ?_)
  · have h := (if_neg z).symm.trans h
    refine gsub [1, 2, 3, 4, 5, 0] rfl ?_
    exact w_X12_among_46 o hL hr hz hk0 hE hd h
  · have h := (if_pos z).symm.trans h
    refine g_aload_n o dX12_among_37 1 rfl ?_
    refine g_iload_n o dX12_among_38 4 rfl ?_
    refine g_iload o dX12_among_39 5 rfl ?_
    obtain ⟨x1, e2, h⟩ := ob h
    refine g_invV0 o (rc_self hk0) (by decide) ml_X12_262 kb_X12_whyAmong kv_X12_whyAmong rfl (c_X12_whyAmong (cq X) (cD X) (cY X) (cB X) (d := d) (by omega) (rc_at (rc_self hk0)).2 e2) rfl rfl (by simp [cat_i, cat_l, cat_rf]) dX12_among_41 ?_
    refine g_istore (i := 5) (ls' := [(5, .int x1), (0, va_rf (some a0)), (1, .int v1), (2, .int v2), (3, .int v3), (4, .int v4)]) o dX12_among_44 (ltL hL (by decide)) rfl ?_
    refine gsub [1, 2, 3, 4, 5, 0] rfl ?_
    exact w_X12_among_46 o hL hr hz hk0 hE hd h
def f_X12_among_19 (K L : Nat → Nat) (fu : Nat) (a0 : Nat) (v1 : Int32) (v2 : Int32) (v3 : Int32) (v4 : Int32) (M : Mm) : Option (Int32 × Mm) :=
  f_X12_among_30 K L fu a0 v1 v2 v3 v4 (-3 : Int32) M
set_option maxHeartbeats 4000000 in
theorem w_X12_among_19 {X : Cx} {d n : Nat} {K L : Nat → Nat} {fu : Nat} {a0 : Nat} {r : (Int32 × Mm)} {v1 : Int32} {v2 : Int32} {v3 : Int32} {v4 : Int32} {M : Mm} (o : cOk X cX12_among RX12 (d + 1)) (hL : cL X = 8) (hr : (ch X).sig.returnType = some .int) (hz : (cs X).heap.size + 0 = cB X + n) (hk0 : K a0 = 12) (hE : cE X n K L r.2 (some (.int r.1)) 0 0) (hd : 5 ≤ d + 1) (h : f_X12_among_19 K L fu a0 v1 v2 v3 v4 M = some r) : gW X 0 0 n K L M 19 [(0, va_rf (some a0)), (1, .int v1), (2, .int v2), (3, .int v3), (4, .int v4)] [] := by
  unfold f_X12_among_19 at h
  refine g_bipush (v := (-3 : Int32)) o dX12_among_19 (by decide) ?_
  refine g_goto (tgt := 30) o dX12_among_21 (by decide) ?_
  exact w_X12_among_30 o hL hr hz hk0 hE hd h
def f_X12_among (K L : Nat → Nat) (fu : Nat) (a0 : Nat) (v1 : Int32) (v2 : Int32) (v3 : Int32) (v4 : Int32) (M : Mm) : Option (Int32 × Mm) :=
  Option.bind (f_X12_isIn (v2.toInt64) (0 : Int64) (7 : Int64)) (fun x1 =>
  if x1 = 0 then
    f_X12_among_19 K L fu a0 v1 v2 v3 v4 M
  else
    Option.bind (f_X12_isNumber v3) (fun x3 =>
    if x3 = 0 then
      f_X12_among_19 K L fu a0 v1 v2 v3 v4 M
    else
      Option.bind (f_X12_why K L M a0 v1 (0 : Int32)) (fun x5 =>
      f_X12_among_30 K L fu a0 v1 v2 v3 v4 x5 M)))
set_option maxHeartbeats 4000000 in
theorem w_X12_among_0 {X : Cx} {d n : Nat} {K L : Nat → Nat} {fu : Nat} {a0 : Nat} {r : (Int32 × Mm)} {v1 : Int32} {v2 : Int32} {v3 : Int32} {v4 : Int32} {M : Mm} (o : cOk X cX12_among RX12 (d + 1)) (hL : cL X = 8) (hr : (ch X).sig.returnType = some .int) (hz : (cs X).heap.size + 0 = cB X + n) (hk0 : K a0 = 12) (hE : cE X n K L r.2 (some (.int r.1)) 0 0) (hd : 5 ≤ d + 1) (h : f_X12_among K L fu a0 v1 v2 v3 v4 M = some r) : gW X 0 0 n K L M 0 [(0, va_rf (some a0)), (1, .int v1), (2, .int v2), (3, .int v3), (4, .int v4)] [] := by
  unfold f_X12_among at h
  refine g_iload_n o dX12_among_0 2 rfl ?_
  refine g_i2l o dX12_among_1 ?_
  refine g_lconst (v := (0 : Int64)) o dX12_among_2 (by decide) ?_
  refine g_ldc2 (v := (7 : Int64)) o kc_X12_70 dX12_among_3 ?_
  obtain ⟨x1, e2, h⟩ := ob h
  refine g_invS0 o ml_X12_62 kb_X12_isIn ks_X12_isIn (c_X12_isIn (cq X) (cD X) (cY X) (cB X) (d := d) (by omega) e2) rfl rfl (by simp [cat_i, cat_l, cat_rf]) dX12_among_6 ?_
  refine g_if_eq (tgt := 19) o dX12_among_9 (by decide) (fun z => ?_) (fun z => ?_)
  · have h := (if_pos z).symm.trans h
    exact w_X12_among_19 o hL hr hz hk0 hE hd h
  · have h := (if_neg z).symm.trans h
    refine g_iload_n o dX12_among_12 3 rfl ?_
    obtain ⟨x3, e4, h⟩ := ob h
    refine g_invS0 o ml_X12_259 kb_X12_isNumber ks_X12_isNumber (c_X12_isNumber (cq X) (cD X) (cY X) (cB X) (d := d) (by omega) e4) rfl rfl (by simp [cat_i, cat_l, cat_rf]) dX12_among_13 ?_
    refine g_if_ne (tgt := 24) o dX12_among_16 (by decide) (fun z => ?_) (fun z => ?_)
    · have h := (if_neg z).symm.trans h
      refine g_aload_n o dX12_among_24 0 rfl ?_
      refine g_iload_n o dX12_among_25 1 rfl ?_
      refine g_iconst (v := (0 : Int32)) o dX12_among_26 (by decide) ?_
      obtain ⟨x5, e6, h⟩ := ob h
      refine g_invV0 o (rc_self hk0) (by decide) ml_X12_119 kb_X12_why kv_X12_why rfl (c_X12_why (cq X) (cD X) (cY X) (cB X) (d := d) (by omega) (rc_at (rc_self hk0)).2 e6) rfl rfl (by simp [cat_i, cat_l, cat_rf]) dX12_among_27 ?_
      exact w_X12_among_30 o hL hr hz hk0 hE hd h
    · have h := (if_pos z).symm.trans h
      exact w_X12_among_19 o hL hr hz hk0 hE hd h
theorem c_X12_among (l : Launch) (D : va_G) (Y : Nat → ClassId) (B : Nat) {d : Nat} {n : Nat} {K L : Nat → Nat} {fu : Nat} {M : Mm} {a0 : Nat} {v1 : Int32} {v2 : Int32} {v3 : Int32} {v4 : Int32} {r : (Int32 × Mm)} (hd : 5 ≤ d) (hk0 : K a0 = 12) (h : f_X12_among K L fu a0 v1 v2 v3 v4 M = some r) : mC l D Y B d yX12_among cX12_among 8 (some .int) [va_rf (some a0), .int v1, .int v2, .int v3, .int v4] n K L M n K L r.2 (some (.int r.1)) 0 0 := by
  obtain ⟨d, rfl⟩ : ∃ e, d = e + 1 := ⟨d - 1, by omega⟩
  refine mk_met (by decide) (by simp [lgs_r, lgs_i, lgs_l, lgs_n]) (fun X e1 e2 e3 e4 o hL hr hnm hz hc hs hE => ?_)
  subst e1 e2 e3 e4
  rw [show lv_args 0 [va_rf (some a0), .int v1, .int v2, .int v3, .int v4] = [(0, va_rf (some a0)), (1, .int v1), (2, .int v2), (3, .int v3), (4, .int v4)] by simp [lva_r, lva_i, lva_l, lva_n]]
  exact w_X12_among_0 o hL hr hz hk0 hE hd h
def f_X12_both_103 (K L : Nat → Nat) (fu : Nat) (k61 : Int32 → Int32 → Int32 → Int32 → Int32 → Int32 → Mm → Option (Int32 × Mm)) (a0 : Nat) (v1 : Int32) (v2 : Int32) (v3 : Int32) (v4 : Int32) (v6 : Int32) (s0 : Int32) (s1 : Int32) (M : Mm) : Option (Int32 × Mm) :=
  bn (s1 + s0) (fun x1 =>
  bn (ms_I M (32 * 12 + 8) a0 ((mm_I M (32 * 12 + 8) a0) + (1 : Int32))) (fun M3 =>
  k61 v1 v2 v3 v4 v6 x1 M3))
set_option maxHeartbeats 4000000 in
theorem w_X12_both_103 {X : Cx} {d n : Nat} {K L : Nat → Nat} {fu : Nat} {a0 : Nat} {r : (Int32 × Mm)} {k61 : Int32 → Int32 → Int32 → Int32 → Int32 → Int32 → Mm → Option (Int32 × Mm)} {v1 : Int32} {v2 : Int32} {v3 : Int32} {v4 : Int32} {v6 : Int32} {s0 : Int32} {s1 : Int32} {M : Mm} (o : cOk X cX12_both RX12 (d + 1)) (hL : cL X = 8) (hr : (ch X).sig.returnType = some .int) (hz : (cs X).heap.size + 0 = cB X + n) (hk0 : K a0 = 12) (hE : cE X n K L r.2 (some (.int r.1)) 0 0) (hk61 : ∀ (v1 : Int32) (v2 : Int32) (v3 : Int32) (v4 : Int32) (v6 : Int32) (v7 : Int32) (M : Mm), k61 v1 v2 v3 v4 v6 v7 M = some r → gW X 0 0 n K L M 61 [(0, va_rf (some a0)), (1, .int v1), (2, .int v2), (3, .int v3), (4, .int v4), (6, .int v6), (7, .int v7)] []) (hd : 5 ≤ d + 1) (h : f_X12_both_103 K L fu k61 a0 v1 v2 v3 v4 v6 s0 s1 M = some r) : gW X 0 0 n K L M 103 [(0, va_rf (some a0)), (1, .int v1), (2, .int v2), (3, .int v3), (4, .int v4), (6, .int v6)] [.int s0, .int s1] := by
  unfold f_X12_both_103 at h
  refine g_iadd o dX12_both_103 ?_
  obtain ⟨x1, e2, h⟩ := bn_at h
  refine g_topI e2 ?_
  refine g_istore (i := 7) (ls' := [(7, .int x1), (0, va_rf (some a0)), (1, .int v1), (2, .int v2), (3, .int v3), (4, .int v4), (6, .int v6)]) o dX12_both_104 (ltL hL (by decide)) rfl ?_
  refine g_aload_n o dX12_both_106 1 rfl ?_
  refine g_dup o dX12_both_107 (cat_rf _) ?_
  refine g_getI o fl_X12_76 (rc_self hk0) (by decide) rfl dX12_both_108 ?_
  refine g_iconst (v := (1 : Int32)) o dX12_both_111 (by decide) ?_
  refine g_iadd o dX12_both_112 ?_
  refine g_putI o hz fl_X12_76 (rc_self hk0) (by decide) rfl rfl rfl  dX12_both_113 ?_
  obtain ⟨M3, e4, h⟩ := bn_at h
  refine g_mem e4 ?_
  refine g_goto (tgt := 61) o dX12_both_116 (by decide) ?_
  refine gsub [1, 2, 3, 4, 5, 6, 0] rfl ?_
  exact hk61 _ _ _ _ _ _ _ h
def f_X12_both_102 (K L : Nat → Nat) (fu : Nat) (k61 : Int32 → Int32 → Int32 → Int32 → Int32 → Int32 → Mm → Option (Int32 × Mm)) (a0 : Nat) (v1 : Int32) (v2 : Int32) (v3 : Int32) (v4 : Int32) (v6 : Int32) (s0 : Int32) (M : Mm) : Option (Int32 × Mm) :=
  f_X12_both_103 K L fu k61 a0 v1 v2 v3 v4 v6 (0 : Int32) s0 M
set_option maxHeartbeats 4000000 in
theorem w_X12_both_102 {X : Cx} {d n : Nat} {K L : Nat → Nat} {fu : Nat} {a0 : Nat} {r : (Int32 × Mm)} {k61 : Int32 → Int32 → Int32 → Int32 → Int32 → Int32 → Mm → Option (Int32 × Mm)} {v1 : Int32} {v2 : Int32} {v3 : Int32} {v4 : Int32} {v6 : Int32} {s0 : Int32} {M : Mm} (o : cOk X cX12_both RX12 (d + 1)) (hL : cL X = 8) (hr : (ch X).sig.returnType = some .int) (hz : (cs X).heap.size + 0 = cB X + n) (hk0 : K a0 = 12) (hE : cE X n K L r.2 (some (.int r.1)) 0 0) (hk61 : ∀ (v1 : Int32) (v2 : Int32) (v3 : Int32) (v4 : Int32) (v6 : Int32) (v7 : Int32) (M : Mm), k61 v1 v2 v3 v4 v6 v7 M = some r → gW X 0 0 n K L M 61 [(0, va_rf (some a0)), (1, .int v1), (2, .int v2), (3, .int v3), (4, .int v4), (6, .int v6), (7, .int v7)] []) (hd : 5 ≤ d + 1) (h : f_X12_both_102 K L fu k61 a0 v1 v2 v3 v4 v6 s0 M = some r) : gW X 0 0 n K L M 102 [(0, va_rf (some a0)), (1, .int v1), (2, .int v2), (3, .int v3), (4, .int v4), (6, .int v6)] [.int s0] := by
  unfold f_X12_both_102 at h
  refine g_iconst (v := (0 : Int32)) o dX12_both_102 (by decide) ?_
  exact w_X12_both_103 o hL hr hz hk0 hE hk61 hd h
def f_X12_both_61b (K L : Nat → Nat) (fu : Nat) (k61 : Int32 → Int32 → Int32 → Int32 → Int32 → Int32 → Mm → Option (Int32 × Mm)) (a0 : Nat) (v1 : Int32) (v2 : Int32) (v3 : Int32) (v4 : Int32) (v6 : Int32) (v7 : Int32) (M : Mm) : Option (Int32 × Mm) :=
  if (v3 + v4) ≤ (mm_I M (32 * 12 + 8) a0) then
    bn (ms_I M (32 * 12 + 8) a0 v6) (fun M1 =>
    some (v7, M1))
  else
    Option.bind (f_X12_findWays K L fu a0 M) (fun x3 =>
    Option.bind (rx K L (mm_R x3 (32 * 12 + 12) a0) 13 v1) (fun a5 =>
    if (mm_A x3 a5 v1.toNatClampNeg) = (1 : Int32) then
      Option.bind (rx K L (mm_R x3 (32 * 12 + 12) a0) 13 v2) (fun a7 =>
      if (mm_A x3 a7 v2.toNatClampNeg) = (1 : Int32) then
        f_X12_both_103 K L fu k61 a0 v1 v2 v3 v4 v6 (1 : Int32) v7 x3
      else
        f_X12_both_102 K L fu k61 a0 v1 v2 v3 v4 v6 v7 x3)
    else
      f_X12_both_102 K L fu k61 a0 v1 v2 v3 v4 v6 v7 x3))
def f_X12_both_61 (K L : Nat → Nat) (fu : Nat) (a0 : Nat) : Nat → Int32 → Int32 → Int32 → Int32 → Int32 → Int32 → Mm → Option (Int32 × Mm)
  | 0, _, _, _, _, _, _, _ => none
  | g + 1, v1, v2, v3, v4, v6, v7, M => f_X12_both_61b K L fu (f_X12_both_61 K L fu a0 g) a0 v1 v2 v3 v4 v6 v7 M
set_option maxHeartbeats 4000000 in
theorem w_X12_both_61b {X : Cx} {d n : Nat} {K L : Nat → Nat} {fu : Nat} {a0 : Nat} {r : (Int32 × Mm)} {k61 : Int32 → Int32 → Int32 → Int32 → Int32 → Int32 → Mm → Option (Int32 × Mm)} {v1 : Int32} {v2 : Int32} {v3 : Int32} {v4 : Int32} {v6 : Int32} {v7 : Int32} {M : Mm} (o : cOk X cX12_both RX12 (d + 1)) (hL : cL X = 8) (hr : (ch X).sig.returnType = some .int) (hz : (cs X).heap.size + 0 = cB X + n) (hk0 : K a0 = 12) (hE : cE X n K L r.2 (some (.int r.1)) 0 0) (hk61 : ∀ (v1 : Int32) (v2 : Int32) (v3 : Int32) (v4 : Int32) (v6 : Int32) (v7 : Int32) (M : Mm), k61 v1 v2 v3 v4 v6 v7 M = some r → gW X 0 0 n K L M 61 [(0, va_rf (some a0)), (1, .int v1), (2, .int v2), (3, .int v3), (4, .int v4), (6, .int v6), (7, .int v7)] []) (hd : 5 ≤ d + 1) (h : f_X12_both_61b K L fu k61 a0 v1 v2 v3 v4 v6 v7 M = some r) : gW X 0 0 n K L M 61 [(0, va_rf (some a0)), (1, .int v1), (2, .int v2), (3, .int v3), (4, .int v4), (6, .int v6), (7, .int v7)] [] := by
  unfold f_X12_both_61b at h
  refine g_aload_n o dX12_both_61 0 rfl ?_
  refine g_getI o fl_X12_76 (rc_self hk0) (by decide) rfl dX12_both_62 ?_
  refine g_iload_n o dX12_both_65 3 rfl ?_
  refine g_iload o dX12_both_66 4 rfl ?_
  refine g_iadd o dX12_both_68 ?_
  refine g_icmp_ge (tgt := 119) o dX12_both_69 (by decide) (fun z => ?_) (fun z => ?_)
  · have h := (if_pos z).symm.trans h
    refine g_aload_n o dX12_both_119 0 rfl ?_
    refine g_iload o dX12_both_120 5 rfl ?_
    refine g_putI o hz fl_X12_76 (rc_self hk0) (by decide) rfl rfl rfl  dX12_both_122 ?_
    obtain ⟨M1, e2, h⟩ := bn_at h
    refine g_mem e2 ?_
    refine g_iload o dX12_both_125 6 rfl ?_
    cases h
    exact g_iret o hr hE dX12_both_127
  · have h := (if_neg z).symm.trans h
    refine g_aload_n o dX12_both_72 0 rfl ?_
    obtain ⟨x3, e4, h⟩ := ob h
    refine g_invV0 o (rc_self hk0) (by decide) ml_X12_122 kb_X12_findWays kv_X12_findWays rfl (c_X12_findWays (cq X) (cD X) (cY X) (cB X) (d := d) (by omega) (rc_at (rc_self hk0)).2 e4) rfl rfl (by simp [cat_i, cat_l, cat_rf]) dX12_both_73 ?_
    refine g_iload o dX12_both_76 6 rfl ?_
    refine g_aload_n o dX12_both_78 0 rfl ?_
    refine g_getR o fl_X12_30 (rc_self hk0) (by decide) rfl dX12_both_79 ?_
    refine g_iload_n o dX12_both_82 1 rfl ?_
    obtain ⟨a5, e6, h⟩ := ob h
    refine g_iald o e6 dX12_both_83 ?_
    refine g_iconst (v := (1 : Int32)) o dX12_both_84 (by decide) ?_
    refine g_icmp_ne (tgt := 102) o dX12_both_85 (by decide) (fun z => ?_) (fun z => ?_)
    · have h := (if_neg z).symm.trans h
      refine gsub [0, 1, 2, 3, 4, 5] rfl ?_
      exact w_X12_both_102 o hL hr hz hk0 hE hk61 hd h
    · have h := (if_pos z).symm.trans h
      refine g_aload_n o dX12_both_88 0 rfl ?_
      refine g_getR o fl_X12_30 (rc_self hk0) (by decide) rfl dX12_both_89 ?_
      refine g_iload_n o dX12_both_92 2 rfl ?_
      obtain ⟨a7, e8, h⟩ := ob h
      refine g_iald o e8 dX12_both_93 ?_
      refine g_iconst (v := (1 : Int32)) o dX12_both_94 (by decide) ?_
      refine g_icmp_ne (tgt := 102) o dX12_both_95 (by decide) (fun z => ?_) (fun z => ?_)
      · have h := (if_neg z).symm.trans h
        refine gsub [0, 1, 2, 3, 4, 5] rfl ?_
        exact w_X12_both_102 o hL hr hz hk0 hE hk61 hd h
      · have h := (if_pos z).symm.trans h
        refine g_iconst (v := (1 : Int32)) o dX12_both_98 (by decide) ?_
        refine g_goto (tgt := 103) o dX12_both_99 (by decide) ?_
        refine gsub [0, 1, 2, 3, 4, 5] rfl ?_
        exact w_X12_both_103 o hL hr hz hk0 hE hk61 hd h
theorem w_X12_both_61_n {X : Cx} {d n : Nat} {K L : Nat → Nat} {fu : Nat} {a0 : Nat} {r : (Int32 × Mm)} (o : cOk X cX12_both RX12 (d + 1)) (hL : cL X = 8) (hr : (ch X).sig.returnType = some .int) (hz : (cs X).heap.size + 0 = cB X + n) (hk0 : K a0 = 12) (hE : cE X n K L r.2 (some (.int r.1)) 0 0) (hd : 5 ≤ d + 1) : ∀ (g : Nat) (v1 : Int32) (v2 : Int32) (v3 : Int32) (v4 : Int32) (v6 : Int32) (v7 : Int32) (M : Mm), f_X12_both_61 K L fu a0 g v1 v2 v3 v4 v6 v7 M = some r → gW X 0 0 n K L M 61 [(0, va_rf (some a0)), (1, .int v1), (2, .int v2), (3, .int v3), (4, .int v4), (6, .int v6), (7, .int v7)] []
  | 0, _, _, _, _, _, _, _, h => by cases h
  | g + 1, v1, v2, v3, v4, v6, v7, M, h => w_X12_both_61b o hL hr hz hk0 hE (w_X12_both_61_n o hL hr hz hk0 hE hd g) hd h
theorem w_X12_both_61 {X : Cx} {d n : Nat} {K L : Nat → Nat} {fu : Nat} {a0 : Nat} {r : (Int32 × Mm)} {v1 : Int32} {v2 : Int32} {v3 : Int32} {v4 : Int32} {v6 : Int32} {v7 : Int32} {M : Mm} (o : cOk X cX12_both RX12 (d + 1)) (hL : cL X = 8) (hr : (ch X).sig.returnType = some .int) (hz : (cs X).heap.size + 0 = cB X + n) (hk0 : K a0 = 12) (hE : cE X n K L r.2 (some (.int r.1)) 0 0) (hd : 5 ≤ d + 1) (h : f_X12_both_61 K L fu a0 fu v1 v2 v3 v4 v6 v7 M = some r) : gW X 0 0 n K L M 61 [(0, va_rf (some a0)), (1, .int v1), (2, .int v2), (3, .int v3), (4, .int v4), (6, .int v6), (7, .int v7)] [] := w_X12_both_61_n o hL hr hz hk0 hE hd fu v1 v2 v3 v4 v6 v7 M h
def f_X12_both_35 (K L : Nat → Nat) (fu : Nat) (a0 : Nat) (v1 : Int32) (v2 : Int32) (v3 : Int32) (v4 : Int32) (v5 : Int32) (M : Mm) : Option (Int32 × Mm) :=
  if v5 = 0 then
    bn (mm_I M (32 * 12 + 8) a0) (fun x1 =>
    bn (ms_I M (32 * 12 + 8) a0 v3) (fun M3 =>
    f_X12_both_61 K L fu a0 fu v1 v2 v3 v4 x1 (0 : Int32) M3))
  else
    Option.bind (f_X12_no K L a0 v5 M) (fun x5 =>
    some (x5.1, x5.2))
set_option maxHeartbeats 4000000 in
theorem w_X12_both_35 {X : Cx} {d n : Nat} {K L : Nat → Nat} {fu : Nat} {a0 : Nat} {r : (Int32 × Mm)} {v1 : Int32} {v2 : Int32} {v3 : Int32} {v4 : Int32} {v5 : Int32} {M : Mm} (o : cOk X cX12_both RX12 (d + 1)) (hL : cL X = 8) (hr : (ch X).sig.returnType = some .int) (hz : (cs X).heap.size + 0 = cB X + n) (hk0 : K a0 = 12) (hE : cE X n K L r.2 (some (.int r.1)) 0 0) (hd : 5 ≤ d + 1) (h : f_X12_both_35 K L fu a0 v1 v2 v3 v4 v5 M = some r) : gW X 0 0 n K L M 35 [(0, va_rf (some a0)), (1, .int v1), (2, .int v2), (3, .int v3), (4, .int v4), (5, .int v5)] [] := by
  unfold f_X12_both_35 at h
  refine g_iload o dX12_both_35 5 rfl ?_
  refine g_if_eq (tgt := 47) o dX12_both_37 (by decide) (fun z => ?_) (fun z => ?_)
  · have h := (if_pos z).symm.trans h
    refine g_aload_n o dX12_both_47 0 rfl ?_
    refine g_getI o fl_X12_76 (rc_self hk0) (by decide) rfl dX12_both_48 ?_
    obtain ⟨x1, e2, h⟩ := bn_at h
    refine g_topI e2 ?_
    refine g_istore (i := 6) (ls' := [(6, .int x1), (0, va_rf (some a0)), (1, .int v1), (2, .int v2), (3, .int v3), (4, .int v4), (5, .int v5)]) o dX12_both_51 (ltL hL (by decide)) rfl ?_
    refine g_iconst (v := (0 : Int32)) o dX12_both_53 (by decide) ?_
    refine g_istore (i := 7) (ls' := [(7, .int (0 : Int32)), (6, .int x1), (0, va_rf (some a0)), (1, .int v1), (2, .int v2), (3, .int v3), (4, .int v4), (5, .int v5)]) o dX12_both_54 (ltL hL (by decide)) rfl ?_
    refine g_aload_n o dX12_both_56 2 rfl ?_
    refine g_iload_n o dX12_both_57 5 rfl ?_
    refine g_putI o hz fl_X12_76 (rc_self hk0) (by decide) rfl rfl rfl  dX12_both_58 ?_
    obtain ⟨M3, e4, h⟩ := bn_at h
    refine g_mem e4 ?_
    refine gsub [2, 3, 4, 5, 6, 1, 0] rfl ?_
    exact w_X12_both_61 o hL hr hz hk0 hE hd h
  · have h := (if_neg z).symm.trans h
    refine g_aload_n o dX12_both_40 0 rfl ?_
    refine g_iload o dX12_both_41 5 rfl ?_
    obtain ⟨x5, e6, h⟩ := ob h
    refine g_invV0 o (rc_self hk0) (by decide) ml_X12_72 kb_X12_no kv_X12_no rfl (c_X12_no (cq X) (cD X) (cY X) (cB X) (d := d) (by omega) (rc_at (rc_self hk0)).2 e6) rfl rfl (by simp [cat_i, cat_l, cat_rf]) dX12_both_43 ?_
    cases h
    exact g_iret o hr hE dX12_both_46
def f_X12_both_19 (K L : Nat → Nat) (fu : Nat) (a0 : Nat) (v1 : Int32) (v2 : Int32) (v3 : Int32) (v4 : Int32) (s0 : Int32) (M : Mm) : Option (Int32 × Mm) :=
  if s0 = 0 then
    Option.bind (f_X12_whyAmong a0 v3 v4) (fun x1 =>
    f_X12_both_35 K L fu a0 v1 v2 v3 v4 x1 M)
  else
    f_X12_both_35 K L fu a0 v1 v2 v3 v4 s0 M
set_option maxHeartbeats 4000000 in
theorem w_X12_both_19 {X : Cx} {d n : Nat} {K L : Nat → Nat} {fu : Nat} {a0 : Nat} {r : (Int32 × Mm)} {v1 : Int32} {v2 : Int32} {v3 : Int32} {v4 : Int32} {s0 : Int32} {M : Mm} (o : cOk X cX12_both RX12 (d + 1)) (hL : cL X = 8) (hr : (ch X).sig.returnType = some .int) (hz : (cs X).heap.size + 0 = cB X + n) (hk0 : K a0 = 12) (hE : cE X n K L r.2 (some (.int r.1)) 0 0) (hd : 5 ≤ d + 1) (h : f_X12_both_19 K L fu a0 v1 v2 v3 v4 s0 M = some r) : gW X 0 0 n K L M 19 [(0, va_rf (some a0)), (1, .int v1), (2, .int v2), (3, .int v3), (4, .int v4)] [.int s0] := by
  unfold f_X12_both_19 at h
  refine g_istore (i := 5) (ls' := [(5, .int s0), (0, va_rf (some a0)), (1, .int v1), (2, .int v2), (3, .int v3), (4, .int v4)]) o dX12_both_19 (ltL hL (by decide)) rfl ?_
  refine g_iload o dX12_both_21 0 rfl ?_
  refine g_if_ne (tgt := 35) o dX12_both_23 (by decide) (fun z => ?_) (fun z => ?_)
  · have h := (if_neg z).symm.trans h
    refine gsub [1, 2, 3, 4, 5, 0] rfl ?_
    exact w_X12_both_35 o hL hr hz hk0 hE hd h
  · have h := (if_pos z).symm.trans h
    refine g_aload_n o dX12_both_26 1 rfl ?_
    refine g_iload_n o dX12_both_27 4 rfl ?_
    refine g_iload o dX12_both_28 5 rfl ?_
    obtain ⟨x1, e2, h⟩ := ob h
    refine g_invV0 o (rc_self hk0) (by decide) ml_X12_262 kb_X12_whyAmong kv_X12_whyAmong rfl (c_X12_whyAmong (cq X) (cD X) (cY X) (cB X) (d := d) (by omega) (rc_at (rc_self hk0)).2 e2) rfl rfl (by simp [cat_i, cat_l, cat_rf]) dX12_both_30 ?_
    refine g_istore (i := 5) (ls' := [(5, .int x1), (0, va_rf (some a0)), (1, .int v1), (2, .int v2), (3, .int v3), (4, .int v4)]) o dX12_both_33 (ltL hL (by decide)) rfl ?_
    refine gsub [1, 2, 3, 4, 5, 0] rfl ?_
    exact w_X12_both_35 o hL hr hz hk0 hE hd h
def f_X12_both (K L : Nat → Nat) (fu : Nat) (a0 : Nat) (v1 : Int32) (v2 : Int32) (v3 : Int32) (v4 : Int32) (M : Mm) : Option (Int32 × Mm) :=
  Option.bind (f_X12_isNumber v3) (fun x1 =>
  if x1 = 0 then
    f_X12_both_19 K L fu a0 v1 v2 v3 v4 (-3 : Int32) M
  else
    Option.bind (f_X12_whyTwo K L M a0 v1 v2 (0 : Int32)) (fun x3 =>
    f_X12_both_19 K L fu a0 v1 v2 v3 v4 x3 M))
set_option maxHeartbeats 4000000 in
theorem w_X12_both_0 {X : Cx} {d n : Nat} {K L : Nat → Nat} {fu : Nat} {a0 : Nat} {r : (Int32 × Mm)} {v1 : Int32} {v2 : Int32} {v3 : Int32} {v4 : Int32} {M : Mm} (o : cOk X cX12_both RX12 (d + 1)) (hL : cL X = 8) (hr : (ch X).sig.returnType = some .int) (hz : (cs X).heap.size + 0 = cB X + n) (hk0 : K a0 = 12) (hE : cE X n K L r.2 (some (.int r.1)) 0 0) (hd : 5 ≤ d + 1) (h : f_X12_both K L fu a0 v1 v2 v3 v4 M = some r) : gW X 0 0 n K L M 0 [(0, va_rf (some a0)), (1, .int v1), (2, .int v2), (3, .int v3), (4, .int v4)] [] := by
  unfold f_X12_both at h
  refine g_iload_n o dX12_both_0 3 rfl ?_
  obtain ⟨x1, e2, h⟩ := ob h
  refine g_invS0 o ml_X12_259 kb_X12_isNumber ks_X12_isNumber (c_X12_isNumber (cq X) (cD X) (cY X) (cB X) (d := d) (by omega) e2) rfl rfl (by simp [cat_i, cat_l, cat_rf]) dX12_both_1 ?_
  refine g_if_ne (tgt := 12) o dX12_both_4 (by decide) (fun z => ?_) (fun z => ?_)
  · have h := (if_neg z).symm.trans h
    refine g_aload_n o dX12_both_12 0 rfl ?_
    refine g_iload_n o dX12_both_13 1 rfl ?_
    refine g_iload_n o dX12_both_14 2 rfl ?_
    refine g_iconst (v := (0 : Int32)) o dX12_both_15 (by decide) ?_
    obtain ⟨x3, e4, h⟩ := ob h
    refine g_invV0 o (rc_self hk0) (by decide) ml_X12_163 kb_X12_whyTwo kv_X12_whyTwo rfl (c_X12_whyTwo (cq X) (cD X) (cY X) (cB X) (d := d) (by omega) (rc_at (rc_self hk0)).2 e4) rfl rfl (by simp [cat_i, cat_l, cat_rf]) dX12_both_16 ?_
    exact w_X12_both_19 o hL hr hz hk0 hE hd h
  · have h := (if_pos z).symm.trans h
    refine g_bipush (v := (-3 : Int32)) o dX12_both_7 (by decide) ?_
    refine g_goto (tgt := 19) o dX12_both_9 (by decide) ?_
    exact w_X12_both_19 o hL hr hz hk0 hE hd h
theorem c_X12_both (l : Launch) (D : va_G) (Y : Nat → ClassId) (B : Nat) {d : Nat} {n : Nat} {K L : Nat → Nat} {fu : Nat} {M : Mm} {a0 : Nat} {v1 : Int32} {v2 : Int32} {v3 : Int32} {v4 : Int32} {r : (Int32 × Mm)} (hd : 5 ≤ d) (hk0 : K a0 = 12) (h : f_X12_both K L fu a0 v1 v2 v3 v4 M = some r) : mC l D Y B d yX12_both cX12_both 8 (some .int) [va_rf (some a0), .int v1, .int v2, .int v3, .int v4] n K L M n K L r.2 (some (.int r.1)) 0 0 := by
  obtain ⟨d, rfl⟩ : ∃ e, d = e + 1 := ⟨d - 1, by omega⟩
  refine mk_met (by decide) (by simp [lgs_r, lgs_i, lgs_l, lgs_n]) (fun X e1 e2 e3 e4 o hL hr hnm hz hc hs hE => ?_)
  subst e1 e2 e3 e4
  rw [show lv_args 0 [va_rf (some a0), .int v1, .int v2, .int v3, .int v4] = [(0, va_rf (some a0)), (1, .int v1), (2, .int v2), (3, .int v3), (4, .int v4)] by simp [lva_r, lva_i, lva_l, lva_n]]
  exact w_X12_both_0 o hL hr hz hk0 hE hd h
