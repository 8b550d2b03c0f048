/-! methods: X12_moves X12_switches X12_image X12_restore X12_status -/
def f_X12_moves_184 (K L : Nat → Nat) (fu : Nat) (k122 : Int32 → Int32 → Int32 → Int32 → Int32 → Int32 → Int32 → Mm → Option (Int32 × Mm)) (a0 : Nat) (v1 : Int32) (v2 : Int32) (v3 : Int32) (v4 : Int32) (v6 : Int32) (v7 : Int32) (s0 : Int32) (s1 : Int32) (M : Mm) : Option (Int32 × Mm) :=
  bn (s1 + s0) (fun x1 =>
  bn (ms_I M (32 * 12 + 8) a0 ((mm_I M (32 * 12 + 8) a0) + (1 : Int32))) (fun M3 =>
  k122 v1 v2 v3 v4 v6 v7 x1 M3))
set_option maxHeartbeats 4000000 in
theorem w_X12_moves_184 {X : Cx} {d n : Nat} {K L : Nat → Nat} {fu : Nat} {a0 : Nat} {r : (Int32 × Mm)} {k122 : Int32 → Int32 → Int32 → Int32 → Int32 → Int32 → Int32 → Mm → Option (Int32 × Mm)} {v1 : Int32} {v2 : Int32} {v3 : Int32} {v4 : Int32} {v6 : Int32} {v7 : Int32} {s0 : Int32} {s1 : Int32} {M : Mm} (o : cOk X cX12_moves RX12 (d + 1)) (hL : cL X = 10) (hr : (ch X).sig.returnType = some .int) (hz : (cs X).heap.size + 0 = cB X + n) (hk0 : K a0 = 12) (hE : cE X n K L r.2 (some (.int r.1)) 0 0) (hk122 : ∀ (v1 : Int32) (v2 : Int32) (v3 : Int32) (v4 : Int32) (v6 : Int32) (v7 : Int32) (v8 : Int32) (M : Mm), k122 v1 v2 v3 v4 v6 v7 v8 M = some r → gW X 0 0 n K L M 122 [(0, va_rf (some a0)), (1, .int v1), (2, .int v2), (3, .int v3), (4, .int v4), (6, .int v6), (7, .int v7), (8, .int v8)] []) (hd : 5 ≤ d + 1) (h : f_X12_moves_184 K L fu k122 a0 v1 v2 v3 v4 v6 v7 s0 s1 M = some r) : gW X 0 0 n K L M 184 [(0, va_rf (some a0)), (1, .int v1), (2, .int v2), (3, .int v3), (4, .int v4), (6, .int v6), (7, .int v7)] [.int s0, .int s1] := by
  unfold f_X12_moves_184 at h
  refine g_iadd o dX12_moves_184 ?_
  obtain ⟨x1, e2, h⟩ := bn_at h
  refine g_topI e2 ?_
  refine g_istore (i := 8) (ls' := [(8, .int x1), (0, va_rf (some a0)), (1, .int v1), (2, .int v2), (3, .int v3), (4, .int v4), (6, .int v6), (7, .int v7)]) o dX12_moves_185 (ltL hL (by decide)) rfl ?_
  refine g_aload_n o dX12_moves_187 1 rfl ?_
  refine g_dup o dX12_moves_188 (cat_rf _) ?_
  refine g_getI o fl_X12_76 (rc_self hk0) (by decide) rfl dX12_moves_189 ?_
  refine g_iconst (v := (1 : Int32)) o dX12_moves_192 (by decide) ?_
  refine g_iadd o dX12_moves_193 ?_
  refine g_putI o hz fl_X12_76 (rc_self hk0) (by decide) rfl rfl rfl  dX12_moves_194 ?_
  obtain ⟨M3, e4, h⟩ := bn_at h
  refine g_mem e4 ?_
  refine g_goto (tgt := 122) o dX12_moves_197 (by decide) ?_
  refine gsub [1, 2, 3, 4, 5, 6, 7, 0] rfl ?_
  exact hk122 _ _ _ _ _ _ _ _ h
def f_X12_moves_122b (K L : Nat → Nat) (fu : Nat) (k122 : Int32 → Int32 → Int32 → Int32 → Int32 → Int32 → Int32 → Mm → Option (Int32 × Mm)) (a0 : Nat) (v1 : Int32) (v2 : Int32) (v3 : Int32) (v4 : Int32) (v6 : Int32) (v7 : Int32) (v8 : Int32) (M : Mm) : Option (Int32 × Mm) :=
  if (v3 + v4) ≤ (mm_I M (32 * 12 + 8) a0) then
    bn (ms_I M (32 * 12 + 8) a0 v6) (fun M1 =>
    some (v8, M1))
  else
    Option.bind (f_X12_findWays K L fu a0 M) (fun x3 =>
    Option.bind (rx K L (mm_R x3 (32 * 12 + 12) a0) 13 v1) (fun a5 =>
    bn (mm_A x3 a5 v1.toNatClampNeg) (fun x7 =>
    Option.bind (f_X12_to K L a0 v1 (37 : Int32) v2 x3) (fun x9 =>
    Option.bind (f_X12_findWays K L fu a0 x9) (fun x11 =>
    Option.bind (f_X12_to K L a0 v1 (37 : Int32) v7 x11) (fun x13 =>
    Option.bind (rx K L (mm_R x13 (32 * 12 + 12) a0) 13 v1) (fun a15 =>
    if (mm_A x13 a15 v1.toNatClampNeg) = x7 then
      f_X12_moves_184 K L fu k122 a0 v1 v2 v3 v4 v6 v7 (0 : Int32) v8 x13
    else
      f_X12_moves_184 K L fu k122 a0 v1 v2 v3 v4 v6 v7 (1 : Int32) v8 x13)))))))
def f_X12_moves_122 (K L : Nat → Nat) (fu : Nat) (a0 : Nat) : Nat → Int32 → Int32 → Int32 → Int32 → Int32 → Int32 → Int32 → Mm → Option (Int32 × Mm)
  | 0, _, _, _, _, _, _, _, _ => none
  | g + 1, v1, v2, v3, v4, v6, v7, v8, M => f_X12_moves_122b K L fu (f_X12_moves_122 K L fu a0 g) a0 v1 v2 v3 v4 v6 v7 v8 M
set_option maxHeartbeats 4000000 in
theorem w_X12_moves_122b {X : Cx} {d n : Nat} {K L : Nat → Nat} {fu : Nat} {a0 : Nat} {r : (Int32 × Mm)} {k122 : Int32 → Int32 → Int32 → Int32 → Int32 → Int32 → Int32 → Mm → Option (Int32 × Mm)} {v1 : Int32} {v2 : Int32} {v3 : Int32} {v4 : Int32} {v6 : Int32} {v7 : Int32} {v8 : Int32} {M : Mm} (o : cOk X cX12_moves RX12 (d + 1)) (hL : cL X = 10) (hr : (ch X).sig.returnType = some .int) (hz : (cs X).heap.size + 0 = cB X + n) (hk0 : K a0 = 12) (hE : cE X n K L r.2 (some (.int r.1)) 0 0) (hk122 : ∀ (v1 : Int32) (v2 : Int32) (v3 : Int32) (v4 : Int32) (v6 : Int32) (v7 : Int32) (v8 : Int32) (M : Mm), k122 v1 v2 v3 v4 v6 v7 v8 M = some r → gW X 0 0 n K L M 122 [(0, va_rf (some a0)), (1, .int v1), (2, .int v2), (3, .int v3), (4, .int v4), (6, .int v6), (7, .int v7), (8, .int v8)] []) (hd : 5 ≤ d + 1) (h : f_X12_moves_122b K L fu k122 a0 v1 v2 v3 v4 v6 v7 v8 M = some r) : gW X 0 0 n K L M 122 [(0, va_rf (some a0)), (1, .int v1), (2, .int v2), (3, .int v3), (4, .int v4), (6, .int v6), (7, .int v7), (8, .int v8)] [] := by
  unfold f_X12_moves_122b at h
  refine g_aload_n o dX12_moves_122 0 rfl ?_
  refine g_getI o fl_X12_76 (rc_self hk0) (by decide) rfl dX12_moves_123 ?_
  refine g_iload_n o dX12_moves_126 3 rfl ?_
  refine g_iload o dX12_moves_127 4 rfl ?_
  refine g_iadd o dX12_moves_129 ?_
  refine g_icmp_ge (tgt := 200) o dX12_moves_130 (by decide) (fun z => ?_) (fun z => ?_)
  · have h := (if_pos z).symm.trans h
    refine g_aload_n o dX12_moves_200 0 rfl ?_
    refine g_iload o dX12_moves_201 5 rfl ?_
    refine g_putI o hz fl_X12_76 (rc_self hk0) (by decide) rfl rfl rfl  dX12_moves_203 ?_
    obtain ⟨M1, e2, h⟩ := bn_at h
    refine g_mem e2 ?_
    refine g_iload o dX12_moves_206 7 rfl ?_
    cases h
    exact g_iret o hr hE dX12_moves_208
  · have h := (if_neg z).symm.trans h
    refine g_aload_n o dX12_moves_133 0 rfl ?_
    obtain ⟨x3, e4, h⟩ := ob h
    refine g_invV0 o (rc_self hk0) (by decide) ml_X12_122 kb_X12_findWays kv_X12_findWays rfl (c_X12_findWays (cq X) (cD X) (cY X) (cB X) (d := d) (by omega) (rc_at (rc_self hk0)).2 e4) rfl rfl (by simp [cat_i, cat_l, cat_rf]) dX12_moves_134 ?_
    refine g_aload_n o dX12_moves_137 0 rfl ?_
    refine g_getR o fl_X12_30 (rc_self hk0) (by decide) rfl dX12_moves_138 ?_
    refine g_iload_n o dX12_moves_141 1 rfl ?_
    obtain ⟨a5, e6, h⟩ := ob h
    refine g_iald o e6 dX12_moves_142 ?_
    obtain ⟨x7, e8, h⟩ := bn_at h
    refine g_topI e8 ?_
    refine g_istore (i := 9) (ls' := [(9, .int x7), (0, va_rf (some a0)), (1, .int v1), (2, .int v2), (3, .int v3), (4, .int v4), (6, .int v6), (7, .int v7), (8, .int v8)]) o dX12_moves_143 (ltL hL (by decide)) rfl ?_
    refine g_aload_n o dX12_moves_145 1 rfl ?_
    refine g_iload_n o dX12_moves_146 2 rfl ?_
    refine g_bipush (v := (37 : Int32)) o dX12_moves_147 (by decide) ?_
    refine g_iload_n o dX12_moves_149 3 rfl ?_
    obtain ⟨x9, e10, h⟩ := ob h
    refine g_invV0 o (rc_self hk0) (by decide) ml_X12_125 kb_X12_to kv_X12_to rfl (c_X12_to (cq X) (cD X) (cY X) (cB X) (d := d) (by omega) (rc_at (rc_self hk0)).2 e10) rfl rfl (by simp [cat_i, cat_l, cat_rf]) dX12_moves_150 ?_
    refine g_aload_n o dX12_moves_153 1 rfl ?_
    obtain ⟨x11, e12, h⟩ := ob h
    refine g_invV0 o (rc_self hk0) (by decide) ml_X12_122 kb_X12_findWays kv_X12_findWays rfl (c_X12_findWays (cq X) (cD X) (cY X) (cB X) (d := d) (by omega) (rc_at (rc_self hk0)).2 e12) rfl rfl (by simp [cat_i, cat_l, cat_rf]) dX12_moves_154 ?_
    refine g_aload_n o dX12_moves_157 1 rfl ?_
    refine g_iload_n o dX12_moves_158 2 rfl ?_
    refine g_bipush (v := (37 : Int32)) o dX12_moves_159 (by decide) ?_
    refine g_iload o dX12_moves_161 7 rfl ?_
    obtain ⟨x13, e14, h⟩ := ob h
    refine g_invV0 o (rc_self hk0) (by decide) ml_X12_125 kb_X12_to kv_X12_to rfl (c_X12_to (cq X) (cD X) (cY X) (cB X) (d := d) (by omega) (rc_at (rc_self hk0)).2 e14) rfl rfl (by simp [cat_i, cat_l, cat_rf]) dX12_moves_163 ?_
    refine g_iload o dX12_moves_166 8 rfl ?_
    refine g_aload_n o dX12_moves_168 1 rfl ?_
    refine g_getR o fl_X12_30 (rc_self hk0) (by decide) rfl dX12_moves_169 ?_
    refine g_iload_n o dX12_moves_172 2 rfl ?_
    obtain ⟨a15, e16, h⟩ := ob h
    refine g_iald o e16 dX12_moves_173 ?_
    refine g_iload o dX12_moves_174 0 rfl ?_
    refine g_icmp_eq (tgt := 183) o dX12_moves_176 (by decide) (fun z => ?_) (fun z => ?_)
    · have h := (if_pos z).symm.trans h
      refine g_iconst (v := (0 : Int32)) o dX12_moves_183 (by decide) ?_
      refine gsub [1, 2, 3, 4, 5, 6, 7] rfl ?_
      exact w_X12_moves_184 o hL hr hz hk0 hE hk122 hd h
    · have h := (if_neg z).symm.trans h
      refine g_iconst (v := (1 : Int32)) o dX12_moves_179 (by decide) ?_
      refine g_goto (tgt := 184) o dX12_moves_180 (by decide) ?_
      refine gsub [1, 2, 3, 4, 5, 6, 7] rfl ?_
      exact w_X12_moves_184 o hL hr hz hk0 hE hk122 hd h
theorem w_X12_moves_122_n {X : Cx} {d n : Nat} {K L : Nat → Nat} {fu : Nat} {a0 : Nat} {r : (Int32 × Mm)} (o : cOk X cX12_moves RX12 (d + 1)) (hL : cL X = 10) (hr : (ch X).sig.returnType = some .int) (hz : (cs X).heap.size + 0 = cB X + n) (hk0 : K a0 = 12) (hE : cE X n K L r.2 (some (.int r.1)) 0 0) (hd : 5 ≤ d + 1) : ∀ (g : Nat) (v1 : Int32) (v2 : Int32) (v3 : Int32) (v4 : Int32) (v6 : Int32) (v7 : Int32) (v8 : Int32) (M : Mm), f_X12_moves_122 K L fu a0 g v1 v2 v3 v4 v6 v7 v8 M = some r → gW X 0 0 n K L M 122 [(0, va_rf (some a0)), (1, .int v1), (2, .int v2), (3, .int v3), (4, .int v4), (6, .int v6), (7, .int v7), (8, .int v8)] []
  | 0, _, _, _, _, _, _, _, _, h => by cases h
  | g + 1, v1, v2, v3, v4, v6, v7, v8, M, h => w_X12_moves_122b o hL hr hz hk0 hE (w_X12_moves_122_n o hL hr hz hk0 hE hd g) hd h
theorem w_X12_moves_122 {X : Cx} {d n : Nat} {K L : Nat → Nat} {fu : Nat} {a0 : Nat} {r : (Int32 × Mm)} {v1 : Int32} {v2 : Int32} {v3 : Int32} {v4 : Int32} {v6 : Int32} {v7 : Int32} {v8 : Int32} {M : Mm} (o : cOk X cX12_moves RX12 (d + 1)) (hL : cL X = 10) (hr : (ch X).sig.returnType = some .int) (hz : (cs X).heap.size + 0 = cB X + n) (hk0 : K a0 = 12) (hE : cE X n K L r.2 (some (.int r.1)) 0 0) (hd : 5 ≤ d + 1) (h : f_X12_moves_122 K L fu a0 fu v1 v2 v3 v4 v6 v7 v8 M = some r) : gW X 0 0 n K L M 122 [(0, va_rf (some a0)), (1, .int v1), (2, .int v2), (3, .int v3), (4, .int v4), (6, .int v6), (7, .int v7), (8, .int v8)] [] := w_X12_moves_122_n o hL hr hz hk0 hE hd fu v1 v2 v3 v4 v6 v7 v8 M h
def f_X12_moves_87 (K L : Nat → Nat) (fu : Nat) (a0 : Nat) (v1 : Int32) (v2 : Int32) (v3 : Int32) (v4 : Int32) (v5 : Int32) (M : Mm) : Option (Int32 × Mm) :=
  if v5 = 0 then
    bn (mm_I M (32 * 12 + 8) a0) (fun x1 =>
    Option.bind (f_X12_of K L M a0 v1 (37 : Int32)) (fun x3 =>
    bn (ms_I M (32 * 12 + 8) a0 v3) (fun M5 =>
    f_X12_moves_122 K L fu a0 fu v1 v2 v3 v4 x1 x3 (0 : Int32) M5)))
  else
    Option.bind (f_X12_no K L a0 v5 M) (fun x7 =>
    some (x7.1, x7.2))
set_option maxHeartbeats 4000000 in
theorem w_X12_moves_87 {X : Cx} {d n : Nat} {K L : Nat → Nat} {fu : Nat} {a0 : Nat} {r : (Int32 × Mm)} {v1 : Int32} {v2 : Int32} {v3 : Int32} {v4 : Int32} {v5 : Int32} {M : Mm} (o : cOk X cX12_moves RX12 (d + 1)) (hL : cL X = 10) (hr : (ch X).sig.returnType = some .int) (hz : (cs X).heap.size + 0 = cB X + n) (hk0 : K a0 = 12) (hE : cE X n K L r.2 (some (.int r.1)) 0 0) (hd : 5 ≤ d + 1) (h : f_X12_moves_87 K L fu a0 v1 v2 v3 v4 v5 M = some r) : gW X 0 0 n K L M 87 [(0, va_rf (some a0)), (1, .int v1), (2, .int v2), (3, .int v3), (4, .int v4), (5, .int v5)] [] := by
  unfold f_X12_moves_87 at h
  refine g_iload o dX12_moves_87 5 rfl ?_
  refine g_if_eq (tgt := 99) o dX12_moves_89 (by decide) (fun z => ?_) (fun z => ?_)
  · have h := (if_pos z).symm.trans h
    refine g_aload_n o dX12_moves_99 0 rfl ?_
    refine g_getI o fl_X12_76 (rc_self hk0) (by decide) rfl dX12_moves_100 ?_
    obtain ⟨x1, e2, h⟩ := bn_at h
    refine g_topI e2 ?_
    refine g_istore (i := 6) (ls' := [(6, .int x1), (0, va_rf (some a0)), (1, .int v1), (2, .int v2), (3, .int v3), (4, .int v4), (5, .int v5)]) o dX12_moves_103 (ltL hL (by decide)) rfl ?_
    refine g_aload_n o dX12_moves_105 1 rfl ?_
    refine g_iload_n o dX12_moves_106 2 rfl ?_
    refine g_bipush (v := (37 : Int32)) o dX12_moves_107 (by decide) ?_
    obtain ⟨x3, e4, h⟩ := ob h
    refine g_invV0 o (rc_self hk0) (by decide) ml_X12_43 kb_X12_of kv_X12_of rfl (c_X12_of (cq X) (cD X) (cY X) (cB X) (d := d) (by omega) (rc_at (rc_self hk0)).2 e4) rfl rfl (by simp [cat_i, cat_l, cat_rf]) dX12_moves_109 ?_
    refine g_istore (i := 7) (ls' := [(7, .int x3), (6, .int x1), (0, va_rf (some a0)), (1, .int v1), (2, .int v2), (3, .int v3), (4, .int v4), (5, .int v5)]) o dX12_moves_112 (ltL hL (by decide)) rfl ?_
    refine g_iconst (v := (0 : Int32)) o dX12_moves_114 (by decide) ?_
    refine g_istore (i := 8) (ls' := [(8, .int (0 : Int32)), (7, .int x3), (6, .int x1), (0, va_rf (some a0)), (1, .int v1), (2, .int v2), (3, .int v3), (4, .int v4), (5, .int v5)]) o dX12_moves_115 (ltL hL (by decide)) rfl ?_
    refine g_aload_n o dX12_moves_117 3 rfl ?_
    refine g_iload_n o dX12_moves_118 6 rfl ?_
    refine g_putI o hz fl_X12_76 (rc_self hk0) (by decide) rfl rfl rfl  dX12_moves_119 ?_
    obtain ⟨M5, e6, h⟩ := bn_at h
    refine g_mem e6 ?_
    refine gsub [3, 4, 5, 6, 7, 2, 1, 0] rfl ?_
    exact w_X12_moves_122 o hL hr hz hk0 hE hd h
  · have h := (if_neg z).symm.trans h
    refine g_aload_n o dX12_moves_92 0 rfl ?_
    refine g_iload o dX12_moves_93 5 rfl ?_
    obtain ⟨x7, e8, h⟩ := ob h
    refine g_invV0 o (rc_self hk0) (by decide) ml_X12_72 kb_X12_no kv_X12_no rfl (c_X12_no (cq X) (cD X) (cY X) (cB X) (d := d) (by omega) (rc_at (rc_self hk0)).2 e8) rfl rfl (by simp [cat_i, cat_l, cat_rf]) dX12_moves_95 ?_
    cases h
    exact g_iret o hr hE dX12_moves_98
def f_X12_moves_83 (K L : Nat → Nat) (fu : Nat) (a0 : Nat) (v1 : Int32) (v2 : Int32) (v3 : Int32) (v4 : Int32) (M : Mm) : Option (Int32 × Mm) :=
  f_X12_moves_87 K L fu a0 v1 v2 v3 v4 (-12 : Int32) M
set_option maxHeartbeats 4000000 in
theorem w_X12_moves_83 {X : Cx} {d n : Nat} {K L : Nat → Nat} {fu : Nat} {a0 : Nat} {r : (Int32 × Mm)} {v1 : Int32} {v2 : Int32} {v3 : Int32} {v4 : Int32} {M : Mm} (o : cOk X cX12_moves RX12 (d + 1)) (hL : cL X = 10) (hr : (ch X).sig.returnType = some .int) (hz : (cs X).heap.size + 0 = cB X + n) (hk0 : K a0 = 12) (hE : cE X n K L r.2 (some (.int r.1)) 0 0) (hd : 5 ≤ d + 1) (h : f_X12_moves_83 K L fu a0 v1 v2 v3 v4 M = some r) : gW X 0 0 n K L M 83 [(0, va_rf (some a0)), (1, .int v1), (2, .int v2), (3, .int v3), (4, .int v4)] [] := by
  unfold f_X12_moves_83 at h
  refine g_bipush (v := (-12 : Int32)) o dX12_moves_83 (by decide) ?_
  refine g_istore (i := 5) (ls' := [(5, .int (-12 : Int32)), (0, va_rf (some a0)), (1, .int v1), (2, .int v2), (3, .int v3), (4, .int v4)]) o dX12_moves_85 (ltL hL (by decide)) rfl ?_
  refine gsub [1, 2, 3, 4, 5, 0] rfl ?_
  exact w_X12_moves_87 o hL hr hz hk0 hE hd h
def f_X12_moves_34 (K L : Nat → Nat) (fu : Nat) (a0 : Nat) (v1 : Int32) (v2 : Int32) (v3 : Int32) (v4 : Int32) (v5 : Int32) (M : Mm) : Option (Int32 × Mm) :=
  if v5 = 0 then
    Option.bind (f_X12_isIn (v2.toInt64) (0 : Int64) (10000 : Int64)) (fun x1 =>
    if x1 = 0 then
      f_X12_moves_83 K L fu a0 v1 v2 v3 v4 M
    else
      Option.bind (f_X12_of K L M a0 v1 (29 : Int32)) (fun x3 =>
      if (10000 : Int32) < (x3 + v2) then
        f_X12_moves_83 K L fu a0 v1 v2 v3 v4 M
      else
        Option.bind (f_X12_of K L M a0 v1 (29 : Int32)) (fun x5 =>
        Option.bind (f_X12_goesOver K L fu M a0 v1 (1 : Int32) x5 v2) (fun x7 =>
        if x7 = 0 then
          f_X12_moves_87 K L fu a0 v1 v2 v3 v4 v5 M
        else
          f_X12_moves_83 K L fu a0 v1 v2 v3 v4 M))))
  else
    f_X12_moves_87 K L fu a0 v1 v2 v3 v4 v5 M
set_option maxHeartbeats 4000000 in
theorem w_X12_moves_34 {X : Cx} {d n : Nat} {K L : Nat → Nat} {fu : Nat} {a0 : Nat} {r : (Int32 × Mm)} {v1 : Int32} {v2 : Int32} {v3 : Int32} {v4 : Int32} {v5 : Int32} {M : Mm} (o : cOk X cX12_moves RX12 (d + 1)) (hL : cL X = 10) (hr : (ch X).sig.returnType = some .int) (hz : (cs X).heap.size + 0 = cB X + n) (hk0 : K a0 = 12) (hE : cE X n K L r.2 (some (.int r.1)) 0 0) (hd : 5 ≤ d + 1) (h : f_X12_moves_34 K L fu a0 v1 v2 v3 v4 v5 M = some r) : gW X 0 0 n K L M 34 [(0, va_rf (some a0)), (1, .int v1), (2, .int v2), (3, .int v3), (4, .int v4), (5, .int v5)] [] := by
  unfold f_X12_moves_34 at h
  refine g_iload o dX12_moves_34 5 rfl ?_
  refine g_if_ne (tgt := 87) o dX12_moves_36 (by decide) (fun z => ?_) (fun z => ?_)
  · have h := (if_neg z).symm.trans h
    exact w_X12_moves_87 o hL hr hz hk0 hE hd h
  · have h := (if_pos z).symm.trans h
    refine g_iload_n o dX12_moves_39 2 rfl ?_
    refine g_i2l o dX12_moves_40 ?_
    refine g_lconst (v := (0 : Int64)) o dX12_moves_41 (by decide) ?_
    refine g_ldc2 (v := (10000 : Int64)) o kc_X12_89 dX12_moves_42 ?_
    obtain ⟨x1, e2, h⟩ := ob h
    refine g_invS0 o ml_X12_62 kb_X12_isIn ks_X12_isIn (c_X12_isIn (cq X) (cD X) (cY X) (cB X) (d := d) (by omega) e2) rfl rfl (by simp [cat_i, cat_l, cat_rf]) dX12_moves_45 ?_
    refine g_if_eq (tgt := 83) o dX12_moves_48 (by decide) (fun z => ?_) (fun z => ?_)
    · have h := (if_pos z).symm.trans h
      refine gsub [0, 1, 2, 3, 4] rfl ?_
      exact w_X12_moves_83 o hL hr hz hk0 hE hd h
    · have h := (if_neg z).symm.trans h
      refine g_aload_n o dX12_moves_51 0 rfl ?_
      refine g_iload_n o dX12_moves_52 1 rfl ?_
      refine g_bipush (v := (29 : Int32)) o dX12_moves_53 (by decide) ?_
      obtain ⟨x3, e4, h⟩ := ob h
      refine g_invV0 o (rc_self hk0) (by decide) ml_X12_43 kb_X12_of kv_X12_of rfl (c_X12_of (cq X) (cD X) (cY X) (cB X) (d := d) (by omega) (rc_at (rc_self hk0)).2 e4) rfl rfl (by simp [cat_i, cat_l, cat_rf]) dX12_moves_55 ?_
      refine g_iload_n o dX12_moves_58 2 rfl ?_
      refine g_iadd o dX12_moves_59 ?_
      refine g_sipush (v := (10000 : Int32)) o dX12_moves_60 (by decide) ?_
      refine g_icmp_gt (tgt := 83) o dX12_moves_63 (by decide) (fun z => ?_) (fun z => ?_)
      · have h := (if_pos z).symm.trans h
        refine gsub [0, 1, 2, 3, 4] rfl ?_
        exact w_X12_moves_83 o hL hr hz hk0 hE hd h
      · have h := (if_neg z).symm.trans h
        refine g_aload_n o dX12_moves_66 0 rfl ?_
        refine g_iload_n o dX12_moves_67 1 rfl ?_
        refine g_iconst (v := (1 : Int32)) o dX12_moves_68 (by decide) ?_
        refine g_aload_n o dX12_moves_69 0 rfl ?_
        refine g_iload_n o dX12_moves_70 1 rfl ?_
        refine g_bipush (v := (29 : Int32)) o dX12_moves_71 (by decide) ?_
        obtain ⟨x5, e6, h⟩ := ob h
        refine g_invV0 o (rc_self hk0) (by decide) ml_X12_43 kb_X12_of kv_X12_of rfl (c_X12_of (cq X) (cD X) (cY X) (cB X) (d := d) (by omega) (rc_at (rc_self hk0)).2 e6) rfl rfl (by simp [cat_i, cat_l, cat_rf]) dX12_moves_73 ?_
        refine g_iload_n o dX12_moves_76 2 rfl ?_
        obtain ⟨x7, e8, h⟩ := ob h
        refine g_invV0 o (rc_self hk0) (by decide) ml_X12_139 kb_X12_goesOver kv_X12_goesOver rfl (c_X12_goesOver (cq X) (cD X) (cY X) (cB X) (d := d) (by omega) (rc_at (rc_self hk0)).2 e8) rfl rfl (by simp [cat_i, cat_l, cat_rf]) dX12_moves_77 ?_
        refine g_if_eq (tgt := 87) o dX12_moves_80 (by decide) (fun z => ?_) (fun z => ?_)
        · have h := (if_pos z).symm.trans h
          exact w_X12_moves_87 o hL hr hz hk0 hE hd h
        · have h := (if_neg z).symm.trans h
          refine gsub [0, 1, 2, 3, 4] rfl ?_
          exact w_X12_moves_83 o hL hr hz hk0 hE hd h
def f_X12_moves_18 (K L : Nat → Nat) (fu : Nat) (a0 : Nat) (v1 : Int32) (v2 : Int32) (v3 : Int32) (v4 : Int32) (s0 : Int32) (M : Mm) : Option (Int32 × Mm) :=
  if s0 = 0 then
    Option.bind (f_X12_whyAmong a0 v3 v4) (fun x1 =>
    f_X12_moves_34 K L fu a0 v1 v2 v3 v4 x1 M)
  else
    f_X12_moves_34 K L fu a0 v1 v2 v3 v4 s0 M
set_option maxHeartbeats 4000000 in
theorem w_X12_moves_18 {X : Cx} {d n : Nat} {K L : Nat → Nat} {fu : Nat} {a0 : Nat} {r : (Int32 × Mm)} {v1 : Int32} {v2 : Int32} {v3 : Int32} {v4 : Int32} {s0 : Int32} {M : Mm} (o : cOk X cX12_moves RX12 (d + 1)) (hL : cL X = 10) (hr : (ch X).sig.returnType = some .int) (hz : (cs X).heap.size + 0 = cB X + n) (hk0 : K a0 = 12) (hE : cE X n K L r.2 (some (.int r.1)) 0 0) (hd : 5 ≤ d + 1) (h : f_X12_moves_18 K L fu a0 v1 v2 v3 v4 s0 M = some r) : gW X 0 0 n K L M 18 [(0, va_rf (some a0)), (1, .int v1), (2, .int v2), (3, .int v3), (4, .int v4)] [.int s0] := by
  unfold f_X12_moves_18 at h
  refine g_istore (i := 5) (ls' := [(5, .int s0), (0, va_rf (some a0)), (1, .int v1), (2, .int v2), (3, .int v3), (4, .int v4)]) o dX12_moves_18 (ltL hL (by decide)) rfl ?_
  refine g_iload o dX12_moves_20 0 rfl ?_
  refine g_if_ne (tgt := 34) o dX12_moves_22 (by decide) (fun z => ?_) (fun z => ?_)
  · have h := (if_neg z).symm.trans h
    refine gsub [1, 2, 3, 4, 5, 0] rfl ?_
    exact w_X12_moves_34 o hL hr hz hk0 hE hd h
  · have h := (if_pos z).symm.trans h
    refine g_aload_n o dX12_moves_25 1 rfl ?_
    refine g_iload_n o dX12_moves_26 4 rfl ?_
    refine g_iload o dX12_moves_27 5 rfl ?_
    obtain ⟨x1, e2, h⟩ := ob h
    refine g_invV0 o (rc_self hk0) (by decide) ml_X12_262 kb_X12_whyAmong kv_X12_whyAmong rfl (c_X12_whyAmong (cq X) (cD X) (cY X) (cB X) (d := d) (by omega) (rc_at (rc_self hk0)).2 e2) rfl rfl (by simp [cat_i, cat_l, cat_rf]) dX12_moves_29 ?_
    refine g_istore (i := 5) (ls' := [(5, .int x1), (0, va_rf (some a0)), (1, .int v1), (2, .int v2), (3, .int v3), (4, .int v4)]) o dX12_moves_32 (ltL hL (by decide)) rfl ?_
    refine gsub [1, 2, 3, 4, 5, 0] rfl ?_
    exact w_X12_moves_34 o hL hr hz hk0 hE hd h
def f_X12_moves (K L : Nat → Nat) (fu : Nat) (a0 : Nat) (v1 : Int32) (v2 : Int32) (v3 : Int32) (v4 : Int32) (M : Mm) : Option (Int32 × Mm) :=
  Option.bind (f_X12_isNumber v3) (fun x1 =>
  if x1 = 0 then
    f_X12_moves_18 K L fu a0 v1 v2 v3 v4 (-3 : Int32) M
  else
    Option.bind (f_X12_why K L M a0 v1 (0 : Int32)) (fun x3 =>
    f_X12_moves_18 K L fu a0 v1 v2 v3 v4 x3 M))
set_option maxHeartbeats 4000000 in
theorem w_X12_moves_0 {X : Cx} {d n : Nat} {K L : Nat → Nat} {fu : Nat} {a0 : Nat} {r : (Int32 × Mm)} {v1 : Int32} {v2 : Int32} {v3 : Int32} {v4 : Int32} {M : Mm} (o : cOk X cX12_moves RX12 (d + 1)) (hL : cL X = 10) (hr : (ch X).sig.returnType = some .int) (hz : (cs X).heap.size + 0 = cB X + n) (hk0 : K a0 = 12) (hE : cE X n K L r.2 (some (.int r.1)) 0 0) (hd : 5 ≤ d + 1) (h : f_X12_moves K L fu a0 v1 v2 v3 v4 M = some r) : gW X 0 0 n K L M 0 [(0, va_rf (some a0)), (1, .int v1), (2, .int v2), (3, .int v3), (4, .int v4)] [] := by
  unfold f_X12_moves at h
  refine g_iload_n o dX12_moves_0 3 rfl ?_
  obtain ⟨x1, e2, h⟩ := ob h
  refine g_invS0 o ml_X12_259 kb_X12_isNumber ks_X12_isNumber (c_X12_isNumber (cq X) (cD X) (cY X) (cB X) (d := d) (by omega) e2) rfl rfl (by simp [cat_i, cat_l, cat_rf]) dX12_moves_1 ?_
  refine g_if_ne (tgt := 12) o dX12_moves_4 (by decide) (fun z => ?_) (fun z => ?_)
  · have h := (if_neg z).symm.trans h
    refine g_aload_n o dX12_moves_12 0 rfl ?_
    refine g_iload_n o dX12_moves_13 1 rfl ?_
    refine g_iconst (v := (0 : Int32)) o dX12_moves_14 (by decide) ?_
    obtain ⟨x3, e4, h⟩ := ob h
    refine g_invV0 o (rc_self hk0) (by decide) ml_X12_119 kb_X12_why kv_X12_why rfl (c_X12_why (cq X) (cD X) (cY X) (cB X) (d := d) (by omega) (rc_at (rc_self hk0)).2 e4) rfl rfl (by simp [cat_i, cat_l, cat_rf]) dX12_moves_15 ?_
    exact w_X12_moves_18 o hL hr hz hk0 hE hd h
  · have h := (if_pos z).symm.trans h
    refine g_bipush (v := (-3 : Int32)) o dX12_moves_7 (by decide) ?_
    refine g_goto (tgt := 18) o dX12_moves_9 (by decide) ?_
    exact w_X12_moves_18 o hL hr hz hk0 hE hd h
theorem c_X12_moves (l : Launch) (D : va_G) (Y : Nat → ClassId) (B : Nat) {d : Nat} {n : Nat} {K L : Nat → Nat} {fu : Nat} {M : Mm} {a0 : Nat} {v1 : Int32} {v2 : Int32} {v3 : Int32} {v4 : Int32} {r : (Int32 × Mm)} (hd : 5 ≤ d) (hk0 : K a0 = 12) (h : f_X12_moves K L fu a0 v1 v2 v3 v4 M = some r) : mC l D Y B d yX12_moves cX12_moves 10 (some .int) [va_rf (some a0), .int v1, .int v2, .int v3, .int v4] n K L M n K L r.2 (some (.int r.1)) 0 0 := by
  obtain ⟨d, rfl⟩ : ∃ e, d = e + 1 := ⟨d - 1, by omega⟩
  refine mk_met (by decide) (by simp [lgs_r, lgs_i, lgs_l, lgs_n]) (fun X e1 e2 e3 e4 o hL hr hnm hz hc hs hE => ?_)
  subst e1 e2 e3 e4
  rw [show lv_args 0 [va_rf (some a0), .int v1, .int v2, .int v3, .int v4] = [(0, va_rf (some a0)), (1, .int v1), (2, .int v2), (3, .int v3), (4, .int v4)] by simp [lva_r, lva_i, lva_l, lva_n]]
  exact w_X12_moves_0 o hL hr hz hk0 hE hd h
def f_X12_switches_24 (K L : Nat → Nat) (fu : Nat) (k4 : Int32 → Int32 → Option Int32) (M : Mm) (a0 : Nat) (v2 : Int32) (s0 : Int32) (s1 : Int32) : Option Int32 :=
  bn (s1 + s0) (fun x1 =>
  k4 x1 (v2 + 1))
set_option maxHeartbeats 4000000 in
theorem w_X12_switches_24 {X : Cx} {d n : Nat} {K L : Nat → Nat} {fu : Nat} {M : Mm} {a0 : Nat} {r : Int32} {k4 : Int32 → Int32 → Option Int32} {v2 : Int32} {s0 : Int32} {s1 : Int32} (o : cOk X cX12_switches RX12 (d + 1)) (hL : cL X = 3) (hr : (ch X).sig.returnType = some .int) (hk0 : K a0 = 12) (hE : cE X n K L M (some (.int r)) 0 0) (hk4 : ∀ (v1 : Int32) (v2 : Int32), k4 v1 v2 = some r → gW X 0 0 n K L M 4 [(0, va_rf (some a0)), (1, .int v1), (2, .int v2)] []) (hd : 2 ≤ d + 1) (h : f_X12_switches_24 K L fu k4 M a0 v2 s0 s1 = some r) : gW X 0 0 n K L M 24 [(0, va_rf (some a0)), (2, .int v2)] [.int s0, .int s1] := by
  unfold f_X12_switches_24 at h
  refine g_iadd o dX12_switches_24 ?_
  obtain ⟨x1, e2, h⟩ := bn_at h
  refine g_topI e2 ?_
  refine g_istore_n (i := 1) (ls' := [(1, .int x1), (0, va_rf (some a0)), (2, .int v2)]) o dX12_switches_25 rfl (ltL hL (by decide)) rfl ?_
  refine g_iinc (i := 2) (v := v2 + 1) (ls' := [(2, .int (v2 + 1)), (1, .int x1), (0, va_rf (some a0))]) o dX12_switches_26 2 rfl (by first | rfl | (congr 1)) (ltL hL (by decide)) rfl ?_
  refine g_goto (tgt := 4) o dX12_switches_29 (by decide) ?_
  refine gsub [2, 1, 0] rfl ?_
  exact hk4 _ _ h
def f_X12_switches_4b (K L : Nat → Nat) (fu : Nat) (k4 : Int32 → Int32 → Option Int32) (M : Mm) (a0 : Nat) (v1 : Int32) (v2 : Int32) : Option Int32 :=
  if (16 : Int32) ≤ v2 then
    some v1
  else
    Option.bind (f_X12_isSwitch K L M a0 v2) (fun x1 =>
    if x1 = 0 then
      f_X12_switches_24 K L fu k4 M a0 v2 (0 : Int32) v1
    else
      f_X12_switches_24 K L fu k4 M a0 v2 (1 : Int32) v1)
def f_X12_switches_4 (K L : Nat → Nat) (fu : Nat) (M : Mm) (a0 : Nat) : Nat → Int32 → Int32 → Option Int32
  | 0, _, _ => none
  | g + 1, v1, v2 => f_X12_switches_4b K L fu (f_X12_switches_4 K L fu M a0 g) M a0 v1 v2
set_option maxHeartbeats 4000000 in
theorem w_X12_switches_4b {X : Cx} {d n : Nat} {K L : Nat → Nat} {fu : Nat} {M : Mm} {a0 : Nat} {r : Int32} {k4 : Int32 → Int32 → Option Int32} {v1 : Int32} {v2 : Int32} (o : cOk X cX12_switches RX12 (d + 1)) (hL : cL X = 3) (hr : (ch X).sig.returnType = some .int) (hk0 : K a0 = 12) (hE : cE X n K L M (some (.int r)) 0 0) (hk4 : ∀ (v1 : Int32) (v2 : Int32), k4 v1 v2 = some r → gW X 0 0 n K L M 4 [(0, va_rf (some a0)), (1, .int v1), (2, .int v2)] []) (hd : 2 ≤ d + 1) (h : f_X12_switches_4b K L fu k4 M a0 v1 v2 = some r) : gW X 0 0 n K L M 4 [(0, va_rf (some a0)), (1, .int v1), (2, .int v2)] [] := by
  unfold f_X12_switches_4b at h
  refine g_iload_n o dX12_switches_4 2 rfl ?_
  refine g_bipush (v := (16 : Int32)) o dX12_switches_5 (by decide) ?_
  refine g_icmp_ge (tgt := 32) o dX12_switches_7 (by decide) (fun z => ?_) (fun z => ?_)
  · have h := (if_pos z).symm.trans h
    refine g_iload_n o dX12_switches_32 1 rfl ?_
    cases h
    exact g_iret o hr hE dX12_switches_33
  · have h := (if_neg z).symm.trans h
    refine g_iload_n o dX12_switches_10 1 rfl ?_
    refine g_aload_n o dX12_switches_11 0 rfl ?_
    refine g_iload_n o dX12_switches_12 2 rfl ?_
    obtain ⟨x1, e2, h⟩ := ob h
    refine g_invV0 o (rc_self hk0) (by decide) ml_X12_51 kb_X12_isSwitch kv_X12_isSwitch rfl (c_X12_isSwitch (cq X) (cD X) (cY X) (cB X) (d := d) (by omega) (rc_at (rc_self hk0)).2 e2) rfl rfl (by simp [cat_i, cat_l, cat_rf]) dX12_switches_13 ?_
    refine g_if_eq (tgt := 23) o dX12_switches_16 (by decide) (fun z => ?_) (fun z => ?_)
    · have h := (if_pos z).symm.trans h
      refine g_iconst (v := (0 : Int32)) o dX12_switches_23 (by decide) ?_
      refine gsub [0, 2] rfl ?_
      exact w_X12_switches_24 o hL hr hk0 hE hk4 hd h
    · have h := (if_neg z).symm.trans h
      refine g_iconst (v := (1 : Int32)) o dX12_switches_19 (by decide) ?_
      refine g_goto (tgt := 24) o dX12_switches_20 (by decide) ?_
      refine gsub [0, 2] rfl ?_
      exact w_X12_switches_24 o hL hr hk0 hE hk4 hd h
theorem w_X12_switches_4_n {X : Cx} {d n : Nat} {K L : Nat → Nat} {fu : Nat} {M : Mm} {a0 : Nat} {r : Int32} (o : cOk X cX12_switches RX12 (d + 1)) (hL : cL X = 3) (hr : (ch X).sig.returnType = some .int) (hk0 : K a0 = 12) (hE : cE X n K L M (some (.int r)) 0 0) (hd : 2 ≤ d + 1) : ∀ (g : Nat) (v1 : Int32) (v2 : Int32), f_X12_switches_4 K L fu M a0 g v1 v2 = some r → gW X 0 0 n K L M 4 [(0, va_rf (some a0)), (1, .int v1), (2, .int v2)] []
  | 0, _, _, h => by cases h
  | g + 1, v1, v2, h => w_X12_switches_4b o hL hr hk0 hE (w_X12_switches_4_n o hL hr hk0 hE hd g) hd h
theorem w_X12_switches_4 {X : Cx} {d n : Nat} {K L : Nat → Nat} {fu : Nat} {M : Mm} {a0 : Nat} {r : Int32} {v1 : Int32} {v2 : Int32} (o : cOk X cX12_switches RX12 (d + 1)) (hL : cL X = 3) (hr : (ch X).sig.returnType = some .int) (hk0 : K a0 = 12) (hE : cE X n K L M (some (.int r)) 0 0) (hd : 2 ≤ d + 1) (h : f_X12_switches_4 K L fu M a0 fu v1 v2 = some r) : gW X 0 0 n K L M 4 [(0, va_rf (some a0)), (1, .int v1), (2, .int v2)] [] := w_X12_switches_4_n o hL hr hk0 hE hd fu v1 v2 h
def f_X12_switches (K L : Nat → Nat) (fu : Nat) (M : Mm) (a0 : Nat) : Option Int32 :=
  f_X12_switches_4 K L fu M a0 fu (0 : Int32) (0 : Int32)
set_option maxHeartbeats 4000000 in
theorem w_X12_switches_0 {X : Cx} {d n : Nat} {K L : Nat → Nat} {fu : Nat} {M : Mm} {a0 : Nat} {r : Int32} (o : cOk X cX12_switches RX12 (d + 1)) (hL : cL X = 3) (hr : (ch X).sig.returnType = some .int) (hk0 : K a0 = 12) (hE : cE X n K L M (some (.int r)) 0 0) (hd : 2 ≤ d + 1) (h : f_X12_switches K L fu M a0  = some r) : gW X 0 0 n K L M 0 [(0, va_rf (some a0))] [] := by
  unfold f_X12_switches at h
  refine g_iconst (v := (0 : Int32)) o dX12_switches_0 (by decide) ?_
  refine g_istore_n (i := 1) (ls' := [(1, .int (0 : Int32)), (0, va_rf (some a0))]) o dX12_switches_1 rfl (ltL hL (by decide)) rfl ?_
  refine g_iconst (v := (0 : Int32)) o dX12_switches_2 (by decide) ?_
  refine g_istore_n (i := 2) (ls' := [(2, .int (0 : Int32)), (1, .int (0 : Int32)), (0, va_rf (some a0))]) o dX12_switches_3 rfl (ltL hL (by decide)) rfl ?_
  refine gsub [2, 1, 0] rfl ?_
  exact w_X12_switches_4 o hL hr hk0 hE hd h
theorem c_X12_switches (l : Launch) (D : va_G) (Y : Nat → ClassId) (B : Nat) {d : Nat} {n : Nat} {K L : Nat → Nat} {fu : Nat} {M : Mm} {a0 : Nat} {r : Int32} (hd : 2 ≤ d) (hk0 : K a0 = 12) (h : f_X12_switches K L fu M a0  = some r) : mC l D Y B d yX12_switches cX12_switches 3 (some .int) [va_rf (some a0)] n K L M n K L M (some (.int r)) 0 0 := by
  obtain ⟨d, rfl⟩ : ∃ e, d = e + 1 := ⟨d - 1, by omega⟩
  refine mk_met (by decide) (by simp [lgs_r, lgs_i, lgs_l, lgs_n]) (fun X e1 e2 e3 e4 o hL hr hnm hz hc hs hE => ?_)
  subst e1 e2 e3 e4
  rw [show lv_args 0 [va_rf (some a0)] = [(0, va_rf (some a0))] by simp [lva_r, lva_i, lva_l, lva_n]]
  exact w_X12_switches_0 o hL hr hk0 hE hd h
def f_X12_image_28b (K L : Nat → Nat) (fu : Nat) (k28 : Int32 → Mm → Option (Int32 × Mm)) (a0 : Nat) (v1 : Int32) (M : Mm) : Option (Int32 × Mm) :=
  if (16 : Int32) ≤ v1 then
    bn (ms_I M (32 * 12 + 4) a0 (1 : Int32)) (fun M1 =>
    Option.bind (f_X12_switches K L fu M1 a0) (fun x3 =>
    some (x3, M1)))
  else
    Option.bind (rx K L (mm_R M (32 * 12 + 2) a0) 14 v1) (fun a5 =>
    Option.bind (rx K L (mm_R M (32 * 12 + 3) a0) 14 v1) (fun a7 =>
    bn (ms_B M a7 (vp_updL (mm_B M a7) v1.toNatClampNeg (mm_B M a5 v1.toNatClampNeg))) (fun M9 =>
    k28 (v1 + 1) M9)))
def f_X12_image_28 (K L : Nat → Nat) (fu : Nat) (a0 : Nat) : Nat → Int32 → Mm → Option (Int32 × Mm)
  | 0, _, _ => none
  | g + 1, v1, M => f_X12_image_28b K L fu (f_X12_image_28 K L fu a0 g) a0 v1 M
set_option maxHeartbeats 4000000 in
theorem w_X12_image_28b {X : Cx} {d n : Nat} {K L : Nat → Nat} {fu : Nat} {a0 : Nat} {r : (Int32 × Mm)} {k28 : Int32 → Mm → Option (Int32 × Mm)} {v1 : Int32} {M : Mm} (o : cOk X cX12_image RX12 (d + 1)) (hL : cL X = 2) (hr : (ch X).sig.returnType = some .int) (hz : (cs X).heap.size + 0 = cB X + n) (hk0 : K a0 = 12) (hE : cE X n K L r.2 (some (.int r.1)) 0 0) (hk28 : ∀ (v1 : Int32) (M : Mm), k28 v1 M = some r → gW X 0 0 n K L M 28 [(0, va_rf (some a0)), (1, .int v1)] []) (hd : 3 ≤ d + 1) (h : f_X12_image_28b K L fu k28 a0 v1 M = some r) : gW X 0 0 n K L M 28 [(0, va_rf (some a0)), (1, .int v1)] [] := by
  unfold f_X12_image_28b at h
  refine g_iload_n o dX12_image_28 1 rfl ?_
  refine g_bipush (v := (16 : Int32)) o dX12_image_29 (by decide) ?_
  refine g_icmp_ge (tgt := 52) o dX12_image_31 (by decide) (fun z => ?_) (fun z => ?_)
  · have h := (if_pos z).symm.trans h
    refine g_aload_n o dX12_image_52 0 rfl ?_
    refine g_iconst (v := (1 : Int32)) o dX12_image_53 (by decide) ?_
    refine g_putZ o hz fl_X12_265 (rc_self hk0) (by decide) rfl rfl rfl (by decide) dX12_image_54 ?_
    obtain ⟨M1, e2, h⟩ := bn_at h
    refine g_mem e2 ?_
    refine g_aload_n o dX12_image_57 0 rfl ?_
    obtain ⟨x3, e4, h⟩ := ob h
    refine g_invV0 o (rc_self hk0) (by decide) ml_X12_268 kb_X12_switches kv_X12_switches rfl (c_X12_switches (cq X) (cD X) (cY X) (cB X) (d := d) (by omega) (rc_at (rc_self hk0)).2 e4) rfl rfl (by simp [cat_i, cat_l, cat_rf]) dX12_image_58 ?_
    cases h
    exact g_iret o hr hE dX12_image_61
  · have h := (if_neg z).symm.trans h
    refine g_aload_n o dX12_image_34 0 rfl ?_
    refine g_getR o fl_X12_21 (rc_self hk0) (by decide) rfl dX12_image_35 ?_
    refine g_iload_n o dX12_image_38 1 rfl ?_
    refine g_aload_n o dX12_image_39 0 rfl ?_
    refine g_getR o fl_X12_17 (rc_self hk0) (by decide) rfl dX12_image_40 ?_
    refine g_iload_n o dX12_image_43 1 rfl ?_
    obtain ⟨a5, e6, h⟩ := ob h
    refine g_lald o e6 dX12_image_44 ?_
    obtain ⟨a7, e8, h⟩ := ob h
    refine g_last o hz e8  dX12_image_45 ?_
    obtain ⟨M9, e10, h⟩ := bn_at h
    refine g_mem e10 ?_
    refine g_iinc (i := 1) (v := v1 + 1) (ls' := [(1, .int (v1 + 1)), (0, va_rf (some a0))]) o dX12_image_46 1 rfl (by first | rfl | (congr 1)) (ltL hL (by decide)) rfl ?_
    refine g_goto (tgt := 28) o dX12_image_49 (by decide) ?_
    refine gsub [1, 0] rfl ?_
    exact hk28 _ _ h
theorem w_X12_image_28_n {X : Cx} {d n : Nat} {K L : Nat → Nat} {fu : Nat} {a0 : Nat} {r : (Int32 × Mm)} (o : cOk X cX12_image RX12 (d + 1)) (hL : cL X = 2) (hr : (ch X).sig.returnType = some .int) (hz : (cs X).heap.size + 0 = cB X + n) (hk0 : K a0 = 12) (hE : cE X n K L r.2 (some (.int r.1)) 0 0) (hd : 3 ≤ d + 1) : ∀ (g : Nat) (v1 : Int32) (M : Mm), f_X12_image_28 K L fu a0 g v1 M = some r → gW X 0 0 n K L M 28 [(0, va_rf (some a0)), (1, .int v1)] []
  | 0, _, _, h => by cases h
  | g + 1, v1, M, h => w_X12_image_28b o hL hr hz hk0 hE (w_X12_image_28_n o hL hr hz hk0 hE hd g) hd h
theorem w_X12_image_28 {X : Cx} {d n : Nat} {K L : Nat → Nat} {fu : Nat} {a0 : Nat} {r : (Int32 × Mm)} {v1 : Int32} {M : Mm} (o : cOk X cX12_image RX12 (d + 1)) (hL : cL X = 2) (hr : (ch X).sig.returnType = some .int) (hz : (cs X).heap.size + 0 = cB X + n) (hk0 : K a0 = 12) (hE : cE X n K L r.2 (some (.int r.1)) 0 0) (hd : 3 ≤ d + 1) (h : f_X12_image_28 K L fu a0 fu v1 M = some r) : gW X 0 0 n K L M 28 [(0, va_rf (some a0)), (1, .int v1)] [] := w_X12_image_28_n o hL hr hz hk0 hE hd fu v1 M h
def f_X12_image_2b (K L : Nat → Nat) (fu : Nat) (k2 : Int32 → Mm → Option (Int32 × Mm)) (a0 : Nat) (v1 : Int32) (M : Mm) : Option (Int32 × Mm) :=
  if (63040 : Int32) ≤ v1 then
    f_X12_image_28 K L fu a0 fu (0 : Int32) M
  else
    Option.bind (rx K L (mm_R M (32 * 12 + 0) a0) 13 v1) (fun a1 =>
    Option.bind (rx K L (mm_R M (32 * 12 + 1) a0) 13 v1) (fun a3 =>
    bn (ms_A M a3 (upd (mm_A M a3) v1.toNatClampNeg (mm_A M a1 v1.toNatClampNeg))) (fun M5 =>
    k2 (v1 + 1) M5)))
def f_X12_image_2 (K L : Nat → Nat) (fu : Nat) (a0 : Nat) : Nat → Int32 → Mm → Option (Int32 × Mm)
  | 0, _, _ => none
  | g + 1, v1, M => f_X12_image_2b K L fu (f_X12_image_2 K L fu a0 g) a0 v1 M
set_option maxHeartbeats 4000000 in
theorem w_X12_image_2b {X : Cx} {d n : Nat} {K L : Nat → Nat} {fu : Nat} {a0 : Nat} {r : (Int32 × Mm)} {k2 : Int32 → Mm → Option (Int32 × Mm)} {v1 : Int32} {M : Mm} (o : cOk X cX12_image RX12 (d + 1)) (hL : cL X = 2) (hr : (ch X).sig.returnType = some .int) (hz : (cs X).heap.size + 0 = cB X + n) (hk0 : K a0 = 12) (hE : cE X n K L r.2 (some (.int r.1)) 0 0) (hk2 : ∀ (v1 : Int32) (M : Mm), k2 v1 M = some r → gW X 0 0 n K L M 2 [(0, va_rf (some a0)), (1, .int v1)] []) (hd : 3 ≤ d + 1) (h : f_X12_image_2b K L fu k2 a0 v1 M = some r) : gW X 0 0 n K L M 2 [(0, va_rf (some a0)), (1, .int v1)] [] := by
  unfold f_X12_image_2b at h
  refine g_iload_n o dX12_image_2 1 rfl ?_
  refine g_ldc (v := (63040 : Int32)) o kc_X12_7 dX12_image_3 ?_
  refine g_icmp_ge (tgt := 26) o dX12_image_5 (by decide) (fun z => ?_) (fun z => ?_)
  · have h := (if_pos z).symm.trans h
    refine g_iconst (v := (0 : Int32)) o dX12_image_26 (by decide) ?_
    refine g_istore_n (i := 1) (ls' := [(1, .int (0 : Int32)), (0, va_rf (some a0))]) o dX12_image_27 rfl (ltL hL (by decide)) rfl ?_
    refine gsub [1, 0] rfl ?_
    exact w_X12_image_28 o hL hr hz hk0 hE hd h
  · have h := (if_neg z).symm.trans h
    refine g_aload_n o dX12_image_8 0 rfl ?_
    refine g_getR o fl_X12_14 (rc_self hk0) (by decide) rfl dX12_image_9 ?_
    refine g_iload_n o dX12_image_12 1 rfl ?_
    refine g_aload_n o dX12_image_13 0 rfl ?_
    refine g_getR o fl_X12_8 (rc_self hk0) (by decide) rfl dX12_image_14 ?_
    refine g_iload_n o dX12_image_17 1 rfl ?_
    obtain ⟨a1, e2, h⟩ := ob h
    refine g_iald o e2 dX12_image_18 ?_
    obtain ⟨a3, e4, h⟩ := ob h
    refine g_iast o hz e4  dX12_image_19 ?_
    obtain ⟨M5, e6, h⟩ := bn_at h
    refine g_mem e6 ?_
    refine g_iinc (i := 1) (v := v1 + 1) (ls' := [(1, .int (v1 + 1)), (0, va_rf (some a0))]) o dX12_image_20 1 rfl (by first | rfl | (congr 1)) (ltL hL (by decide)) rfl ?_
    refine g_goto (tgt := 2) o dX12_image_23 (by decide) ?_
    refine gsub [1, 0] rfl ?_
    exact hk2 _ _ h
theorem w_X12_image_2_n {X : Cx} {d n : Nat} {K L : Nat → Nat} {fu : Nat} {a0 : Nat} {r : (Int32 × Mm)} (o : cOk X cX12_image RX12 (d + 1)) (hL : cL X = 2) (hr : (ch X).sig.returnType = some .int) (hz : (cs X).heap.size + 0 = cB X + n) (hk0 : K a0 = 12) (hE : cE X n K L r.2 (some (.int r.1)) 0 0) (hd : 3 ≤ d + 1) : ∀ (g : Nat) (v1 : Int32) (M : Mm), f_X12_image_2 K L fu a0 g v1 M = some r → gW X 0 0 n K L M 2 [(0, va_rf (some a0)), (1, .int v1)] []
  | 0, _, _, h => by cases h
  | g + 1, v1, M, h => w_X12_image_2b o hL hr hz hk0 hE (w_X12_image_2_n o hL hr hz hk0 hE hd g) hd h
theorem w_X12_image_2 {X : Cx} {d n : Nat} {K L : Nat → Nat} {fu : Nat} {a0 : Nat} {r : (Int32 × Mm)} {v1 : Int32} {M : Mm} (o : cOk X cX12_image RX12 (d + 1)) (hL : cL X = 2) (hr : (ch X).sig.returnType = some .int) (hz : (cs X).heap.size + 0 = cB X + n) (hk0 : K a0 = 12) (hE : cE X n K L r.2 (some (.int r.1)) 0 0) (hd : 3 ≤ d + 1) (h : f_X12_image_2 K L fu a0 fu v1 M = some r) : gW X 0 0 n K L M 2 [(0, va_rf (some a0)), (1, .int v1)] [] := w_X12_image_2_n o hL hr hz hk0 hE hd fu v1 M h
def f_X12_image (K L : Nat → Nat) (fu : Nat) (a0 : Nat) (M : Mm) : Option (Int32 × Mm) :=
  f_X12_image_2 K L fu a0 fu (0 : Int32) M
set_option maxHeartbeats 4000000 in
theorem w_X12_image_0 {X : Cx} {d n : Nat} {K L : Nat → Nat} {fu : Nat} {a0 : Nat} {r : (Int32 × Mm)} {M : Mm} (o : cOk X cX12_image RX12 (d + 1)) (hL : cL X = 2) (hr : (ch X).sig.returnType = some .int) (hz : (cs X).heap.size + 0 = cB X + n) (hk0 : K a0 = 12) (hE : cE X n K L r.2 (some (.int r.1)) 0 0) (hd : 3 ≤ d + 1) (h : f_X12_image K L fu a0  M = some r) : gW X 0 0 n K L M 0 [(0, va_rf (some a0))] [] := by
  unfold f_X12_image at h
  refine g_iconst (v := (0 : Int32)) o dX12_image_0 (by decide) ?_
  refine g_istore_n (i := 1) (ls' := [(1, .int (0 : Int32)), (0, va_rf (some a0))]) o dX12_image_1 rfl (ltL hL (by decide)) rfl ?_
  refine gsub [1, 0] rfl ?_
  exact w_X12_image_2 o hL hr hz hk0 hE hd h
theorem c_X12_image (l : Launch) (D : va_G) (Y : Nat → ClassId) (B : Nat) {d : Nat} {n : Nat} {K L : Nat → Nat} {fu : Nat} {M : Mm} {a0 : Nat} {r : (Int32 × Mm)} (hd : 3 ≤ d) (hk0 : K a0 = 12) (h : f_X12_image K L fu a0  M = some r) : mC l D Y B d yX12_image cX12_image 2 (some .int) [va_rf (some a0)] n K L M n K L r.2 (some (.int r.1)) 0 0 := by
  obtain ⟨d, rfl⟩ : ∃ e, d = e + 1 := ⟨d - 1, by omega⟩
  refine mk_met (by decide) (by simp [lgs_r, lgs_i, lgs_l, lgs_n]) (fun X e1 e2 e3 e4 o hL hr hnm hz hc hs hE => ?_)
  subst e1 e2 e3 e4
  rw [show lv_args 0 [va_rf (some a0)] = [(0, va_rf (some a0))] by simp [lva_r, lva_i, lva_l, lva_n]]
  exact w_X12_image_0 o hL hr hz hk0 hE hd h
def f_X12_restore_42b (K L : Nat → Nat) (fu : Nat) (k42 : Int32 → Mm → Option (Int32 × Mm)) (a0 : Nat) (v1 : Int32) (M : Mm) : Option (Int32 × Mm) :=
  if (16 : Int32) ≤ v1 then
    Option.bind (f_X12_switches K L fu M a0) (fun x1 =>
    some (x1, M))
  else
    Option.bind (rx K L (mm_R M (32 * 12 + 3) a0) 14 v1) (fun a3 =>
    Option.bind (rx K L (mm_R M (32 * 12 + 2) a0) 14 v1) (fun a5 =>
    bn (ms_B M a5 (vp_updL (mm_B M a5) v1.toNatClampNeg (mm_B M a3 v1.toNatClampNeg))) (fun M7 =>
    k42 (v1 + 1) M7)))
def f_X12_restore_42 (K L : Nat → Nat) (fu : Nat) (a0 : Nat) : Nat → Int32 → Mm → Option (Int32 × Mm)
  | 0, _, _ => none
  | g + 1, v1, M => f_X12_restore_42b K L fu (f_X12_restore_42 K L fu a0 g) a0 v1 M
set_option maxHeartbeats 4000000 in
theorem w_X12_restore_42b {X : Cx} {d n : Nat} {K L : Nat → Nat} {fu : Nat} {a0 : Nat} {r : (Int32 × Mm)} {k42 : Int32 → Mm → Option (Int32 × Mm)} {v1 : Int32} {M : Mm} (o : cOk X cX12_restore RX12 (d + 1)) (hL : cL X = 2) (hr : (ch X).sig.returnType = some .int) (hz : (cs X).heap.size + 0 = cB X + n) (hk0 : K a0 = 12) (hE : cE X n K L r.2 (some (.int r.1)) 0 0) (hk42 : ∀ (v1 : Int32) (M : Mm), k42 v1 M = some r → gW X 0 0 n K L M 42 [(0, va_rf (some a0)), (1, .int v1)] []) (hd : 3 ≤ d + 1) (h : f_X12_restore_42b K L fu k42 a0 v1 M = some r) : gW X 0 0 n K L M 42 [(0, va_rf (some a0)), (1, .int v1)] [] := by
  unfold f_X12_restore_42b at h
  refine g_iload_n o dX12_restore_42 1 rfl ?_
  refine g_bipush (v := (16 : Int32)) o dX12_restore_43 (by decide) ?_
  refine g_icmp_ge (tgt := 66) o dX12_restore_45 (by decide) (fun z => ?_) (fun z => ?_)
  · have h := (if_pos z).symm.trans h
    refine g_aload_n o dX12_restore_66 0 rfl ?_
    obtain ⟨x1, e2, h⟩ := ob h
    refine g_invV0 o (rc_self hk0) (by decide) ml_X12_268 kb_X12_switches kv_X12_switches rfl (c_X12_switches (cq X) (cD X) (cY X) (cB X) (d := d) (by omega) (rc_at (rc_self hk0)).2 e2) rfl rfl (by simp [cat_i, cat_l, cat_rf]) dX12_restore_67 ?_
    cases h
    exact g_iret o hr hE dX12_restore_70
  · have h := (if_neg z).symm.trans h
    refine g_aload_n o dX12_restore_48 0 rfl ?_
    refine g_getR o fl_X12_17 (rc_self hk0) (by decide) rfl dX12_restore_49 ?_
    refine g_iload_n o dX12_restore_52 1 rfl ?_
    refine g_aload_n o dX12_restore_53 0 rfl ?_
    refine g_getR o fl_X12_21 (rc_self hk0) (by decide) rfl dX12_restore_54 ?_
    refine g_iload_n o dX12_restore_57 1 rfl ?_
    obtain ⟨a3, e4, h⟩ := ob h
    refine g_lald o e4 dX12_restore_58 ?_
    obtain ⟨a5, e6, h⟩ := ob h
    refine g_last o hz e6  dX12_restore_59 ?_
    obtain ⟨M7, e8, h⟩ := bn_at h
    refine g_mem e8 ?_
    refine g_iinc (i := 1) (v := v1 + 1) (ls' := [(1, .int (v1 + 1)), (0, va_rf (some a0))]) o dX12_restore_60 1 rfl (by first | rfl | (congr 1)) (ltL hL (by decide)) rfl ?_
    refine g_goto (tgt := 42) o dX12_restore_63 (by decide) ?_
    refine gsub [1, 0] rfl ?_
    exact hk42 _ _ h
theorem w_X12_restore_42_n {X : Cx} {d n : Nat} {K L : Nat → Nat} {fu : Nat} {a0 : Nat} {r : (Int32 × Mm)} (o : cOk X cX12_restore RX12 (d + 1)) (hL : cL X = 2) (hr : (ch X).sig.returnType = some .int) (hz : (cs X).heap.size + 0 = cB X + n) (hk0 : K a0 = 12) (hE : cE X n K L r.2 (some (.int r.1)) 0 0) (hd : 3 ≤ d + 1) : ∀ (g : Nat) (v1 : Int32) (M : Mm), f_X12_restore_42 K L fu a0 g v1 M = some r → gW X 0 0 n K L M 42 [(0, va_rf (some a0)), (1, .int v1)] []
  | 0, _, _, h => by cases h
  | g + 1, v1, M, h => w_X12_restore_42b o hL hr hz hk0 hE (w_X12_restore_42_n o hL hr hz hk0 hE hd g) hd h
theorem w_X12_restore_42 {X : Cx} {d n : Nat} {K L : Nat → Nat} {fu : Nat} {a0 : Nat} {r : (Int32 × Mm)} {v1 : Int32} {M : Mm} (o : cOk X cX12_restore RX12 (d + 1)) (hL : cL X = 2) (hr : (ch X).sig.returnType = some .int) (hz : (cs X).heap.size + 0 = cB X + n) (hk0 : K a0 = 12) (hE : cE X n K L r.2 (some (.int r.1)) 0 0) (hd : 3 ≤ d + 1) (h : f_X12_restore_42 K L fu a0 fu v1 M = some r) : gW X 0 0 n K L M 42 [(0, va_rf (some a0)), (1, .int v1)] [] := w_X12_restore_42_n o hL hr hz hk0 hE hd fu v1 M h
def f_X12_restore_16b (K L : Nat → Nat) (fu : Nat) (k16 : Int32 → Mm → Option (Int32 × Mm)) (a0 : Nat) (v1 : Int32) (M : Mm) : Option (Int32 × Mm) :=
  if (63040 : Int32) ≤ v1 then
    f_X12_restore_42 K L fu a0 fu (0 : Int32) M
  else
    Option.bind (rx K L (mm_R M (32 * 12 + 1) a0) 13 v1) (fun a1 =>
    Option.bind (rx K L (mm_R M (32 * 12 + 0) a0) 13 v1) (fun a3 =>
    bn (ms_A M a3 (upd (mm_A M a3) v1.toNatClampNeg (mm_A M a1 v1.toNatClampNeg))) (fun M5 =>
    k16 (v1 + 1) M5)))
def f_X12_restore_16 (K L : Nat → Nat) (fu : Nat) (a0 : Nat) : Nat → Int32 → Mm → Option (Int32 × Mm)
  | 0, _, _ => none
  | g + 1, v1, M => f_X12_restore_16b K L fu (f_X12_restore_16 K L fu a0 g) a0 v1 M
set_option maxHeartbeats 4000000 in
theorem w_X12_restore_16b {X : Cx} {d n : Nat} {K L : Nat → Nat} {fu : Nat} {a0 : Nat} {r : (Int32 × Mm)} {k16 : Int32 → Mm → Option (Int32 × Mm)} {v1 : Int32} {M : Mm} (o : cOk X cX12_restore RX12 (d + 1)) (hL : cL X = 2) (hr : (ch X).sig.returnType = some .int) (hz : (cs X).heap.size + 0 = cB X + n) (hk0 : K a0 = 12) (hE : cE X n K L r.2 (some (.int r.1)) 0 0) (hk16 : ∀ (v1 : Int32) (M : Mm), k16 v1 M = some r → gW X 0 0 n K L M 16 [(0, va_rf (some a0)), (1, .int v1)] []) (hd : 3 ≤ d + 1) (h : f_X12_restore_16b K L fu k16 a0 v1 M = some r) : gW X 0 0 n K L M 16 [(0, va_rf (some a0)), (1, .int v1)] [] := by
  unfold f_X12_restore_16b at h
  refine g_iload_n o dX12_restore_16 1 rfl ?_
  refine g_ldc (v := (63040 : Int32)) o kc_X12_7 dX12_restore_17 ?_
  refine g_icmp_ge (tgt := 40) o dX12_restore_19 (by decide) (fun z => ?_) (fun z => ?_)
  · have h := (if_pos z).symm.trans h
    refine g_iconst (v := (0 : Int32)) o dX12_restore_40 (by decide) ?_
    refine g_istore_n (i := 1) (ls' := [(1, .int (0 : Int32)), (0, va_rf (some a0))]) o dX12_restore_41 rfl (ltL hL (by decide)) rfl ?_
    refine gsub [1, 0] rfl ?_
    exact w_X12_restore_42 o hL hr hz hk0 hE hd h
  · have h := (if_neg z).symm.trans h
    refine g_aload_n o dX12_restore_22 0 rfl ?_
    refine g_getR o fl_X12_8 (rc_self hk0) (by decide) rfl dX12_restore_23 ?_
    refine g_iload_n o dX12_restore_26 1 rfl ?_
    refine g_aload_n o dX12_restore_27 0 rfl ?_
    refine g_getR o fl_X12_14 (rc_self hk0) (by decide) rfl dX12_restore_28 ?_
    refine g_iload_n o dX12_restore_31 1 rfl ?_
    obtain ⟨a1, e2, h⟩ := ob h
    refine g_iald o e2 dX12_restore_32 ?_
    obtain ⟨a3, e4, h⟩ := ob h
    refine g_iast o hz e4  dX12_restore_33 ?_
    obtain ⟨M5, e6, h⟩ := bn_at h
    refine g_mem e6 ?_
    refine g_iinc (i := 1) (v := v1 + 1) (ls' := [(1, .int (v1 + 1)), (0, va_rf (some a0))]) o dX12_restore_34 1 rfl (by first | rfl | (congr 1)) (ltL hL (by decide)) rfl ?_
    refine g_goto (tgt := 16) o dX12_restore_37 (by decide) ?_
    refine gsub [1, 0] rfl ?_
    exact hk16 _ _ h
theorem w_X12_restore_16_n {X : Cx} {d n : Nat} {K L : Nat → Nat} {fu : Nat} {a0 : Nat} {r : (Int32 × Mm)} (o : cOk X cX12_restore RX12 (d + 1)) (hL : cL X = 2) (hr : (ch X).sig.returnType = some .int) (hz : (cs X).heap.size + 0 = cB X + n) (hk0 : K a0 = 12) (hE : cE X n K L r.2 (some (.int r.1)) 0 0) (hd : 3 ≤ d + 1) : ∀ (g : Nat) (v1 : Int32) (M : Mm), f_X12_restore_16 K L fu a0 g v1 M = some r → gW X 0 0 n K L M 16 [(0, va_rf (some a0)), (1, .int v1)] []
  | 0, _, _, h => by cases h
  | g + 1, v1, M, h => w_X12_restore_16b o hL hr hz hk0 hE (w_X12_restore_16_n o hL hr hz hk0 hE hd g) hd h
theorem w_X12_restore_16 {X : Cx} {d n : Nat} {K L : Nat → Nat} {fu : Nat} {a0 : Nat} {r : (Int32 × Mm)} {v1 : Int32} {M : Mm} (o : cOk X cX12_restore RX12 (d + 1)) (hL : cL X = 2) (hr : (ch X).sig.returnType = some .int) (hz : (cs X).heap.size + 0 = cB X + n) (hk0 : K a0 = 12) (hE : cE X n K L r.2 (some (.int r.1)) 0 0) (hd : 3 ≤ d + 1) (h : f_X12_restore_16 K L fu a0 fu v1 M = some r) : gW X 0 0 n K L M 16 [(0, va_rf (some a0)), (1, .int v1)] [] := w_X12_restore_16_n o hL hr hz hk0 hE hd fu v1 M h
def f_X12_restore (K L : Nat → Nat) (fu : Nat) (a0 : Nat) (M : Mm) : Option (Int32 × Mm) :=
  if (mm_I M (32 * 12 + 4) a0) = 0 then
    Option.bind (f_X12_no K L a0 (-2 : Int32) M) (fun x1 =>
    some (x1.1, x1.2))
  else
    f_X12_restore_16 K L fu a0 fu (0 : Int32) M
set_option maxHeartbeats 4000000 in
theorem w_X12_restore_0 {X : Cx} {d n : Nat} {K L : Nat → Nat} {fu : Nat} {a0 : Nat} {r : (Int32 × Mm)} {M : Mm} (o : cOk X cX12_restore RX12 (d + 1)) (hL : cL X = 2) (hr : (ch X).sig.returnType = some .int) (hz : (cs X).heap.size + 0 = cB X + n) (hk0 : K a0 = 12) (hE : cE X n K L r.2 (some (.int r.1)) 0 0) (hd : 3 ≤ d + 1) (h : f_X12_restore K L fu a0  M = some r) : gW X 0 0 n K L M 0 [(0, va_rf (some a0))] [] := by
  unfold f_X12_restore at h
  refine g_aload_n o dX12_restore_0 0 rfl ?_
  refine g_getI o fl_X12_265 (rc_self hk0) (by decide) rfl dX12_restore_1 ?_
  refine g_if_ne (tgt := 14) o dX12_restore_4 (by decide) (fun z => ?_) (fun z => ?_)
  · have h := (if_neg z).symm.trans h
    refine g_iconst (v := (0 : Int32)) o dX12_restore_14 (by decide) ?_
    refine g_istore_n (i := 1) (ls' := [(1, .int (0 : Int32)), (0, va_rf (some a0))]) o dX12_restore_15 rfl (ltL hL (by decide)) rfl ?_
    refine gsub [1, 0] rfl ?_
    exact w_X12_restore_16 o hL hr hz hk0 hE hd h
  · have h := (if_pos z).symm.trans h
    refine g_aload_n o dX12_restore_7 0 rfl ?_
    refine g_bipush (v := (-2 : Int32)) o dX12_restore_8 (by decide) ?_
    obtain ⟨x1, e2, h⟩ := ob h
    refine g_invV0 o (rc_self hk0) (by decide) ml_X12_72 kb_X12_no kv_X12_no rfl (c_X12_no (cq X) (cD X) (cY X) (cB X) (d := d) (by omega) (rc_at (rc_self hk0)).2 e2) rfl rfl (by simp [cat_i, cat_l, cat_rf]) dX12_restore_10 ?_
    cases h
    exact g_iret o hr hE dX12_restore_13
theorem c_X12_restore (l : Launch) (D : va_G) (Y : Nat → ClassId) (B : Nat) {d : Nat} {n : Nat} {K L : Nat → Nat} {fu : Nat} {M : Mm} {a0 : Nat} {r : (Int32 × Mm)} (hd : 3 ≤ d) (hk0 : K a0 = 12) (h : f_X12_restore K L fu a0  M = some r) : mC l D Y B d yX12_restore cX12_restore 2 (some .int) [va_rf (some a0)] n K L M n K L r.2 (some (.int r.1)) 0 0 := by
  obtain ⟨d, rfl⟩ : ∃ e, d = e + 1 := ⟨d - 1, by omega⟩
  refine mk_met (by decide) (by simp [lgs_r, lgs_i, lgs_l, lgs_n]) (fun X e1 e2 e3 e4 o hL hr hnm hz hc hs hE => ?_)
  subst e1 e2 e3 e4
  rw [show lv_args 0 [va_rf (some a0)] = [(0, va_rf (some a0))] by simp [lva_r, lva_i, lva_l, lva_n]]
  exact w_X12_restore_0 o hL hr hz hk0 hE hd h
def f_X12_status (K L : Nat → Nat) (a0 : Nat) (v1 : Int32) (M : Mm) : Option (Int32 × Mm) :=
  Option.bind (f_X12_isIn (v1.toInt64) (-13 : Int64) (-2 : Int64)) (fun x1 =>
  if x1 = 0 then
    Option.bind (f_X12_no K L a0 (-12 : Int32) M) (fun x3 =>
    some (x3.1, x3.2))
  else
    Option.bind (rx K L (mm_R M (32 * 12 + 5) a0) 13 (-v1)) (fun a5 =>
    some (mm_A M a5 (-v1).toNatClampNeg, M)))
set_option maxHeartbeats 4000000 in
theorem w_X12_status_0 {X : Cx} {d n : Nat} {K L : Nat → Nat} {a0 : Nat} {r : (Int32 × Mm)} {v1 : Int32} {M : Mm} (o : cOk X cX12_status RX12 (d + 1)) (hL : cL X = 2) (hr : (ch X).sig.returnType = some .int) (hz : (cs X).heap.size + 0 = cB X + n) (hk0 : K a0 = 12) (hE : cE X n K L r.2 (some (.int r.1)) 0 0) (hd : 1 ≤ d + 1) (h : f_X12_status K L a0 v1 M = some r) : gW X 0 0 n K L M 0 [(0, va_rf (some a0)), (1, .int v1)] [] := by
  unfold f_X12_status at h
  refine g_iload_n o dX12_status_0 1 rfl ?_
  refine g_i2l o dX12_status_1 ?_
  refine g_ldc2 (v := (-13 : Int64)) o kc_X12_271 dX12_status_2 ?_
  refine g_ldc2 (v := (-2 : Int64)) o kc_X12_273 dX12_status_5 ?_
  obtain ⟨x1, e2, h⟩ := ob h
  refine g_invS0 o ml_X12_62 kb_X12_isIn ks_X12_isIn (c_X12_isIn (cq X) (cD X) (cY X) (cB X) (d := d) (by omega) e2) rfl rfl (by simp [cat_i, cat_l, cat_rf]) dX12_status_8 ?_
  refine g_if_eq (tgt := 24) o dX12_status_11 (by decide) (fun z => ?_) (fun z => ?_)
  · have h := (if_pos z).symm.trans h
    refine g_aload_n o dX12_status_24 0 rfl ?_
    refine g_bipush (v := (-12 : Int32)) o dX12_status_25 (by decide) ?_
    obtain ⟨x3, e4, h⟩ := ob h
    refine g_invV0 o (rc_self hk0) (by decide) ml_X12_72 kb_X12_no kv_X12_no rfl (c_X12_no (cq X) (cD X) (cY X) (cB X) (d := d) (by omega) (rc_at (rc_self hk0)).2 e4) rfl rfl (by simp [cat_i, cat_l, cat_rf]) dX12_status_27 ?_
    cases h
    exact g_iret o hr hE dX12_status_30
  · have h := (if_neg z).symm.trans h
    refine g_aload_n o dX12_status_14 0 rfl ?_
    refine g_getR o fl_X12_24 (rc_self hk0) (by decide) rfl dX12_status_15 ?_
    refine g_iload_n o dX12_status_18 1 rfl ?_
    refine g_ineg o dX12_status_19 ?_
    obtain ⟨a5, e6, h⟩ := ob h
    refine g_iald o e6 dX12_status_20 ?_
    refine g_goto (tgt := 30) o dX12_status_21 (by decide) ?_
    cases h
    exact g_iret o hr hE dX12_status_30
theorem c_X12_status (l : Launch) (D : va_G) (Y : Nat → ClassId) (B : Nat) {d : Nat} {n : Nat} {K L : Nat → Nat} {M : Mm} {a0 : Nat} {v1 : Int32} {r : (Int32 × Mm)} (hd : 1 ≤ d) (hk0 : K a0 = 12) (h : f_X12_status K L a0 v1 M = some r) : mC l D Y B d yX12_status cX12_status 2 (some .int) [va_rf (some a0), .int v1] n K L M n K L r.2 (some (.int r.1)) 0 0 := by
  obtain ⟨d, rfl⟩ : ∃ e, d = e + 1 := ⟨d - 1, by omega⟩
  refine mk_met (by decide) (by simp [lgs_r, lgs_i, lgs_l, lgs_n]) (fun X e1 e2 e3 e4 o hL hr hnm hz hc hs hE => ?_)
  subst e1 e2 e3 e4
  rw [show lv_args 0 [va_rf (some a0), .int v1] = [(0, va_rf (some a0)), (1, .int v1)] by simp [lva_r, lva_i, lva_l, lva_n]]
  exact w_X12_status_0 o hL hr hz hk0 hE hd h
