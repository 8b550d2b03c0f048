/-! methods: X12_isMinute X12_grow X12_goesTo X12_back X12_stands X12_budget X12_waits X12_isWay X12_whyCounts X12_count X12_goods X12_counts X12_told X12_left X12_trial -/
def f_X12_isMinute  (v0 : Int32) : Option Int32 :=
  if v0 < 0 then
    some (0 : Int32)
  else
    if (240 : Int32) ≤ v0 then
      some (0 : Int32)
    else
      some (1 : Int32)
set_option maxHeartbeats 4000000 in
theorem w_X12_isMinute_0 {X : Cx} {d n : Nat} {K L : Nat → Nat} {M : Mm} {r : Int32} {v0 : Int32} (o : cOk X cX12_isMinute RX12 d) (hL : cL X = 1) (hr : (ch X).sig.returnType = some .boolean) (hE : cE X n K L M (some (.int r)) 0 0) (h : f_X12_isMinute  v0 = some r) : gW X 0 0 n K L M 0 [(0, .int v0)] [] := by
  unfold f_X12_isMinute at h
  refine g_iload_n o dX12_isMinute_0 0 rfl ?_
  refine g_if_lt (tgt := 15) o dX12_isMinute_1 (by decide) (fun z => ?_) (fun z => ?_)
  · have h := (if_pos z).symm.trans h
    refine g_iconst (v := (0 : Int32)) o dX12_isMinute_15 (by decide) ?_
    cases h
    exact g_zret o hr (by decide) hE dX12_isMinute_16
  · have h := (if_neg z).symm.trans h
    refine g_iload_n o dX12_isMinute_4 0 rfl ?_
    refine g_sipush (v := (240 : Int32)) o dX12_isMinute_5 (by decide) ?_
    refine g_icmp_ge (tgt := 15) o dX12_isMinute_8 (by decide) (fun z => ?_) (fun z => ?_)
    · have h := (if_pos z).symm.trans h
      refine g_iconst (v := (0 : Int32)) o dX12_isMinute_15 (by decide) ?_
      cases h
      exact g_zret o hr (by decide) hE dX12_isMinute_16
    · have h := (if_neg z).symm.trans h
      refine g_iconst (v := (1 : Int32)) o dX12_isMinute_11 (by decide) ?_
      refine g_goto (tgt := 16) o dX12_isMinute_12 (by decide) ?_
      cases h
      exact g_zret o hr (by decide) hE dX12_isMinute_16
theorem c_X12_isMinute (l : Launch) (D : va_G) (Y : Nat → ClassId) (B : Nat) {d : Nat} {n : Nat} {K L : Nat → Nat} {M : Mm} {v0 : Int32} {r : Int32} (hd : 0 ≤ d) (h : f_X12_isMinute  v0 = some r) : mC l D Y B d yX12_isMinute cX12_isMinute 1 (some .boolean) [.int v0] n K L M n K L M (some (.int r)) 0 0 := by
  refine mk_met (by decide) (by simp [lgs_r, lgs_i, lgs_l, lgs_n]) (fun X e1 e2 e3 e4 o hL hr hnm hz hc hs hE => ?_)
  subst e1 e2 e3 e4
  rw [show lv_args 0 [.int v0] = [(0, .int v0)] by simp [lva_r, lva_i, lva_l, lva_n]]
  exact w_X12_isMinute_0 o hL hr hE h
def f_X12_grow_73 (K L : Nat → Nat) (fu : Nat) (a0 : Nat) (v1 : Int32) (v3 : Int32) (M : Mm) : Option (Int32 × Mm) :=
  if v3 = 0 then
    Option.bind (f_X12_of K L M a0 v1 (69 : Int32)) (fun x1 =>
    Option.bind (f_X12_to K L a0 v1 (69 : Int32) (x1 + (1 : Int32)) M) (fun x3 =>
    Option.bind (f_X12_of K L x3 a0 v1 (69 : Int32)) (fun x5 =>
    Option.bind (f_X12_of K L x3 a0 v1 ((49 : Int32) + x5)) (fun x7 =>
    Option.bind (f_X12_to K L a0 v1 (37 : Int32) x7 x3) (fun x9 =>
    Option.bind (f_X12_of K L x9 a0 v1 (37 : Int32)) (fun x11 =>
    some (x11, x9)))))))
  else
    Option.bind (f_X12_no K L a0 v3 M) (fun x13 =>
    some (x13.1, x13.2))
set_option maxHeartbeats 4000000 in
theorem w_X12_grow_73 {X : Cx} {d n : Nat} {K L : Nat → Nat} {fu : Nat} {a0 : Nat} {r : (Int32 × Mm)} {v1 : Int32} {v3 : Int32} {M : Mm} (o : cOk X cX12_grow RX12 (d + 1)) (hL : cL X = 4) (hr : (ch X).sig.returnType = some .int) (hz : (cs X).heap.size + 0 = cB X + n) (hk0 : K a0 = 12) (hE : cE X n K L r.2 (some (.int r.1)) 0 0) (hd : 4 ≤ d + 1) (h : f_X12_grow_73 K L fu a0 v1 v3 M = some r) : gW X 0 0 n K L M 73 [(0, va_rf (some a0)), (1, .int v1), (3, .int v3)] [] := by
  unfold f_X12_grow_73 at h
  refine g_iload_n o dX12_grow_73 2 rfl ?_
  refine g_if_eq (tgt := 83) o dX12_grow_74 (by decide) (fun z => ?_) (fun z => ?_)
  · have h := (if_pos z).symm.trans h
    refine g_aload_n o dX12_grow_83 0 rfl ?_
    refine g_iload_n o dX12_grow_84 1 rfl ?_
    refine g_bipush (v := (69 : Int32)) o dX12_grow_85 (by decide) ?_
    refine g_aload_n o dX12_grow_87 0 rfl ?_
    refine g_iload_n o dX12_grow_88 1 rfl ?_
    refine g_bipush (v := (69 : Int32)) o dX12_grow_89 (by decide) ?_
    obtain ⟨x1, e2, h⟩ := ob h
    refine g_invV0 o (rc_self hk0) (by decide) ml_X12_43 kb_X12_of kv_X12_of rfl (c_X12_of (cq X) (cD X) (cY X) (cB X) (d := d) (by omega) (rc_at (rc_self hk0)).2 e2) rfl rfl (by simp [cat_i, cat_l, cat_rf]) dX12_grow_91 ?_
    refine g_iconst (v := (1 : Int32)) o dX12_grow_94 (by decide) ?_
    refine g_iadd o dX12_grow_95 ?_
    obtain ⟨x3, e4, h⟩ := ob h
    refine g_invV0 o (rc_self hk0) (by decide) ml_X12_125 kb_X12_to kv_X12_to rfl (c_X12_to (cq X) (cD X) (cY X) (cB X) (d := d) (by omega) (rc_at (rc_self hk0)).2 e4) rfl rfl (by simp [cat_i, cat_l, cat_rf]) dX12_grow_96 ?_
    refine g_aload_n o dX12_grow_99 0 rfl ?_
    refine g_iload_n o dX12_grow_100 1 rfl ?_
    refine g_bipush (v := (37 : Int32)) o dX12_grow_101 (by decide) ?_
    refine g_aload_n o dX12_grow_103 0 rfl ?_
    refine g_iload_n o dX12_grow_104 1 rfl ?_
    refine g_bipush (v := (49 : Int32)) o dX12_grow_105 (by decide) ?_
    refine g_aload_n o dX12_grow_107 0 rfl ?_
    refine g_iload_n o dX12_grow_108 1 rfl ?_
    refine g_bipush (v := (69 : Int32)) o dX12_grow_109 (by decide) ?_
    obtain ⟨x5, e6, h⟩ := ob h
    refine g_invV0 o (rc_self hk0) (by decide) ml_X12_43 kb_X12_of kv_X12_of rfl (c_X12_of (cq X) (cD X) (cY X) (cB X) (d := d) (by omega) (rc_at (rc_self hk0)).2 e6) rfl rfl (by simp [cat_i, cat_l, cat_rf]) dX12_grow_111 ?_
    refine g_iadd o dX12_grow_114 ?_
    obtain ⟨x7, e8, h⟩ := ob h
    refine g_invV0 o (rc_self hk0) (by decide) ml_X12_43 kb_X12_of kv_X12_of rfl (c_X12_of (cq X) (cD X) (cY X) (cB X) (d := d) (by omega) (rc_at (rc_self hk0)).2 e8) rfl rfl (by simp [cat_i, cat_l, cat_rf]) dX12_grow_115 ?_
    obtain ⟨x9, e10, h⟩ := ob h
    refine g_invV0 o (rc_self hk0) (by decide) ml_X12_125 kb_X12_to kv_X12_to rfl (c_X12_to (cq X) (cD X) (cY X) (cB X) (d := d) (by omega) (rc_at (rc_self hk0)).2 e10) rfl rfl (by simp [cat_i, cat_l, cat_rf]) dX12_grow_118 ?_
    refine g_aload_n o dX12_grow_121 0 rfl ?_
    refine g_iload_n o dX12_grow_122 1 rfl ?_
    refine g_bipush (v := (37 : Int32)) o dX12_grow_123 (by decide) ?_
    obtain ⟨x11, e12, h⟩ := ob h
    refine g_invV0 o (rc_self hk0) (by decide) ml_X12_43 kb_X12_of kv_X12_of rfl (c_X12_of (cq X) (cD X) (cY X) (cB X) (d := d) (by omega) (rc_at (rc_self hk0)).2 e12) rfl rfl (by simp [cat_i, cat_l, cat_rf]) dX12_grow_125 ?_
    cases h
    exact g_iret o hr hE dX12_grow_128
  · have h := (if_neg z).symm.trans h
    refine g_aload_n o dX12_grow_77 0 rfl ?_
    refine g_iload_n o dX12_grow_78 2 rfl ?_
    obtain ⟨x13, e14, h⟩ := ob h
    refine g_invV0 o (rc_self hk0) (by decide) ml_X12_72 kb_X12_no kv_X12_no rfl (c_X12_no (cq X) (cD X) (cY X) (cB X) (d := d) (by omega) (rc_at (rc_self hk0)).2 e14) rfl rfl (by simp [cat_i, cat_l, cat_rf]) dX12_grow_79 ?_
    cases h
    exact g_iret o hr hE dX12_grow_82
def f_X12_grow_62 (K L : Nat → Nat) (fu : Nat) (a0 : Nat) (v1 : Int32) (v2 : Int32) (v3 : Int32) (M : Mm) : Option (Int32 × Mm) :=
  if v3 = 0 then
    Option.bind (f_X12_whyNoGrowth K L fu a0 v1 v2 M) (fun x1 =>
    bn (x1.1) (fun x3 =>
    f_X12_grow_73 K L fu a0 v1 x3 (x1.2)))
  else
    f_X12_grow_73 K L fu a0 v1 v3 M
set_option maxHeartbeats 4000000 in
theorem w_X12_grow_62 {X : Cx} {d n : Nat} {K L : Nat → Nat} {fu : Nat} {a0 : Nat} {r : (Int32 × Mm)} {v1 : Int32} {v2 : Int32} {v3 : Int32} {M : Mm} (o : cOk X cX12_grow RX12 (d + 1)) (hL : cL X = 4) (hr : (ch X).sig.returnType = some .int) (hz : (cs X).heap.size + 0 = cB X + n) (hk0 : K a0 = 12) (hE : cE X n K L r.2 (some (.int r.1)) 0 0) (hd : 4 ≤ d + 1) (h : f_X12_grow_62 K L fu a0 v1 v2 v3 M = some r) : gW X 0 0 n K L M 62 [(0, va_rf (some a0)), (1, .int v1), (2, .int v2), (3, .int v3)] [] := by
  unfold f_X12_grow_62 at h
  refine g_iload_n o dX12_grow_62 3 rfl ?_
  refine g_if_ne (tgt := 73) o dX12_grow_63 (by decide) (fun z => ?_) (fun z => ?_)
  · have h := (if_neg z).symm.trans h
    refine gsub [0, 1, 3] rfl ?_
    exact w_X12_grow_73 o hL hr hz hk0 hE hd h
  · have h := (if_pos z).symm.trans h
    refine g_aload_n o dX12_grow_66 0 rfl ?_
    refine g_iload_n o dX12_grow_67 1 rfl ?_
    refine g_iload_n o dX12_grow_68 2 rfl ?_
    obtain ⟨x1, e2, h⟩ := ob h
    refine g_invV0 o (rc_self hk0) (by decide) ml_X12_191 kb_X12_whyNoGrowth kv_X12_whyNoGrowth rfl (c_X12_whyNoGrowth (cq X) (cD X) (cY X) (cB X) (d := d) (by omega) (rc_at (rc_self hk0)).2 e2) rfl rfl (by simp [cat_i, cat_l, cat_rf]) dX12_grow_69 ?_
    obtain ⟨x3, e4, h⟩ := bn_at h
    refine g_topI e4 ?_
    refine g_istore_n (i := 3) (ls' := [(3, .int x3), (0, va_rf (some a0)), (1, .int v1), (2, .int v2)]) o dX12_grow_72 rfl (ltL hL (by decide)) rfl ?_
    refine gsub [1, 2, 0] rfl ?_
    exact w_X12_grow_73 o hL hr hz hk0 hE hd h
def f_X12_grow_36 (K L : Nat → Nat) (fu : Nat) (a0 : Nat) (v1 : Int32) (v2 : Int32) (v3 : Int32) (M : Mm) : Option (Int32 × Mm) :=
  if v3 = 0 then
    Option.bind (f_X12_of K L M a0 v1 (69 : Int32)) (fun x1 =>
    Option.bind (f_X12_of K L M a0 v1 (48 : Int32)) (fun x3 =>
    if (x1 + (1 : Int32)) < x3 then
      f_X12_grow_62 K L fu a0 v1 v2 v3 M
    else
      f_X12_grow_62 K L fu a0 v1 v2 (-3 : Int32) M))
  else
    f_X12_grow_62 K L fu a0 v1 v2 v3 M
set_option maxHeartbeats 4000000 in
theorem w_X12_grow_36 {X : Cx} {d n : Nat} {K L : Nat → Nat} {fu : Nat} {a0 : Nat} {r : (Int32 × Mm)} {v1 : Int32} {v2 : Int32} {v3 : Int32} {M : Mm} (o : cOk X cX12_grow RX12 (d + 1)) (hL : cL X = 4) (hr : (ch X).sig.returnType = some .int) (hz : (cs X).heap.size + 0 = cB X + n) (hk0 : K a0 = 12) (hE : cE X n K L r.2 (some (.int r.1)) 0 0) (hd : 4 ≤ d + 1) (h : f_X12_grow_36 K L fu a0 v1 v2 v3 M = some r) : gW X 0 0 n K L M 36 [(0, va_rf (some a0)), (1, .int v1), (2, .int v2), (3, .int v3)] [] := by
  unfold f_X12_grow_36 at h
  refine g_iload_n o dX12_grow_36 3 rfl ?_
  refine g_if_ne (tgt := 62) o dX12_grow_37 (by decide) (fun z => ?_) (fun z => ?_)
  · have h := (if_neg z).symm.trans h
    exact w_X12_grow_62 o hL hr hz hk0 hE hd h
  · have h := (if_pos z).symm.trans h
    refine g_aload_n o dX12_grow_40 0 rfl ?_
    refine g_iload_n o dX12_grow_41 1 rfl ?_
    refine g_bipush (v := (69 : Int32)) o dX12_grow_42 (by decide) ?_
    obtain ⟨x1, e2, h⟩ := ob h
    refine g_invV0 o (rc_self hk0) (by decide) ml_X12_43 kb_X12_of kv_X12_of rfl (c_X12_of (cq X) (cD X) (cY X) (cB X) (d := d) (by omega) (rc_at (rc_self hk0)).2 e2) rfl rfl (by simp [cat_i, cat_l, cat_rf]) dX12_grow_44 ?_
    refine g_iconst (v := (1 : Int32)) o dX12_grow_47 (by decide) ?_
    refine g_iadd o dX12_grow_48 ?_
    refine g_aload_n o dX12_grow_49 0 rfl ?_
    refine g_iload_n o dX12_grow_50 1 rfl ?_
    refine g_bipush (v := (48 : Int32)) o dX12_grow_51 (by decide) ?_
    obtain ⟨x3, e4, h⟩ := ob h
    refine g_invV0 o (rc_self hk0) (by decide) ml_X12_43 kb_X12_of kv_X12_of rfl (c_X12_of (cq X) (cD X) (cY X) (cB X) (d := d) (by omega) (rc_at (rc_self hk0)).2 e4) rfl rfl (by simp [cat_i, cat_l, cat_rf]) dX12_grow_53 ?_
    refine g_icmp_lt (tgt := 62) o dX12_grow_56 (by decide) (fun z => ?_) (fun z => ?_)
    · have h := (if_pos z).symm.trans h
      exact w_X12_grow_62 o hL hr hz hk0 hE hd h
    · have h := (if_neg z).symm.trans h
      refine g_bipush (v := (-3 : Int32)) o dX12_grow_59 (by decide) ?_
      refine g_istore_n (i := 3) (ls' := [(3, .int (-3 : Int32)), (0, va_rf (some a0)), (1, .int v1), (2, .int v2)]) o dX12_grow_61 rfl (ltL hL (by decide)) rfl ?_
      refine gsub [1, 2, 3, 0] rfl ?_
      exact w_X12_grow_62 o hL hr hz hk0 hE hd h
def f_X12_grow_18 (K L : Nat → Nat) (fu : Nat) (a0 : Nat) (v1 : Int32) (v2 : Int32) (s0 : Int32) (M : Mm) : Option (Int32 × Mm) :=
  if s0 = 0 then
    Option.bind (f_X12_of K L M a0 v1 (48 : Int32)) (fun x1 =>
    if x1 = 0 then
      f_X12_grow_36 K L fu a0 v1 v2 (-2 : Int32) M
    else
      f_X12_grow_36 K L fu a0 v1 v2 s0 M)
  else
    f_X12_grow_36 K L fu a0 v1 v2 s0 M
set_option maxHeartbeats 4000000 in
theorem w_X12_grow_18 {X : Cx} {d n : Nat} {K L : Nat → Nat} {fu : Nat} {a0 : Nat} {r : (Int32 × Mm)} {v1 : Int32} {v2 : Int32} {s0 : Int32} {M : Mm} (o : cOk X cX12_grow RX12 (d + 1)) (hL : cL X = 4) (hr : (ch X).sig.returnType = some .int) (hz : (cs X).heap.size + 0 = cB X + n) (hk0 : K a0 = 12) (hE : cE X n K L r.2 (some (.int r.1)) 0 0) (hd : 4 ≤ d + 1) (h : f_X12_grow_18 K L fu a0 v1 v2 s0 M = some r) : gW X 0 0 n K L M 18 [(0, va_rf (some a0)), (1, .int v1), (2, .int v2)] [.int s0] := by
  unfold f_X12_grow_18 at h
  refine g_istore_n (i := 3) (ls' := [(3, .int s0), (0, va_rf (some a0)), (1, .int v1), (2, .int v2)]) o dX12_grow_18 rfl (ltL hL (by decide)) rfl ?_
  refine g_iload_n o dX12_grow_19 0 rfl ?_
  refine g_if_ne (tgt := 36) o dX12_grow_20 (by decide) (fun z => ?_) (fun z => ?_)
  · have h := (if_neg z).symm.trans h
    refine gsub [1, 2, 3, 0] rfl ?_
    exact w_X12_grow_36 o hL hr hz hk0 hE hd h
  · have h := (if_pos z).symm.trans h
    refine g_aload_n o dX12_grow_23 1 rfl ?_
    refine g_iload_n o dX12_grow_24 2 rfl ?_
    refine g_bipush (v := (48 : Int32)) o dX12_grow_25 (by decide) ?_
    obtain ⟨x1, e2, h⟩ := ob h
    refine g_invV0 o (rc_self hk0) (by decide) ml_X12_43 kb_X12_of kv_X12_of rfl (c_X12_of (cq X) (cD X) (cY X) (cB X) (d := d) (by omega) (rc_at (rc_self hk0)).2 e2) rfl rfl (by simp [cat_i, cat_l, cat_rf]) dX12_grow_27 ?_
    refine g_if_ne (tgt := 36) o dX12_grow_30 (by decide) (fun z => ?_) (fun z => ?_)
    · have h := (if_neg z).symm.trans h
      refine gsub [1, 2, 3, 0] rfl ?_
      exact w_X12_grow_36 o hL hr hz hk0 hE hd h
    · have h := (if_pos z).symm.trans h
      refine g_bipush (v := (-2 : Int32)) o dX12_grow_33 (by decide) ?_
      refine g_istore_n (i := 3) (ls' := [(3, .int (-2 : Int32)), (0, va_rf (some a0)), (1, .int v1), (2, .int v2)]) o dX12_grow_35 rfl (ltL hL (by decide)) rfl ?_
      refine gsub [1, 2, 3, 0] rfl ?_
      exact w_X12_grow_36 o hL hr hz hk0 hE hd h
def f_X12_grow (K L : Nat → Nat) (fu : Nat) (a0 : Nat) (v1 : Int32) (v2 : Int32) (M : Mm) : Option (Int32 × Mm) :=
  Option.bind (f_X12_isMinute v2) (fun x1 =>
  if x1 = 0 then
    f_X12_grow_18 K L fu a0 v1 v2 (-3 : Int32) M
  else
    Option.bind (f_X12_why K L M a0 v1 (1 : Int32)) (fun x3 =>
    f_X12_grow_18 K L fu a0 v1 v2 x3 M))
set_option maxHeartbeats 4000000 in
theorem w_X12_grow_0 {X : Cx} {d n : Nat} {K L : Nat → Nat} {fu : Nat} {a0 : Nat} {r : (Int32 × Mm)} {v1 : Int32} {v2 : Int32} {M : Mm} (o : cOk X cX12_grow RX12 (d + 1)) (hL : cL X = 4) (hr : (ch X).sig.returnType = some .int) (hz : (cs X).heap.size + 0 = cB X + n) (hk0 : K a0 = 12) (hE : cE X n K L r.2 (some (.int r.1)) 0 0) (hd : 4 ≤ d + 1) (h : f_X12_grow K L fu a0 v1 v2 M = some r) : gW X 0 0 n K L M 0 [(0, va_rf (some a0)), (1, .int v1), (2, .int v2)] [] := by
  unfold f_X12_grow at h
  refine g_iload_n o dX12_grow_0 2 rfl ?_
  obtain ⟨x1, e2, h⟩ := ob h
  refine g_invS0 o ml_X12_188 kb_X12_isMinute ks_X12_isMinute (c_X12_isMinute (cq X) (cD X) (cY X) (cB X) (d := d) (by omega) e2) rfl rfl (by simp [cat_i, cat_l, cat_rf]) dX12_grow_1 ?_
  refine g_if_ne (tgt := 12) o dX12_grow_4 (by decide) (fun z => ?_) (fun z => ?_)
  · have h := (if_neg z).symm.trans h
    refine g_aload_n o dX12_grow_12 0 rfl ?_
    refine g_iload_n o dX12_grow_13 1 rfl ?_
    refine g_iconst (v := (1 : Int32)) o dX12_grow_14 (by decide) ?_
    obtain ⟨x3, e4, h⟩ := ob h
    refine g_invV0 o (rc_self hk0) (by decide) ml_X12_119 kb_X12_why kv_X12_why rfl (c_X12_why (cq X) (cD X) (cY X) (cB X) (d := d) (by omega) (rc_at (rc_self hk0)).2 e4) rfl rfl (by simp [cat_i, cat_l, cat_rf]) dX12_grow_15 ?_
    exact w_X12_grow_18 o hL hr hz hk0 hE hd h
  · have h := (if_pos z).symm.trans h
    refine g_bipush (v := (-3 : Int32)) o dX12_grow_7 (by decide) ?_
    refine g_goto (tgt := 18) o dX12_grow_9 (by decide) ?_
    exact w_X12_grow_18 o hL hr hz hk0 hE hd h
theorem c_X12_grow (l : Launch) (D : va_G) (Y : Nat → ClassId) (B : Nat) {d : Nat} {n : Nat} {K L : Nat → Nat} {fu : Nat} {M : Mm} {a0 : Nat} {v1 : Int32} {v2 : Int32} {r : (Int32 × Mm)} (hd : 4 ≤ d) (hk0 : K a0 = 12) (h : f_X12_grow K L fu a0 v1 v2 M = some r) : mC l D Y B d yX12_grow cX12_grow 4 (some .int) [va_rf (some a0), .int v1, .int v2] n K L M n K L r.2 (some (.int r.1)) 0 0 := by
  obtain ⟨d, rfl⟩ : ∃ e, d = e + 1 := ⟨d - 1, by omega⟩
  refine mk_met (by decide) (by simp [lgs_r, lgs_i, lgs_l, lgs_n]) (fun X e1 e2 e3 e4 o hL hr hnm hz hc hs hE => ?_)
  subst e1 e2 e3 e4
  rw [show lv_args 0 [va_rf (some a0), .int v1, .int v2] = [(0, va_rf (some a0)), (1, .int v1), (2, .int v2)] by simp [lva_r, lva_i, lva_l, lva_n]]
  exact w_X12_grow_0 o hL hr hz hk0 hE hd h
def f_X12_goesTo_29 (K L : Nat → Nat) (a0 : Nat) (s0 : Int32) (s1 : Int32) (s2 : Int32) (s3 : (Option Nat)) (M : Mm) : Option Mm :=
  Option.bind (rc K s3 12) (fun a1 =>
  Option.bind (f_X12_to K L a1 s2 s1 s0 M) (fun x3 =>
  some x3))
set_option maxHeartbeats 4000000 in
theorem w_X12_goesTo_29 {X : Cx} {d n : Nat} {K L : Nat → Nat} {a0 : Nat} {r : Mm} {s0 : Int32} {s1 : Int32} {s2 : Int32} {s3 : (Option Nat)} {M : Mm} (o : cOk X cX12_goesTo RX12 (d + 1)) (hL : cL X = 3) (hr : (ch X).sig.returnType = none) (hz : (cs X).heap.size + 0 = cB X + n) (hk0 : K a0 = 12) (hE : cE X n K L r none 0 0) (hd : 1 ≤ d + 1) (h : f_X12_goesTo_29 K L a0 s0 s1 s2 s3 M = some r) : gW X 0 0 n K L M 29 [(0, va_rf (some a0))] [.int s0, .int s1, .int s2, va_rf s3] := by
  unfold f_X12_goesTo_29 at h
  obtain ⟨a1, e2, h⟩ := ob h
  obtain ⟨x3, e4, h⟩ := ob h
  refine g_invV0 o e2 (by decide) ml_X12_125 kb_X12_to kv_X12_to rfl (c_X12_to (cq X) (cD X) (cY X) (cB X) (d := d) (by omega) (rc_at e2).2 e4) rfl rfl (by simp [cat_i, cat_l, cat_rf]) dX12_goesTo_29 ?_
  cases h
  exact g_vret o hr hE dX12_goesTo_32
def f_X12_goesTo (K L : Nat → Nat) (a0 : Nat) (v1 : Int32) (v2 : Int32) (M : Mm) : Option Mm :=
  Option.bind (f_X12_to K L a0 v1 (69 : Int32) v2 M) (fun x1 =>
  if 0 ≤ v2 then
    Option.bind (f_X12_of K L x1 a0 v1 ((49 : Int32) + v2)) (fun x3 =>
    f_X12_goesTo_29 K L a0 x3 (37 : Int32) v1 (some a0) x1)
  else
    f_X12_goesTo_29 K L a0 (0 : Int32) (37 : Int32) v1 (some a0) x1)
set_option maxHeartbeats 4000000 in
theorem w_X12_goesTo_0 {X : Cx} {d n : Nat} {K L : Nat → Nat} {a0 : Nat} {r : Mm} {v1 : Int32} {v2 : Int32} {M : Mm} (o : cOk X cX12_goesTo RX12 (d + 1)) (hL : cL X = 3) (hr : (ch X).sig.returnType = none) (hz : (cs X).heap.size + 0 = cB X + n) (hk0 : K a0 = 12) (hE : cE X n K L r none 0 0) (hd : 1 ≤ d + 1) (h : f_X12_goesTo K L a0 v1 v2 M = some r) : gW X 0 0 n K L M 0 [(0, va_rf (some a0)), (1, .int v1), (2, .int v2)] [] := by
  unfold f_X12_goesTo at h
  refine g_aload_n o dX12_goesTo_0 0 rfl ?_
  refine g_iload_n o dX12_goesTo_1 1 rfl ?_
  refine g_bipush (v := (69 : Int32)) o dX12_goesTo_2 (by decide) ?_
  refine g_iload_n o dX12_goesTo_4 2 rfl ?_
  obtain ⟨x1, e2, h⟩ := ob h
  refine g_invV0 o (rc_self hk0) (by decide) ml_X12_125 kb_X12_to kv_X12_to rfl (c_X12_to (cq X) (cD X) (cY X) (cB X) (d := d) (by omega) (rc_at (rc_self hk0)).2 e2) rfl rfl (by simp [cat_i, cat_l, cat_rf]) dX12_goesTo_5 ?_
  refine g_aload_n o dX12_goesTo_8 0 rfl ?_
  refine g_iload_n o dX12_goesTo_9 1 rfl ?_
  refine g_bipush (v := (37 : Int32)) o dX12_goesTo_10 (by decide) ?_
  refine g_iload_n o dX12_goesTo_12 2 rfl ?_
  refine g_if_ge (tgt := 20) o dX12_goesTo_13 (by decide) (fun z => ?_) (fun z => ?_)
  · have h := (if_pos z).symm.trans h
    refine g_aload_n o dX12_goesTo_20 0 rfl ?_
    refine g_iload_n o dX12_goesTo_21 1 rfl ?_
    refine g_bipush (v := (49 : Int32)) o dX12_goesTo_22 (by decide) ?_
    refine g_iload_n o dX12_goesTo_24 2 rfl ?_
    refine g_iadd o dX12_goesTo_25 ?_
    obtain ⟨x3, e4, h⟩ := ob h
    refine g_invV0 o (rc_self hk0) (by decide) ml_X12_43 kb_X12_of kv_X12_of rfl (c_X12_of (cq X) (cD X) (cY X) (cB X) (d := d) (by omega) (rc_at (rc_self hk0)).2 e4) rfl rfl (by simp [cat_i, cat_l, cat_rf]) dX12_goesTo_26 ?_
    refine gsub [0] rfl ?_
    exact w_X12_goesTo_29 o hL hr hz hk0 hE hd h
  · have h := (if_neg z).symm.trans h
    refine g_iconst (v := (0 : Int32)) o dX12_goesTo_16 (by decide) ?_
    refine g_goto (tgt := 29) o dX12_goesTo_17 (by decide) ?_
    refine gsub [0] rfl ?_
    exact w_X12_goesTo_29 o hL hr hz hk0 hE hd h
theorem c_X12_goesTo (l : Launch) (D : va_G) (Y : Nat → ClassId) (B : Nat) {d : Nat} {n : Nat} {K L : Nat → Nat} {M : Mm} {a0 : Nat} {v1 : Int32} {v2 : Int32} {r : Mm} (hd : 1 ≤ d) (hk0 : K a0 = 12) (h : f_X12_goesTo K L a0 v1 v2 M = some r) : mC l D Y B d yX12_goesTo cX12_goesTo 3 (none) [va_rf (some a0), .int v1, .int v2] n K L M n K L r none 0 0 := by
  obtain ⟨d, rfl⟩ : ∃ e, d = e + 1 := ⟨d - 1, by omega⟩
  refine mk_met (by decide) (by simp [lgs_r, lgs_i, lgs_l, lgs_n]) (fun X e1 e2 e3 e4 o hL hr hnm hz hc hs hE => ?_)
  subst e1 e2 e3 e4
  rw [show lv_args 0 [va_rf (some a0), .int v1, .int v2] = [(0, va_rf (some a0)), (1, .int v1), (2, .int v2)] by simp [lva_r, lva_i, lva_l, lva_n]]
  exact w_X12_goesTo_0 o hL hr hz hk0 hE hd h
def f_X12_back_51 (K L : Nat → Nat) (a0 : Nat) (v1 : Int32) (v2 : Int32) (M : Mm) : Option (Int32 × Mm) :=
  if v2 = 0 then
    Option.bind (f_X12_of K L M a0 v1 (69 : Int32)) (fun x1 =>
    Option.bind (f_X12_goesTo K L a0 v1 (x1 - (1 : Int32)) M) (fun x3 =>
    Option.bind (f_X12_of K L x3 a0 v1 (37 : Int32)) (fun x5 =>
    some (x5, x3))))
  else
    Option.bind (f_X12_no K L a0 v2 M) (fun x7 =>
    some (x7.1, x7.2))
set_option maxHeartbeats 4000000 in
theorem w_X12_back_51 {X : Cx} {d n : Nat} {K L : Nat → Nat} {a0 : Nat} {r : (Int32 × Mm)} {v1 : Int32} {v2 : Int32} {M : Mm} (o : cOk X cX12_back RX12 (d + 1)) (hL : cL X = 3) (hr : (ch X).sig.returnType = some .int) (hz : (cs X).heap.size + 0 = cB X + n) (hk0 : K a0 = 12) (hE : cE X n K L r.2 (some (.int r.1)) 0 0) (hd : 3 ≤ d + 1) (h : f_X12_back_51 K L a0 v1 v2 M = some r) : gW X 0 0 n K L M 51 [(0, va_rf (some a0)), (1, .int v1), (2, .int v2)] [] := by
  unfold f_X12_back_51 at h
  refine g_iload_n o dX12_back_51 2 rfl ?_
  refine g_if_eq (tgt := 61) o dX12_back_52 (by decide) (fun z => ?_) (fun z => ?_)
  · have h := (if_pos z).symm.trans h
    refine g_aload_n o dX12_back_61 0 rfl ?_
    refine g_iload_n o dX12_back_62 1 rfl ?_
    refine g_aload_n o dX12_back_63 0 rfl ?_
    refine g_iload_n o dX12_back_64 1 rfl ?_
    refine g_bipush (v := (69 : Int32)) o dX12_back_65 (by decide) ?_
    obtain ⟨x1, e2, h⟩ := ob h
    refine g_invV0 o (rc_self hk0) (by decide) ml_X12_43 kb_X12_of kv_X12_of rfl (c_X12_of (cq X) (cD X) (cY X) (cB X) (d := d) (by omega) (rc_at (rc_self hk0)).2 e2) rfl rfl (by simp [cat_i, cat_l, cat_rf]) dX12_back_67 ?_
    refine g_iconst (v := (1 : Int32)) o dX12_back_70 (by decide) ?_
    refine g_isub o dX12_back_71 ?_
    obtain ⟨x3, e4, h⟩ := ob h
    refine g_invV0 o (rc_self hk0) (by decide) ml_X12_194 kb_X12_goesTo kv_X12_goesTo rfl (c_X12_goesTo (cq X) (cD X) (cY X) (cB X) (d := d) (by omega) (rc_at (rc_self hk0)).2 e4) rfl rfl (by simp [cat_i, cat_l, cat_rf]) dX12_back_72 ?_
    refine g_aload_n o dX12_back_75 0 rfl ?_
    refine g_iload_n o dX12_back_76 1 rfl ?_
    refine g_bipush (v := (37 : Int32)) o dX12_back_77 (by decide) ?_
    obtain ⟨x5, e6, h⟩ := ob h
    refine g_invV0 o (rc_self hk0) (by decide) ml_X12_43 kb_X12_of kv_X12_of rfl (c_X12_of (cq X) (cD X) (cY X) (cB X) (d := d) (by omega) (rc_at (rc_self hk0)).2 e6) rfl rfl (by simp [cat_i, cat_l, cat_rf]) dX12_back_79 ?_
    cases h
    exact g_iret o hr hE dX12_back_82
  · have h := (if_neg z).symm.trans h
    refine g_aload_n o dX12_back_55 0 rfl ?_
    refine g_iload_n o dX12_back_56 2 rfl ?_
    obtain ⟨x7, e8, h⟩ := ob h
    refine g_invV0 o (rc_self hk0) (by decide) ml_X12_72 kb_X12_no kv_X12_no rfl (c_X12_no (cq X) (cD X) (cY X) (cB X) (d := d) (by omega) (rc_at (rc_self hk0)).2 e8) rfl rfl (by simp [cat_i, cat_l, cat_rf]) dX12_back_57 ?_
    cases h
    exact g_iret o hr hE dX12_back_60
def f_X12_back_34 (K L : Nat → Nat) (a0 : Nat) (v1 : Int32) (v2 : Int32) (M : Mm) : Option (Int32 × Mm) :=
  if v2 = 0 then
    Option.bind (f_X12_of K L M a0 v1 (69 : Int32)) (fun x1 =>
    if 0 ≤ x1 then
      f_X12_back_51 K L a0 v1 v2 M
    else
      f_X12_back_51 K L a0 v1 (-12 : Int32) M)
  else
    f_X12_back_51 K L a0 v1 v2 M
set_option maxHeartbeats 4000000 in
theorem w_X12_back_34 {X : Cx} {d n : Nat} {K L : Nat → Nat} {a0 : Nat} {r : (Int32 × Mm)} {v1 : Int32} {v2 : Int32} {M : Mm} (o : cOk X cX12_back RX12 (d + 1)) (hL : cL X = 3) (hr : (ch X).sig.returnType = some .int) (hz : (cs X).heap.size + 0 = cB X + n) (hk0 : K a0 = 12) (hE : cE X n K L r.2 (some (.int r.1)) 0 0) (hd : 3 ≤ d + 1) (h : f_X12_back_34 K L a0 v1 v2 M = some r) : gW X 0 0 n K L M 34 [(0, va_rf (some a0)), (1, .int v1), (2, .int v2)] [] := by
  unfold f_X12_back_34 at h
  refine g_iload_n o dX12_back_34 2 rfl ?_
  refine g_if_ne (tgt := 51) o dX12_back_35 (by decide) (fun z => ?_) (fun z => ?_)
  · have h := (if_neg z).symm.trans h
    exact w_X12_back_51 o hL hr hz hk0 hE hd h
  · have h := (if_pos z).symm.trans h
    refine g_aload_n o dX12_back_38 0 rfl ?_
    refine g_iload_n o dX12_back_39 1 rfl ?_
    refine g_bipush (v := (69 : Int32)) o dX12_back_40 (by decide) ?_
    obtain ⟨x1, e2, h⟩ := ob h
    refine g_invV0 o (rc_self hk0) (by decide) ml_X12_43 kb_X12_of kv_X12_of rfl (c_X12_of (cq X) (cD X) (cY X) (cB X) (d := d) (by omega) (rc_at (rc_self hk0)).2 e2) rfl rfl (by simp [cat_i, cat_l, cat_rf]) dX12_back_42 ?_
    refine g_if_ge (tgt := 51) o dX12_back_45 (by decide) (fun z => ?_) (fun z => ?_)
    · have h := (if_pos z).symm.trans h
      exact w_X12_back_51 o hL hr hz hk0 hE hd h
    · have h := (if_neg z).symm.trans h
      refine g_bipush (v := (-12 : Int32)) o dX12_back_48 (by decide) ?_
      refine g_istore_n (i := 2) (ls' := [(2, .int (-12 : Int32)), (0, va_rf (some a0)), (1, .int v1)]) o dX12_back_50 rfl (ltL hL (by decide)) rfl ?_
      refine gsub [1, 2, 0] rfl ?_
      exact w_X12_back_51 o hL hr hz hk0 hE hd h
def f_X12_back (K L : Nat → Nat) (a0 : Nat) (v1 : Int32) (M : Mm) : Option (Int32 × Mm) :=
  Option.bind (f_X12_why K L M a0 v1 (1 : Int32)) (fun x1 =>
  if x1 = 0 then
    Option.bind (f_X12_of K L M a0 v1 (69 : Int32)) (fun x3 =>
    if x3 ≤ 0 then
      f_X12_back_34 K L a0 v1 x1 M
    else
      Option.bind (f_X12_of K L M a0 v1 (48 : Int32)) (fun x5 =>
      if x5 = 0 then
        f_X12_back_34 K L a0 v1 (-2 : Int32) M
      else
        f_X12_back_34 K L a0 v1 x1 M))
  else
    f_X12_back_34 K L a0 v1 x1 M)
set_option maxHeartbeats 4000000 in
theorem w_X12_back_0 {X : Cx} {d n : Nat} {K L : Nat → Nat} {a0 : Nat} {r : (Int32 × Mm)} {v1 : Int32} {M : Mm} (o : cOk X cX12_back RX12 (d + 1)) (hL : cL X = 3) (hr : (ch X).sig.returnType = some .int) (hz : (cs X).heap.size + 0 = cB X + n) (hk0 : K a0 = 12) (hE : cE X n K L r.2 (some (.int r.1)) 0 0) (hd : 3 ≤ d + 1) (h : f_X12_back K L a0 v1 M = some r) : gW X 0 0 n K L M 0 [(0, va_rf (some a0)), (1, .int v1)] [] := by
  unfold f_X12_back at h
  refine g_aload_n o dX12_back_0 0 rfl ?_
  refine g_iload_n o dX12_back_1 1 rfl ?_
  refine g_iconst (v := (1 : Int32)) o dX12_back_2 (by decide) ?_
  obtain ⟨x1, e2, h⟩ := ob h
  refine g_invV0 o (rc_self hk0) (by decide) ml_X12_119 kb_X12_why kv_X12_why rfl (c_X12_why (cq X) (cD X) (cY X) (cB X) (d := d) (by omega) (rc_at (rc_self hk0)).2 e2) rfl rfl (by simp [cat_i, cat_l, cat_rf]) dX12_back_3 ?_
  refine g_istore_n (i := 2) (ls' := [(2, .int x1), (0, va_rf (some a0)), (1, .int v1)]) o dX12_back_6 rfl (ltL hL (by decide)) rfl ?_
  refine g_iload_n o dX12_back_7 0 rfl ?_
  refine g_if_ne (tgt := 34) o dX12_back_8 (by decide) (fun z => ?_) (fun z => ?_)
  · have h := (if_neg z).symm.trans h
    refine gsub [1, 2, 0] rfl ?_
    exact w_X12_back_34 o hL hr hz hk0 hE hd h
  · have h := (if_pos z).symm.trans h
    refine g_aload_n o dX12_back_11 1 rfl ?_
    refine g_iload_n o dX12_back_12 2 rfl ?_
    refine g_bipush (v := (69 : Int32)) o dX12_back_13 (by decide) ?_
    obtain ⟨x3, e4, h⟩ := ob h
    refine g_invV0 o (rc_self hk0) (by decide) ml_X12_43 kb_X12_of kv_X12_of rfl (c_X12_of (cq X) (cD X) (cY X) (cB X) (d := d) (by omega) (rc_at (rc_self hk0)).2 e4) rfl rfl (by simp [cat_i, cat_l, cat_rf]) dX12_back_15 ?_
    refine g_if_le (tgt := 34) o dX12_back_18 (by decide) (fun z => ?_) (fun z => ?_)
    · have h := (if_pos z).symm.trans h
      refine gsub [1, 2, 0] rfl ?_
      exact w_X12_back_34 o hL hr hz hk0 hE hd h
    · have h := (if_neg z).symm.trans h
      refine g_aload_n o dX12_back_21 1 rfl ?_
      refine g_iload_n o dX12_back_22 2 rfl ?_
      refine g_bipush (v := (48 : Int32)) o dX12_back_23 (by decide) ?_
      obtain ⟨x5, e6, h⟩ := ob h
      refine g_invV0 o (rc_self hk0) (by decide) ml_X12_43 kb_X12_of kv_X12_of rfl (c_X12_of (cq X) (cD X) (cY X) (cB X) (d := d) (by omega) (rc_at (rc_self hk0)).2 e6) rfl rfl (by simp [cat_i, cat_l, cat_rf]) dX12_back_25 ?_
      refine g_if_ne (tgt := 34) o dX12_back_28 (by decide) (fun z => ?_) (fun z => ?_)
      · have h := (if_neg z).symm.trans h
        refine gsub [1, 2, 0] rfl ?_
        exact w_X12_back_34 o hL hr hz hk0 hE hd h
      · have h := (if_pos z).symm.trans h
        refine g_bipush (v := (-2 : Int32)) o dX12_back_31 (by decide) ?_
        refine g_istore_n (i := 2) (ls' := [(2, .int (-2 : Int32)), (0, va_rf (some a0)), (1, .int v1)]) o dX12_back_33 rfl (ltL hL (by decide)) rfl ?_
        refine gsub [1, 2, 0] rfl ?_
        exact w_X12_back_34 o hL hr hz hk0 hE hd h
theorem c_X12_back (l : Launch) (D : va_G) (Y : Nat → ClassId) (B : Nat) {d : Nat} {n : Nat} {K L : Nat → Nat} {M : Mm} {a0 : Nat} {v1 : Int32} {r : (Int32 × Mm)} (hd : 3 ≤ d) (hk0 : K a0 = 12) (h : f_X12_back K L a0 v1 M = some r) : mC l D Y B d yX12_back cX12_back 3 (some .int) [va_rf (some a0), .int v1] n K L M n K L r.2 (some (.int r.1)) 0 0 := by
  obtain ⟨d, rfl⟩ : ∃ e, d = e + 1 := ⟨d - 1, by omega⟩
  refine mk_met (by decide) (by simp [lgs_r, lgs_i, lgs_l, lgs_n]) (fun X e1 e2 e3 e4 o hL hr hnm hz hc hs hE => ?_)
  subst e1 e2 e3 e4
  rw [show lv_args 0 [va_rf (some a0), .int v1] = [(0, va_rf (some a0)), (1, .int v1)] by simp [lva_r, lva_i, lva_l, lva_n]]
  exact w_X12_back_0 o hL hr hz hk0 hE hd h
def f_X12_stands_86 (K L : Nat → Nat) (a0 : Nat) (s0 : Int32) (s1 : Int32) (s2 : (Option Nat)) (M : Mm) : Option (Int32 × Mm) :=
  Option.bind (rc K s2 12) (fun a1 =>
  Option.bind (f_X12_of K L M a1 s1 s0) (fun x3 =>
  some (x3, M)))
set_option maxHeartbeats 4000000 in
theorem w_X12_stands_86 {X : Cx} {d n : Nat} {K L : Nat → Nat} {a0 : Nat} {r : (Int32 × Mm)} {s0 : Int32} {s1 : Int32} {s2 : (Option Nat)} {M : Mm} (o : cOk X cX12_stands RX12 (d + 1)) (hL : cL X = 4) (hr : (ch X).sig.returnType = some .int) (hz : (cs X).heap.size + 0 = cB X + n) (hk0 : K a0 = 12) (hE : cE X n K L r.2 (some (.int r.1)) 0 0) (hd : 3 ≤ d + 1) (h : f_X12_stands_86 K L a0 s0 s1 s2 M = some r) : gW X 0 0 n K L M 86 [(0, va_rf (some a0))] [.int s0, .int s1, va_rf s2] := by
  unfold f_X12_stands_86 at h
  obtain ⟨a1, e2, h⟩ := ob h
  obtain ⟨x3, e4, h⟩ := ob h
  refine g_invV0 o e2 (by decide) ml_X12_43 kb_X12_of kv_X12_of rfl (c_X12_of (cq X) (cD X) (cY X) (cB X) (d := d) (by omega) (rc_at e2).2 e4) rfl rfl (by simp [cat_i, cat_l, cat_rf]) dX12_stands_86 ?_
  cases h
  exact g_iret o hr hE dX12_stands_89
def f_X12_stands (K L : Nat → Nat) (a0 : Nat) (v1 : Int32) (v2 : Int32) (M : Mm) : Option (Int32 × Mm) :=
  Option.bind (f_X12_why K L M a0 v1 (1 : Int32)) (fun x1 =>
  if x1 = 0 then
    Option.bind (f_X12_isIn (v2.toInt64) (0 : Int64) (3 : Int64)) (fun x3 =>
    if x3 = 0 then
      Option.bind (f_X12_no K L a0 (-12 : Int32) M) (fun x9 =>
      some (x9.1, x9.2))
    else
      if v2 = (1 : Int32) then
        Option.bind (f_X12_of K L M a0 v1 (48 : Int32)) (fun x5 =>
        if x5 = 0 then
          some ((-1 : Int32), M)
        else
          Option.bind (f_X12_of K L M a0 v1 (48 : Int32)) (fun x7 =>
          some (x7, M)))
      else
        if v2 = 0 then
          f_X12_stands_86 K L a0 (69 : Int32) v1 (some a0) M
        else
          if v2 = (2 : Int32) then
            f_X12_stands_86 K L a0 (75 : Int32) v1 (some a0) M
          else
            f_X12_stands_86 K L a0 (76 : Int32) v1 (some a0) M)
  else
    Option.bind (f_X12_no K L a0 x1 M) (fun x11 =>
    some (x11.1, x11.2)))
set_option maxHeartbeats 4000000 in
theorem w_X12_stands_0 {X : Cx} {d n : Nat} {K L : Nat → Nat} {a0 : Nat} {r : (Int32 × Mm)} {v1 : Int32} {v2 : Int32} {M : Mm} (o : cOk X cX12_stands RX12 (d + 1)) (hL : cL X = 4) (hr : (ch X).sig.returnType = some .int) (hz : (cs X).heap.size + 0 = cB X + n) (hk0 : K a0 = 12) (hE : cE X n K L r.2 (some (.int r.1)) 0 0) (hd : 3 ≤ d + 1) (h : f_X12_stands K L a0 v1 v2 M = some r) : gW X 0 0 n K L M 0 [(0, va_rf (some a0)), (1, .int v1), (2, .int v2)] [] := by
  unfold f_X12_stands at h
  refine g_aload_n o dX12_stands_0 0 rfl ?_
  refine g_iload_n o dX12_stands_1 1 rfl ?_
  refine g_iconst (v := (1 : Int32)) o dX12_stands_2 (by decide) ?_
  obtain ⟨x1, e2, h⟩ := ob h
  refine g_invV0 o (rc_self hk0) (by decide) ml_X12_119 kb_X12_why kv_X12_why rfl (c_X12_why (cq X) (cD X) (cY X) (cB X) (d := d) (by omega) (rc_at (rc_self hk0)).2 e2) rfl rfl (by simp [cat_i, cat_l, cat_rf]) dX12_stands_3 ?_
  refine g_istore_n (i := 3) (ls' := [(3, .int x1), (0, va_rf (some a0)), (1, .int v1), (2, .int v2)]) o dX12_stands_6 rfl (ltL hL (by decide)) rfl ?_
  refine g_iload_n o dX12_stands_7 0 rfl ?_
  refine g_if_eq (tgt := 17) o dX12_stands_8 (by decide) (fun z => ?_) (fun z => ?_)
  · have h := (if_pos z).symm.trans h
    refine g_iload_n o dX12_stands_17 3 rfl ?_
    refine g_i2l o dX12_stands_18 ?_
    refine g_lconst (v := (0 : Int64)) o dX12_stands_19 (by decide) ?_
    refine g_ldc2 (v := (3 : Int64)) o kc_X12_197 dX12_stands_20 ?_
    obtain ⟨x3, e4, h⟩ := ob h
    refine g_invS0 o ml_X12_62 kb_X12_isIn ks_X12_isIn (c_X12_isIn (cq X) (cD X) (cY X) (cB X) (d := d) (by omega) e4) rfl rfl (by simp [cat_i, cat_l, cat_rf]) dX12_stands_23 ?_
    refine g_if_ne (tgt := 36) o dX12_stands_26 (by decide) (fun z => ?_) (fun z => ?_)
    · have h := (if_neg z).symm.trans h
      refine g_iload_n o dX12_stands_36 3 rfl ?_
      refine g_iconst (v := (1 : Int32)) o dX12_stands_37 (by decide) ?_
      refine g_icmp_ne (tgt := 63) o dX12_stands_38 (by decide) (fun z => ?_) (fun z => ?_)
      · have h := (if_neg z).symm.trans h
        refine g_aload_n o dX12_stands_63 1 rfl ?_
        refine g_iload_n o dX12_stands_64 2 rfl ?_
        refine g_iload_n o dX12_stands_65 3 rfl ?_
        refine g_if_ne (tgt := 74) o dX12_stands_66 (by decide) (fun z => ?_) (fun z => ?_)
        · have h := (if_neg z).symm.trans h
          refine g_iload_n o dX12_stands_74 3 rfl ?_
          refine g_iconst (v := (2 : Int32)) o dX12_stands_75 (by decide) ?_
          refine g_icmp_ne (tgt := 84) o dX12_stands_76 (by decide) (fun z => ?_) (fun z => ?_)
          · have h := (if_neg z).symm.trans h
            refine g_bipush (v := (76 : Int32)) o dX12_stands_84 (by decide) ?_
            refine gsub [1] rfl ?_
            exact w_X12_stands_86 o hL hr hz hk0 hE hd h
          · have h := (if_pos z).symm.trans h
            refine g_bipush (v := (75 : Int32)) o dX12_stands_79 (by decide) ?_
            refine g_goto (tgt := 86) o dX12_stands_81 (by decide) ?_
            refine gsub [1] rfl ?_
            exact w_X12_stands_86 o hL hr hz hk0 hE hd h
        · have h := (if_pos z).symm.trans h
          refine g_bipush (v := (69 : Int32)) o dX12_stands_69 (by decide) ?_
          refine g_goto (tgt := 86) o dX12_stands_71 (by decide) ?_
          refine gsub [1] rfl ?_
          exact w_X12_stands_86 o hL hr hz hk0 hE hd h
      · have h := (if_pos z).symm.trans h
        refine g_aload_n o dX12_stands_41 1 rfl ?_
        refine g_iload_n o dX12_stands_42 2 rfl ?_
        refine g_bipush (v := (48 : Int32)) o dX12_stands_43 (by decide) ?_
        obtain ⟨x5, e6, h⟩ := ob h
        refine g_invV0 o (rc_self hk0) (by decide) ml_X12_43 kb_X12_of kv_X12_of rfl (c_X12_of (cq X) (cD X) (cY X) (cB X) (d := d) (by omega) (rc_at (rc_self hk0)).2 e6) rfl rfl (by simp [cat_i, cat_l, cat_rf]) dX12_stands_45 ?_
        refine g_if_ne (tgt := 55) o dX12_stands_48 (by decide) (fun z => ?_) (fun z => ?_)
        · have h := (if_neg z).symm.trans h
          refine g_aload_n o dX12_stands_55 1 rfl ?_
          refine g_iload_n o dX12_stands_56 2 rfl ?_
          refine g_bipush (v := (48 : Int32)) o dX12_stands_57 (by decide) ?_
          obtain ⟨x7, e8, h⟩ := ob h
          refine g_invV0 o (rc_self hk0) (by decide) ml_X12_43 kb_X12_of kv_X12_of rfl (c_X12_of (cq X) (cD X) (cY X) (cB X) (d := d) (by omega) (rc_at (rc_self hk0)).2 e8) rfl rfl (by simp [cat_i, cat_l, cat_rf]) dX12_stands_59 ?_
          cases h
          exact g_iret o hr hE dX12_stands_62
        · have h := (if_pos z).symm.trans h
          refine g_iconst (v := (-1 : Int32)) o dX12_stands_51 (by decide) ?_
          refine g_goto (tgt := 62) o dX12_stands_52 (by decide) ?_
          cases h
          exact g_iret o hr hE dX12_stands_62
    · have h := (if_pos z).symm.trans h
      refine g_aload_n o dX12_stands_29 1 rfl ?_
      refine g_bipush (v := (-12 : Int32)) o dX12_stands_30 (by decide) ?_
      obtain ⟨x9, e10, h⟩ := ob h
      refine g_invV0 o (rc_self hk0) (by decide) ml_X12_72 kb_X12_no kv_X12_no rfl (c_X12_no (cq X) (cD X) (cY X) (cB X) (d := d) (by omega) (rc_at (rc_self hk0)).2 e10) rfl rfl (by simp [cat_i, cat_l, cat_rf]) dX12_stands_32 ?_
      cases h
      exact g_iret o hr hE dX12_stands_35
  · have h := (if_neg z).symm.trans h
    refine g_aload_n o dX12_stands_11 1 rfl ?_
    refine g_iload_n o dX12_stands_12 0 rfl ?_
    obtain ⟨x11, e12, h⟩ := ob h
    refine g_invV0 o (rc_self hk0) (by decide) ml_X12_72 kb_X12_no kv_X12_no rfl (c_X12_no (cq X) (cD X) (cY X) (cB X) (d := d) (by omega) (rc_at (rc_self hk0)).2 e12) rfl rfl (by simp [cat_i, cat_l, cat_rf]) dX12_stands_13 ?_
    cases h
    exact g_iret o hr hE dX12_stands_16
theorem c_X12_stands (l : Launch) (D : va_G) (Y : Nat → ClassId) (B : Nat) {d : Nat} {n : Nat} {K L : Nat → Nat} {M : Mm} {a0 : Nat} {v1 : Int32} {v2 : Int32} {r : (Int32 × Mm)} (hd : 3 ≤ d) (hk0 : K a0 = 12) (h : f_X12_stands K L a0 v1 v2 M = some r) : mC l D Y B d yX12_stands cX12_stands 4 (some .int) [va_rf (some a0), .int v1, .int v2] n K L M n K L r.2 (some (.int r.1)) 0 0 := by
  obtain ⟨d, rfl⟩ : ∃ e, d = e + 1 := ⟨d - 1, by omega⟩
  refine mk_met (by decide) (by simp [lgs_r, lgs_i, lgs_l, lgs_n]) (fun X e1 e2 e3 e4 o hL hr hnm hz hc hs hE => ?_)
  subst e1 e2 e3 e4
  rw [show lv_args 0 [va_rf (some a0), .int v1, .int v2] = [(0, va_rf (some a0)), (1, .int v1), (2, .int v2)] by simp [lva_r, lva_i, lva_l, lva_n]]
  exact w_X12_stands_0 o hL hr hz hk0 hE hd h
def f_X12_budget_103 (K L : Nat → Nat) (a0 : Nat) (s0 : Int32) (s1 : Int32) (s2 : Int32) (s3 : (Option Nat)) (M : Mm) : Option (Int32 × Mm) :=
  Option.bind (rc K s3 12) (fun a1 =>
  Option.bind (f_X12_to K L a1 s2 s1 s0 M) (fun x3 =>
  some ((1 : Int32), x3)))
set_option maxHeartbeats 4000000 in
theorem w_X12_budget_103 {X : Cx} {d n : Nat} {K L : Nat → Nat} {a0 : Nat} {r : (Int32 × Mm)} {s0 : Int32} {s1 : Int32} {s2 : Int32} {s3 : (Option Nat)} {M : Mm} (o : cOk X cX12_budget RX12 (d + 1)) (hL : cL X = 7) (hr : (ch X).sig.returnType = some .int) (hz : (cs X).heap.size + 0 = cB X + n) (hk0 : K a0 = 12) (hE : cE X n K L r.2 (some (.int r.1)) 0 0) (hd : 3 ≤ d + 1) (h : f_X12_budget_103 K L a0 s0 s1 s2 s3 M = some r) : gW X 0 0 n K L M 103 [(0, va_rf (some a0))] [.int s0, .int s1, .int s2, va_rf s3] := by
  unfold f_X12_budget_103 at h
  obtain ⟨a1, e2, h⟩ := ob h
  obtain ⟨x3, e4, h⟩ := ob h
  refine g_invV0 o e2 (by decide) ml_X12_125 kb_X12_to kv_X12_to rfl (c_X12_to (cq X) (cD X) (cY X) (cB X) (d := d) (by omega) (rc_at e2).2 e4) rfl rfl (by simp [cat_i, cat_l, cat_rf]) dX12_budget_103 ?_
  refine g_iconst (v := (1 : Int32)) o dX12_budget_106 (by decide) ?_
  cases h
  exact g_iret o hr hE dX12_budget_107
def f_X12_budget_57 (K L : Nat → Nat) (a0 : Nat) (M : Mm) : Option (Int32 × Mm) :=
  Option.bind (f_X12_no K L a0 (-12 : Int32) M) (fun x1 =>
  some (x1.1, x1.2))
set_option maxHeartbeats 4000000 in
theorem w_X12_budget_57 {X : Cx} {d n : Nat} {K L : Nat → Nat} {a0 : Nat} {r : (Int32 × Mm)} {M : Mm} (o : cOk X cX12_budget RX12 (d + 1)) (hL : cL X = 7) (hr : (ch X).sig.returnType = some .int) (hz : (cs X).heap.size + 0 = cB X + n) (hk0 : K a0 = 12) (hE : cE X n K L r.2 (some (.int r.1)) 0 0) (hd : 3 ≤ d + 1) (h : f_X12_budget_57 K L a0  M = some r) : gW X 0 0 n K L M 57 [(0, va_rf (some a0))] [] := by
  unfold f_X12_budget_57 at h
  refine g_aload_n o dX12_budget_57 0 rfl ?_
  refine g_bipush (v := (-12 : Int32)) o dX12_budget_58 (by decide) ?_
  obtain ⟨x1, e2, h⟩ := ob h
  refine g_invV0 o (rc_self hk0) (by decide) ml_X12_72 kb_X12_no kv_X12_no rfl (c_X12_no (cq X) (cD X) (cY X) (cB X) (d := d) (by omega) (rc_at (rc_self hk0)).2 e2) rfl rfl (by simp [cat_i, cat_l, cat_rf]) dX12_budget_60 ?_
  cases h
  exact g_iret o hr hE dX12_budget_63
def f_X12_budget (K L : Nat → Nat) (a0 : Nat) (v1 : Int32) (v2 : Int32) (v3 : Int32) (v4 : Int32) (v5 : Int32) (M : Mm) : Option (Int32 × Mm) :=
  Option.bind (f_X12_why K L M a0 v1 (1 : Int32)) (fun x1 =>
  if x1 = 0 then
    Option.bind (f_X12_isIn (v2.toInt64) (1 : Int64) (60 : Int64)) (fun x3 =>
    if x3 = 0 then
      f_X12_budget_57 K L a0 M
    else
      Option.bind (f_X12_isIn (v3.toInt64) (0 : Int64) (1000000 : Int64)) (fun x5 =>
      if x5 = 0 then
        f_X12_budget_57 K L a0 M
      else
        Option.bind (f_X12_isIn (v4.toInt64) (0 : Int64) (10000 : Int64)) (fun x7 =>
        if x7 = 0 then
          f_X12_budget_57 K L a0 M
        else
          Option.bind (f_X12_to K L a0 v1 (70 : Int32) v2 M) (fun x9 =>
          Option.bind (f_X12_to K L a0 v1 (71 : Int32) v3 x9) (fun x11 =>
          Option.bind (f_X12_to K L a0 v1 (72 : Int32) v4 x11) (fun x13 =>
          if v5 = 0 then
            f_X12_budget_103 K L a0 (0 : Int32) (74 : Int32) v1 (some a0) x13
          else
            f_X12_budget_103 K L a0 (1 : Int32) (74 : Int32) v1 (some a0) x13))))))
  else
    Option.bind (f_X12_no K L a0 x1 M) (fun x15 =>
    some (x15.1, x15.2)))
set_option maxHeartbeats 4000000 in
theorem w_X12_budget_0 {X : Cx} {d n : Nat} {K L : Nat → Nat} {a0 : Nat} {r : (Int32 × Mm)} {v1 : Int32} {v2 : Int32} {v3 : Int32} {v4 : Int32} {v5 : Int32} {M : Mm} (o : cOk X cX12_budget RX12 (d + 1)) (hL : cL X = 7) (hr : (ch X).sig.returnType = some .int) (hz : (cs X).heap.size + 0 = cB X + n) (hk0 : K a0 = 12) (hE : cE X n K L r.2 (some (.int r.1)) 0 0) (hd : 3 ≤ d + 1) (h : f_X12_budget K L a0 v1 v2 v3 v4 v5 M = some r) : gW X 0 0 n K L M 0 [(0, va_rf (some a0)), (1, .int v1), (2, .int v2), (3, .int v3), (4, .int v4), (5, .int v5)] [] := by
  unfold f_X12_budget at h
  refine g_aload_n o dX12_budget_0 0 rfl ?_
  refine g_iload_n o dX12_budget_1 1 rfl ?_
  refine g_iconst (v := (1 : Int32)) o dX12_budget_2 (by decide) ?_
  obtain ⟨x1, e2, h⟩ := ob h
  refine g_invV0 o (rc_self hk0) (by decide) ml_X12_119 kb_X12_why kv_X12_why rfl (c_X12_why (cq X) (cD X) (cY X) (cB X) (d := d) (by omega) (rc_at (rc_self hk0)).2 e2) rfl rfl (by simp [cat_i, cat_l, cat_rf]) dX12_budget_3 ?_
  refine g_istore (i := 6) (ls' := [(6, .int x1), (0, va_rf (some a0)), (1, .int v1), (2, .int v2), (3, .int v3), (4, .int v4), (5, .int v5)]) o dX12_budget_6 (ltL hL (by decide)) rfl ?_
  refine g_iload o dX12_budget_8 0 rfl ?_
  refine g_if_eq (tgt := 20) o dX12_budget_10 (by decide) (fun z => ?_) (fun z => ?_)
  · have h := (if_pos z).symm.trans h
    refine g_iload_n o dX12_budget_20 3 rfl ?_
    refine g_i2l o dX12_budget_21 ?_
    refine g_lconst (v := (1 : Int64)) o dX12_budget_22 (by decide) ?_
    refine g_ldc2 (v := (60 : Int64)) o kc_X12_199 dX12_budget_23 ?_
    obtain ⟨x3, e4, h⟩ := ob h
    refine g_invS0 o ml_X12_62 kb_X12_isIn ks_X12_isIn (c_X12_isIn (cq X) (cD X) (cY X) (cB X) (d := d) (by omega) e4) rfl rfl (by simp [cat_i, cat_l, cat_rf]) dX12_budget_26 ?_
    refine g_if_eq (tgt := 57) o dX12_budget_29 (by decide) (fun z => ?_) (fun z => ?_)
    · have h := (if_pos z).symm.trans h
      refine gsub [1] rfl ?_
      exact w_X12_budget_57 o hL hr hz hk0 hE hd h
    · have h := (if_neg z).symm.trans h
      refine g_iload_n o dX12_budget_32 4 rfl ?_
      refine g_i2l o dX12_budget_33 ?_
      refine g_lconst (v := (0 : Int64)) o dX12_budget_34 (by decide) ?_
      refine g_ldc2 (v := (1000000 : Int64)) o kc_X12_201 dX12_budget_35 ?_
      obtain ⟨x5, e6, h⟩ := ob h
      refine g_invS0 o ml_X12_62 kb_X12_isIn ks_X12_isIn (c_X12_isIn (cq X) (cD X) (cY X) (cB X) (d := d) (by omega) e6) rfl rfl (by simp [cat_i, cat_l, cat_rf]) dX12_budget_38 ?_
      refine g_if_eq (tgt := 57) o dX12_budget_41 (by decide) (fun z => ?_) (fun z => ?_)
      · have h := (if_pos z).symm.trans h
        refine gsub [1] rfl ?_
        exact w_X12_budget_57 o hL hr hz hk0 hE hd h
      · have h := (if_neg z).symm.trans h
        refine g_iload o dX12_budget_44 5 rfl ?_
        refine g_i2l o dX12_budget_46 ?_
        refine g_lconst (v := (0 : Int64)) o dX12_budget_47 (by decide) ?_
        refine g_ldc2 (v := (10000 : Int64)) o kc_X12_89 dX12_budget_48 ?_
        obtain ⟨x7, e8, h⟩ := ob h
        refine g_invS0 o ml_X12_62 kb_X12_isIn ks_X12_isIn (c_X12_isIn (cq X) (cD X) (cY X) (cB X) (d := d) (by omega) e8) rfl rfl (by simp [cat_i, cat_l, cat_rf]) dX12_budget_51 ?_
        refine g_if_ne (tgt := 64) o dX12_budget_54 (by decide) (fun z => ?_) (fun z => ?_)
        · have h := (if_neg z).symm.trans h
          refine g_aload_n o dX12_budget_64 1 rfl ?_
          refine g_iload_n o dX12_budget_65 2 rfl ?_
          refine g_bipush (v := (70 : Int32)) o dX12_budget_66 (by decide) ?_
          refine g_iload_n o dX12_budget_68 3 rfl ?_
          obtain ⟨x9, e10, h⟩ := ob h
          refine g_invV0 o (rc_self hk0) (by decide) ml_X12_125 kb_X12_to kv_X12_to rfl (c_X12_to (cq X) (cD X) (cY X) (cB X) (d := d) (by omega) (rc_at (rc_self hk0)).2 e10) rfl rfl (by simp [cat_i, cat_l, cat_rf]) dX12_budget_69 ?_
          refine g_aload_n o dX12_budget_72 1 rfl ?_
          refine g_iload_n o dX12_budget_73 2 rfl ?_
          refine g_bipush (v := (71 : Int32)) o dX12_budget_74 (by decide) ?_
          refine g_iload_n o dX12_budget_76 4 rfl ?_
          obtain ⟨x11, e12, h⟩ := ob h
          refine g_invV0 o (rc_self hk0) (by decide) ml_X12_125 kb_X12_to kv_X12_to rfl (c_X12_to (cq X) (cD X) (cY X) (cB X) (d := d) (by omega) (rc_at (rc_self hk0)).2 e12) rfl rfl (by simp [cat_i, cat_l, cat_rf]) dX12_budget_77 ?_
          refine g_aload_n o dX12_budget_80 1 rfl ?_
          refine g_iload_n o dX12_budget_81 2 rfl ?_
          refine g_bipush (v := (72 : Int32)) o dX12_budget_82 (by decide) ?_
          refine g_iload o dX12_budget_84 5 rfl ?_
          obtain ⟨x13, e14, h⟩ := ob h
          refine g_invV0 o (rc_self hk0) (by decide) ml_X12_125 kb_X12_to kv_X12_to rfl (c_X12_to (cq X) (cD X) (cY X) (cB X) (d := d) (by omega) (rc_at (rc_self hk0)).2 e14) rfl rfl (by simp [cat_i, cat_l, cat_rf]) dX12_budget_86 ?_
          refine g_aload_n o dX12_budget_89 1 rfl ?_
          refine g_iload_n o dX12_budget_90 2 rfl ?_
          refine g_bipush (v := (74 : Int32)) o dX12_budget_91 (by decide) ?_
          refine g_iload o dX12_budget_93 6 rfl ?_
          refine g_if_eq (tgt := 102) o dX12_budget_95 (by decide) (fun z => ?_) (fun z => ?_)
          · have h := (if_pos z).symm.trans h
            refine g_iconst (v := (0 : Int32)) o dX12_budget_102 (by decide) ?_
            refine gsub [1] rfl ?_
            exact w_X12_budget_103 o hL hr hz hk0 hE hd h
          · have h := (if_neg z).symm.trans h
            refine g_iconst (v := (1 : Int32)) o dX12_budget_98 (by decide) ?_
            refine g_goto (tgt := 103) o dX12_budget_99 (by decide) ?_
            refine gsub [1] rfl ?_
            exact w_X12_budget_103 o hL hr hz hk0 hE hd h
        · have h := (if_pos z).symm.trans h
          refine gsub [1] rfl ?_
          exact w_X12_budget_57 o hL hr hz hk0 hE hd h
  · have h := (if_neg z).symm.trans h
    refine g_aload_n o dX12_budget_13 1 rfl ?_
    refine g_iload o dX12_budget_14 0 rfl ?_
    obtain ⟨x15, e16, h⟩ := ob h
    refine g_invV0 o (rc_self hk0) (by decide) ml_X12_72 kb_X12_no kv_X12_no rfl (c_X12_no (cq X) (cD X) (cY X) (cB X) (d := d) (by omega) (rc_at (rc_self hk0)).2 e16) rfl rfl (by simp [cat_i, cat_l, cat_rf]) dX12_budget_16 ?_
    cases h
    exact g_iret o hr hE dX12_budget_19
theorem c_X12_budget (l : Launch) (D : va_G) (Y : Nat → ClassId) (B : Nat) {d : Nat} {n : Nat} {K L : Nat → Nat} {M : Mm} {a0 : Nat} {v1 : Int32} {v2 : Int32} {v3 : Int32} {v4 : Int32} {v5 : Int32} {r : (Int32 × Mm)} (hd : 3 ≤ d) (hk0 : K a0 = 12) (h : f_X12_budget K L a0 v1 v2 v3 v4 v5 M = some r) : mC l D Y B d yX12_budget cX12_budget 7 (some .int) [va_rf (some a0), .int v1, .int v2, .int v3, .int v4, .int v5] n K L M n K L r.2 (some (.int r.1)) 0 0 := by
  obtain ⟨d, rfl⟩ : ∃ e, d = e + 1 := ⟨d - 1, by omega⟩
  refine mk_met (by decide) (by simp [lgs_r, lgs_i, lgs_l, lgs_n]) (fun X e1 e2 e3 e4 o hL hr hnm hz hc hs hE => ?_)
  subst e1 e2 e3 e4
  rw [show lv_args 0 [va_rf (some a0), .int v1, .int v2, .int v3, .int v4, .int v5] = [(0, va_rf (some a0)), (1, .int v1), (2, .int v2), (3, .int v3), (4, .int v4), (5, .int v5)] by simp [lva_r, lva_i, lva_l, lva_n]]
  exact w_X12_budget_0 o hL hr hz hk0 hE hd h
def f_X12_waits (K L : Nat → Nat) (a0 : Nat) (v1 : Int32) (v2 : Int32) (M : Mm) : Option (Int32 × Mm) :=
  Option.bind (f_X12_why K L M a0 v1 (1 : Int32)) (fun x1 =>
  if x1 = 0 then
    Option.bind (f_X12_isIn (v2.toInt64) (0 : Int64) (100 : Int64)) (fun x3 =>
    if x3 = 0 then
      Option.bind (f_X12_no K L a0 (-12 : Int32) M) (fun x9 =>
      some (x9.1, x9.2))
    else
      Option.bind (f_X12_of K L M a0 v1 (73 : Int32)) (fun x5 =>
      Option.bind (f_X12_to K L a0 v1 (73 : Int32) v2 M) (fun x7 =>
      some (x5, x7))))
  else
    Option.bind (f_X12_no K L a0 x1 M) (fun x11 =>
    some (x11.1, x11.2)))
set_option maxHeartbeats 4000000 in
theorem w_X12_waits_0 {X : Cx} {d n : Nat} {K L : Nat → Nat} {a0 : Nat} {r : (Int32 × Mm)} {v1 : Int32} {v2 : Int32} {M : Mm} (o : cOk X cX12_waits RX12 (d + 1)) (hL : cL X = 5) (hr : (ch X).sig.returnType = some .int) (hz : (cs X).heap.size + 0 = cB X + n) (hk0 : K a0 = 12) (hE : cE X n K L r.2 (some (.int r.1)) 0 0) (hd : 3 ≤ d + 1) (h : f_X12_waits K L a0 v1 v2 M = some r) : gW X 0 0 n K L M 0 [(0, va_rf (some a0)), (1, .int v1), (2, .int v2)] [] := by
  unfold f_X12_waits at h
  refine g_aload_n o dX12_waits_0 0 rfl ?_
  refine g_iload_n o dX12_waits_1 1 rfl ?_
  refine g_iconst (v := (1 : Int32)) o dX12_waits_2 (by decide) ?_
  obtain ⟨x1, e2, h⟩ := ob h
  refine g_invV0 o (rc_self hk0) (by decide) ml_X12_119 kb_X12_why kv_X12_why rfl (c_X12_why (cq X) (cD X) (cY X) (cB X) (d := d) (by omega) (rc_at (rc_self hk0)).2 e2) rfl rfl (by simp [cat_i, cat_l, cat_rf]) dX12_waits_3 ?_
  refine g_istore_n (i := 3) (ls' := [(3, .int x1), (0, va_rf (some a0)), (1, .int v1), (2, .int v2)]) o dX12_waits_6 rfl (ltL hL (by decide)) rfl ?_
  refine g_iload_n o dX12_waits_7 0 rfl ?_
  refine g_if_eq (tgt := 17) o dX12_waits_8 (by decide) (fun z => ?_) (fun z => ?_)
  · have h := (if_pos z).symm.trans h
    refine g_iload_n o dX12_waits_17 3 rfl ?_
    refine g_i2l o dX12_waits_18 ?_
    refine g_lconst (v := (0 : Int64)) o dX12_waits_19 (by decide) ?_
    refine g_ldc2 (v := (100 : Int64)) o kc_X12_203 dX12_waits_20 ?_
    obtain ⟨x3, e4, h⟩ := ob h
    refine g_invS0 o ml_X12_62 kb_X12_isIn ks_X12_isIn (c_X12_isIn (cq X) (cD X) (cY X) (cB X) (d := d) (by omega) e4) rfl rfl (by simp [cat_i, cat_l, cat_rf]) dX12_waits_23 ?_
    refine g_if_ne (tgt := 36) o dX12_waits_26 (by decide) (fun z => ?_) (fun z => ?_)
    · have h := (if_neg z).symm.trans h
      refine g_aload_n o dX12_waits_36 1 rfl ?_
      refine g_iload_n o dX12_waits_37 2 rfl ?_
      refine g_bipush (v := (73 : Int32)) o dX12_waits_38 (by decide) ?_
      obtain ⟨x5, e6, h⟩ := ob h
      refine g_invV0 o (rc_self hk0) (by decide) ml_X12_43 kb_X12_of kv_X12_of rfl (c_X12_of (cq X) (cD X) (cY X) (cB X) (d := d) (by omega) (rc_at (rc_self hk0)).2 e6) rfl rfl (by simp [cat_i, cat_l, cat_rf]) dX12_waits_40 ?_
      refine g_istore (i := 4) (ls' := [(4, .int x5), (3, .int x1), (0, va_rf (some a0)), (1, .int v1), (2, .int v2)]) o dX12_waits_43 (ltL hL (by decide)) rfl ?_
      refine g_aload_n o dX12_waits_45 2 rfl ?_
      refine g_iload_n o dX12_waits_46 3 rfl ?_
      refine g_bipush (v := (73 : Int32)) o dX12_waits_47 (by decide) ?_
      refine g_iload_n o dX12_waits_49 4 rfl ?_
      obtain ⟨x7, e8, h⟩ := ob h
      refine g_invV0 o (rc_self hk0) (by decide) ml_X12_125 kb_X12_to kv_X12_to rfl (c_X12_to (cq X) (cD X) (cY X) (cB X) (d := d) (by omega) (rc_at (rc_self hk0)).2 e8) rfl rfl (by simp [cat_i, cat_l, cat_rf]) dX12_waits_50 ?_
      refine g_iload o dX12_waits_53 0 rfl ?_
      cases h
      exact g_iret o hr hE dX12_waits_55
    · have h := (if_pos z).symm.trans h
      refine g_aload_n o dX12_waits_29 1 rfl ?_
      refine g_bipush (v := (-12 : Int32)) o dX12_waits_30 (by decide) ?_
      obtain ⟨x9, e10, h⟩ := ob h
      refine g_invV0 o (rc_self hk0) (by decide) ml_X12_72 kb_X12_no kv_X12_no rfl (c_X12_no (cq X) (cD X) (cY X) (cB X) (d := d) (by omega) (rc_at (rc_self hk0)).2 e10) rfl rfl (by simp [cat_i, cat_l, cat_rf]) dX12_waits_32 ?_
      cases h
      exact g_iret o hr hE dX12_waits_35
  · have h := (if_neg z).symm.trans h
    refine g_aload_n o dX12_waits_11 1 rfl ?_
    refine g_iload_n o dX12_waits_12 0 rfl ?_
    obtain ⟨x11, e12, h⟩ := ob h
    refine g_invV0 o (rc_self hk0) (by decide) ml_X12_72 kb_X12_no kv_X12_no rfl (c_X12_no (cq X) (cD X) (cY X) (cB X) (d := d) (by omega) (rc_at (rc_self hk0)).2 e12) rfl rfl (by simp [cat_i, cat_l, cat_rf]) dX12_waits_13 ?_
    cases h
    exact g_iret o hr hE dX12_waits_16
theorem c_X12_waits (l : Launch) (D : va_G) (Y : Nat → ClassId) (B : Nat) {d : Nat} {n : Nat} {K L : Nat → Nat} {M : Mm} {a0 : Nat} {v1 : Int32} {v2 : Int32} {r : (Int32 × Mm)} (hd : 3 ≤ d) (hk0 : K a0 = 12) (h : f_X12_waits K L a0 v1 v2 M = some r) : mC l D Y B d yX12_waits cX12_waits 5 (some .int) [va_rf (some a0), .int v1, .int v2] n K L M n K L r.2 (some (.int r.1)) 0 0 := by
  obtain ⟨d, rfl⟩ : ∃ e, d = e + 1 := ⟨d - 1, by omega⟩
  refine mk_met (by decide) (by simp [lgs_r, lgs_i, lgs_l, lgs_n]) (fun X e1 e2 e3 e4 o hL hr hnm hz hc hs hE => ?_)
  subst e1 e2 e3 e4
  rw [show lv_args 0 [va_rf (some a0), .int v1, .int v2] = [(0, va_rf (some a0)), (1, .int v1), (2, .int v2)] by simp [lva_r, lva_i, lva_l, lva_n]]
  exact w_X12_waits_0 o hL hr hz hk0 hE hd h
def f_X12_isWay  (v0 : Int32) : Option Int32 :=
  if v0 < 0 then
    some (0 : Int32)
  else
    if (4 : Int32) ≤ v0 then
      some (0 : Int32)
    else
      some (1 : Int32)
set_option maxHeartbeats 4000000 in
theorem w_X12_isWay_0 {X : Cx} {d n : Nat} {K L : Nat → Nat} {M : Mm} {r : Int32} {v0 : Int32} (o : cOk X cX12_isWay RX12 d) (hL : cL X = 1) (hr : (ch X).sig.returnType = some .boolean) (hE : cE X n K L M (some (.int r)) 0 0) (h : f_X12_isWay  v0 = some r) : gW X 0 0 n K L M 0 [(0, .int v0)] [] := by
  unfold f_X12_isWay at h
  refine g_iload_n o dX12_isWay_0 0 rfl ?_
  refine g_if_lt (tgt := 13) o dX12_isWay_1 (by decide) (fun z => ?_) (fun z => ?_)
  · have h := (if_pos z).symm.trans h
    refine g_iconst (v := (0 : Int32)) o dX12_isWay_13 (by decide) ?_
    cases h
    exact g_zret o hr (by decide) hE dX12_isWay_14
  · have h := (if_neg z).symm.trans h
    refine g_iload_n o dX12_isWay_4 0 rfl ?_
    refine g_iconst (v := (4 : Int32)) o dX12_isWay_5 (by decide) ?_
    refine g_icmp_ge (tgt := 13) o dX12_isWay_6 (by decide) (fun z => ?_) (fun z => ?_)
    · have h := (if_pos z).symm.trans h
      refine g_iconst (v := (0 : Int32)) o dX12_isWay_13 (by decide) ?_
      cases h
      exact g_zret o hr (by decide) hE dX12_isWay_14
    · have h := (if_neg z).symm.trans h
      refine g_iconst (v := (1 : Int32)) o dX12_isWay_9 (by decide) ?_
      refine g_goto (tgt := 14) o dX12_isWay_10 (by decide) ?_
      cases h
      exact g_zret o hr (by decide) hE dX12_isWay_14
theorem c_X12_isWay (l : Launch) (D : va_G) (Y : Nat → ClassId) (B : Nat) {d : Nat} {n : Nat} {K L : Nat → Nat} {M : Mm} {v0 : Int32} {r : Int32} (hd : 0 ≤ d) (h : f_X12_isWay  v0 = some r) : mC l D Y B d yX12_isWay cX12_isWay 1 (some .boolean) [.int v0] n K L M n K L M (some (.int r)) 0 0 := by
  refine mk_met (by decide) (by simp [lgs_r, lgs_i, lgs_l, lgs_n]) (fun X e1 e2 e3 e4 o hL hr hnm hz hc hs hE => ?_)
  subst e1 e2 e3 e4
  rw [show lv_args 0 [.int v0] = [(0, .int v0)] by simp [lva_r, lva_i, lva_l, lva_n]]
  exact w_X12_isWay_0 o hL hr hE h
def f_X12_whyCounts (K L : Nat → Nat) (M : Mm) (a0 : Nat) (v1 : Int32) (v2 : Int32) (v3 : Int32) : Option Int32 :=
  Option.bind (f_X12_isPlace v1) (fun x1 =>
  if x1 = 0 then
    some (-3 : Int32)
  else
    Option.bind (f_X12_isWay v2) (fun x3 =>
    if x3 = 0 then
      some (-3 : Int32)
    else
      Option.bind (f_X12_isMinute v3) (fun x5 =>
      if x5 = 0 then
        some (-3 : Int32)
      else
        Option.bind (f_X12_why K L M a0 v1 (0 : Int32)) (fun x7 =>
        if x7 = 0 then
          Option.bind (f_X12_of K L M a0 v1 ((90 : Int32) + v2)) (fun x9 =>
          if x9 = 0 then
            some (-2 : Int32)
          else
            some (0 : Int32))
        else
          some x7))))
set_option maxHeartbeats 4000000 in
theorem w_X12_whyCounts_0 {X : Cx} {d n : Nat} {K L : Nat → Nat} {M : Mm} {a0 : Nat} {r : Int32} {v1 : Int32} {v2 : Int32} {v3 : Int32} (o : cOk X cX12_whyCounts RX12 (d + 1)) (hL : cL X = 5) (hr : (ch X).sig.returnType = some .int) (hk0 : K a0 = 12) (hE : cE X n K L M (some (.int r)) 0 0) (hd : 3 ≤ d + 1) (h : f_X12_whyCounts K L M a0 v1 v2 v3 = some r) : gW X 0 0 n K L M 0 [(0, va_rf (some a0)), (1, .int v1), (2, .int v2), (3, .int v3)] [] := by
  unfold f_X12_whyCounts at h
  refine g_iload_n o dX12_whyCounts_0 1 rfl ?_
  obtain ⟨x1, e2, h⟩ := ob h
  refine g_invS0 o ml_X12_47 kb_X12_isPlace ks_X12_isPlace (c_X12_isPlace (cq X) (cD X) (cY X) (cB X) (d := d) (by omega) e2) rfl rfl (by simp [cat_i, cat_l, cat_rf]) dX12_whyCounts_1 ?_
  refine g_if_eq (tgt := 21) o dX12_whyCounts_4 (by decide) (fun z => ?_) (fun z => ?_)
  · have h := (if_pos z).symm.trans h
    refine g_bipush (v := (-3 : Int32)) o dX12_whyCounts_21 (by decide) ?_
    cases h
    exact g_iret o hr hE dX12_whyCounts_23
  · have h := (if_neg z).symm.trans h
    refine g_iload_n o dX12_whyCounts_7 2 rfl ?_
    obtain ⟨x3, e4, h⟩ := ob h
    refine g_invS0 o ml_X12_205 kb_X12_isWay ks_X12_isWay (c_X12_isWay (cq X) (cD X) (cY X) (cB X) (d := d) (by omega) e4) rfl rfl (by simp [cat_i, cat_l, cat_rf]) dX12_whyCounts_8 ?_
    refine g_if_eq (tgt := 21) o dX12_whyCounts_11 (by decide) (fun z => ?_) (fun z => ?_)
    · have h := (if_pos z).symm.trans h
      refine g_bipush (v := (-3 : Int32)) o dX12_whyCounts_21 (by decide) ?_
      cases h
      exact g_iret o hr hE dX12_whyCounts_23
    · have h := (if_neg z).symm.trans h
      refine g_iload_n o dX12_whyCounts_14 3 rfl ?_
      obtain ⟨x5, e6, h⟩ := ob h
      refine g_invS0 o ml_X12_188 kb_X12_isMinute ks_X12_isMinute (c_X12_isMinute (cq X) (cD X) (cY X) (cB X) (d := d) (by omega) e6) rfl rfl (by simp [cat_i, cat_l, cat_rf]) dX12_whyCounts_15 ?_
      refine g_if_ne (tgt := 24) o dX12_whyCounts_18 (by decide) (fun z => ?_) (fun z => ?_)
      · have h := (if_neg z).symm.trans h
        refine g_aload_n o dX12_whyCounts_24 0 rfl ?_
        refine g_iload_n o dX12_whyCounts_25 1 rfl ?_
        refine g_iconst (v := (0 : Int32)) o dX12_whyCounts_26 (by decide) ?_
        obtain ⟨x7, e8, h⟩ := ob h
        refine g_invV0 o (rc_self hk0) (by decide) ml_X12_119 kb_X12_why kv_X12_why rfl (c_X12_why (cq X) (cD X) (cY X) (cB X) (d := d) (by omega) (rc_at (rc_self hk0)).2 e8) rfl rfl (by simp [cat_i, cat_l, cat_rf]) dX12_whyCounts_27 ?_
        refine g_istore (i := 4) (ls' := [(4, .int x7), (0, va_rf (some a0)), (1, .int v1), (2, .int v2), (3, .int v3)]) o dX12_whyCounts_30 (ltL hL (by decide)) rfl ?_
        refine g_iload o dX12_whyCounts_32 0 rfl ?_
        refine g_if_eq (tgt := 42) o dX12_whyCounts_34 (by decide) (fun z => ?_) (fun z => ?_)
        · have h := (if_pos z).symm.trans h
          refine g_aload_n o dX12_whyCounts_42 1 rfl ?_
          refine g_iload_n o dX12_whyCounts_43 2 rfl ?_
          refine g_bipush (v := (90 : Int32)) o dX12_whyCounts_44 (by decide) ?_
          refine g_iload_n o dX12_whyCounts_46 3 rfl ?_
          refine g_iadd o dX12_whyCounts_47 ?_
          obtain ⟨x9, e10, h⟩ := ob h
          refine g_invV0 o (rc_self hk0) (by decide) ml_X12_43 kb_X12_of kv_X12_of rfl (c_X12_of (cq X) (cD X) (cY X) (cB X) (d := d) (by omega) (rc_at (rc_self hk0)).2 e10) rfl rfl (by simp [cat_i, cat_l, cat_rf]) dX12_whyCounts_48 ?_
          refine g_if_ne (tgt := 59) o dX12_whyCounts_51 (by decide) (fun z => ?_) (fun z => ?_)
          · have h := (if_neg z).symm.trans h
            refine g_iconst (v := (0 : Int32)) o dX12_whyCounts_59 (by decide) ?_
            cases h
            exact g_iret o hr hE dX12_whyCounts_60
          · have h := (if_pos z).symm.trans h
            refine g_bipush (v := (-2 : Int32)) o dX12_whyCounts_54 (by decide) ?_
            refine g_goto (tgt := 60) o dX12_whyCounts_56 (by decide) ?_
            cases h
            exact g_iret o hr hE dX12_whyCounts_60
        · have h := (if_neg z).symm.trans h
          refine g_iload o dX12_whyCounts_37 0 rfl ?_
          refine g_goto (tgt := 60) o dX12_whyCounts_39 (by decide) ?_
          cases h
          exact g_iret o hr hE dX12_whyCounts_60
      · have h := (if_pos z).symm.trans h
        refine g_bipush (v := (-3 : Int32)) o dX12_whyCounts_21 (by decide) ?_
        cases h
        exact g_iret o hr hE dX12_whyCounts_23
theorem c_X12_whyCounts (l : Launch) (D : va_G) (Y : Nat → ClassId) (B : Nat) {d : Nat} {n : Nat} {K L : Nat → Nat} {M : Mm} {a0 : Nat} {v1 : Int32} {v2 : Int32} {v3 : Int32} {r : Int32} (hd : 3 ≤ d) (hk0 : K a0 = 12) (h : f_X12_whyCounts K L M a0 v1 v2 v3 = some r) : mC l D Y B d yX12_whyCounts cX12_whyCounts 5 (some .int) [va_rf (some a0), .int v1, .int v2, .int v3] n K L M n K L M (some (.int r)) 0 0 := by
  obtain ⟨d, rfl⟩ : ∃ e, d = e + 1 := ⟨d - 1, by omega⟩
  refine mk_met (by decide) (by simp [lgs_r, lgs_i, lgs_l, lgs_n]) (fun X e1 e2 e3 e4 o hL hr hnm hz hc hs hE => ?_)
  subst e1 e2 e3 e4
  rw [show lv_args 0 [va_rf (some a0), .int v1, .int v2, .int v3] = [(0, va_rf (some a0)), (1, .int v1), (2, .int v2), (3, .int v3)] by simp [lva_r, lva_i, lva_l, lva_n]]
  exact w_X12_whyCounts_0 o hL hr hk0 hE hd h
def f_X12_count_205 (K L : Nat → Nat) (fu : Nat) (a0 : Nat) (v1 : Int32) (M : Mm) : Option (Int32 × Mm) :=
  Option.bind (f_X12_of K L M a0 v1 (37 : Int32)) (fun x1 =>
  some (x1, M))
set_option maxHeartbeats 4000000 in
theorem w_X12_count_205 {X : Cx} {d n : Nat} {K L : Nat → Nat} {fu : Nat} {a0 : Nat} {r : (Int32 × Mm)} {v1 : Int32} {M : Mm} (o : cOk X cX12_count RX12 (d + 1)) (hL : cL X = 9) (hr : (ch X).sig.returnType = some .int) (hz : (cs X).heap.size + 0 = cB X + n) (hk0 : K a0 = 12) (hE : cE X n K L r.2 (some (.int r.1)) 0 0) (hd : 4 ≤ d + 1) (h : f_X12_count_205 K L fu a0 v1 M = some r) : gW X 0 0 n K L M 205 [(0, va_rf (some a0)), (1, .int v1)] [] := by
  unfold f_X12_count_205 at h
  refine g_aload_n o dX12_count_205 0 rfl ?_
  refine g_iload_n o dX12_count_206 1 rfl ?_
  refine g_bipush (v := (37 : Int32)) o dX12_count_207 (by decide) ?_
  obtain ⟨x1, e2, h⟩ := ob h
  refine g_invV0 o (rc_self hk0) (by decide) ml_X12_43 kb_X12_of kv_X12_of rfl (c_X12_of (cq X) (cD X) (cY X) (cB X) (d := d) (by omega) (rc_at (rc_self hk0)).2 e2) rfl rfl (by simp [cat_i, cat_l, cat_rf]) dX12_count_209 ?_
  cases h
  exact g_iret o hr hE dX12_count_212
def f_X12_count_168 (K L : Nat → Nat) (fu : Nat) (a0 : Nat) (v1 : Int32) (v3 : Int32) (s0 : Int32) (s1 : Int32) (s2 : (Option Nat)) (M : Mm) : Option (Int32 × Mm) :=
  Option.bind (rc K s2 12) (fun a1 =>
  Option.bind (f_X12_goesTo K L a1 s1 s0 M) (fun x3 =>
  Option.bind (f_X12_of K L x3 a0 v1 (73 : Int32)) (fun x5 =>
  Option.bind (f_X12_to K L a0 v1 (75 : Int32) ((v3 + x5) + (1 : Int32)) x3) (fun x7 =>
  Option.bind (f_X12_of K L x7 a0 v1 (76 : Int32)) (fun x9 =>
  Option.bind (f_X12_to K L a0 v1 (76 : Int32) (x9 + (1 : Int32)) x7) (fun x11 =>
  f_X12_count_205 K L fu a0 v1 x11))))))
set_option maxHeartbeats 4000000 in
theorem w_X12_count_168 {X : Cx} {d n : Nat} {K L : Nat → Nat} {fu : Nat} {a0 : Nat} {r : (Int32 × Mm)} {v1 : Int32} {v3 : Int32} {s0 : Int32} {s1 : Int32} {s2 : (Option Nat)} {M : Mm} (o : cOk X cX12_count RX12 (d + 1)) (hL : cL X = 9) (hr : (ch X).sig.returnType = some .int) (hz : (cs X).heap.size + 0 = cB X + n) (hk0 : K a0 = 12) (hE : cE X n K L r.2 (some (.int r.1)) 0 0) (hd : 4 ≤ d + 1) (h : f_X12_count_168 K L fu a0 v1 v3 s0 s1 s2 M = some r) : gW X 0 0 n K L M 168 [(0, va_rf (some a0)), (1, .int v1), (3, .int v3)] [.int s0, .int s1, va_rf s2] := by
  unfold f_X12_count_168 at h
  obtain ⟨a1, e2, h⟩ := ob h
  obtain ⟨x3, e4, h⟩ := ob h
  refine g_invV0 o e2 (by decide) ml_X12_194 kb_X12_goesTo kv_X12_goesTo rfl (c_X12_goesTo (cq X) (cD X) (cY X) (cB X) (d := d) (by omega) (rc_at e2).2 e4) rfl rfl (by simp [cat_i, cat_l, cat_rf]) dX12_count_168 ?_
  refine g_aload_n o dX12_count_171 0 rfl ?_
  refine g_iload_n o dX12_count_172 1 rfl ?_
  refine g_bipush (v := (75 : Int32)) o dX12_count_173 (by decide) ?_
  refine g_iload_n o dX12_count_175 2 rfl ?_
  refine g_aload_n o dX12_count_176 0 rfl ?_
  refine g_iload_n o dX12_count_177 1 rfl ?_
  refine g_bipush (v := (73 : Int32)) o dX12_count_178 (by decide) ?_
  obtain ⟨x5, e6, h⟩ := ob h
  refine g_invV0 o (rc_self hk0) (by decide) ml_X12_43 kb_X12_of kv_X12_of rfl (c_X12_of (cq X) (cD X) (cY X) (cB X) (d := d) (by omega) (rc_at (rc_self hk0)).2 e6) rfl rfl (by simp [cat_i, cat_l, cat_rf]) dX12_count_180 ?_
  refine g_iadd o dX12_count_183 ?_
  refine g_iconst (v := (1 : Int32)) o dX12_count_184 (by decide) ?_
  refine g_iadd o dX12_count_185 ?_
  obtain ⟨x7, e8, h⟩ := ob h
  refine g_invV0 o (rc_self hk0) (by decide) ml_X12_125 kb_X12_to kv_X12_to rfl (c_X12_to (cq X) (cD X) (cY X) (cB X) (d := d) (by omega) (rc_at (rc_self hk0)).2 e8) rfl rfl (by simp [cat_i, cat_l, cat_rf]) dX12_count_186 ?_
  refine g_aload_n o dX12_count_189 0 rfl ?_
  refine g_iload_n o dX12_count_190 1 rfl ?_
  refine g_bipush (v := (76 : Int32)) o dX12_count_191 (by decide) ?_
  refine g_aload_n o dX12_count_193 0 rfl ?_
  refine g_iload_n o dX12_count_194 1 rfl ?_
  refine g_bipush (v := (76 : Int32)) o dX12_count_195 (by decide) ?_
  obtain ⟨x9, e10, h⟩ := ob h
  refine g_invV0 o (rc_self hk0) (by decide) ml_X12_43 kb_X12_of kv_X12_of rfl (c_X12_of (cq X) (cD X) (cY X) (cB X) (d := d) (by omega) (rc_at (rc_self hk0)).2 e10) rfl rfl (by simp [cat_i, cat_l, cat_rf]) dX12_count_197 ?_
  refine g_iconst (v := (1 : Int32)) o dX12_count_200 (by decide) ?_
  refine g_iadd o dX12_count_201 ?_
  obtain ⟨x11, e12, h⟩ := ob h
  refine g_invV0 o (rc_self hk0) (by decide) ml_X12_125 kb_X12_to kv_X12_to rfl (c_X12_to (cq X) (cD X) (cY X) (cB X) (d := d) (by omega) (rc_at (rc_self hk0)).2 e12) rfl rfl (by simp [cat_i, cat_l, cat_rf]) dX12_count_202 ?_
  refine gsub [0, 1] rfl ?_
  exact w_X12_count_205 o hL hr hz hk0 hE hd h
def f_X12_count_160 (K L : Nat → Nat) (fu : Nat) (a0 : Nat) (v1 : Int32) (v3 : Int32) (s0 : Int32) (s1 : (Option Nat)) (M : Mm) : Option (Int32 × Mm) :=
  f_X12_count_168 K L fu a0 v1 v3 (-1 : Int32) s0 s1 M
set_option maxHeartbeats 4000000 in
theorem w_X12_count_160 {X : Cx} {d n : Nat} {K L : Nat → Nat} {fu : Nat} {a0 : Nat} {r : (Int32 × Mm)} {v1 : Int32} {v3 : Int32} {s0 : Int32} {s1 : (Option Nat)} {M : Mm} (o : cOk X cX12_count RX12 (d + 1)) (hL : cL X = 9) (hr : (ch X).sig.returnType = some .int) (hz : (cs X).heap.size + 0 = cB X + n) (hk0 : K a0 = 12) (hE : cE X n K L r.2 (some (.int r.1)) 0 0) (hd : 4 ≤ d + 1) (h : f_X12_count_160 K L fu a0 v1 v3 s0 s1 M = some r) : gW X 0 0 n K L M 160 [(0, va_rf (some a0)), (1, .int v1), (3, .int v3)] [.int s0, va_rf s1] := by
  unfold f_X12_count_160 at h
  refine g_iconst (v := (-1 : Int32)) o dX12_count_160 (by decide) ?_
  refine g_goto (tgt := 168) o dX12_count_161 (by decide) ?_
  exact w_X12_count_168 o hL hr hz hk0 hE hd h
def f_X12_count_47 (K L : Nat → Nat) (fu : Nat) (a0 : Nat) (M : Mm) : Option (Int32 × Mm) :=
  Option.bind (f_X12_no K L a0 (-12 : Int32) M) (fun x1 =>
  some (x1.1, x1.2))
set_option maxHeartbeats 4000000 in
theorem w_X12_count_47 {X : Cx} {d n : Nat} {K L : Nat → Nat} {fu : Nat} {a0 : Nat} {r : (Int32 × Mm)} {M : Mm} (o : cOk X cX12_count RX12 (d + 1)) (hL : cL X = 9) (hr : (ch X).sig.returnType = some .int) (hz : (cs X).heap.size + 0 = cB X + n) (hk0 : K a0 = 12) (hE : cE X n K L r.2 (some (.int r.1)) 0 0) (hd : 4 ≤ d + 1) (h : f_X12_count_47 K L fu a0  M = some r) : gW X 0 0 n K L M 47 [(0, va_rf (some a0))] [] := by
  unfold f_X12_count_47 at h
  refine g_aload_n o dX12_count_47 0 rfl ?_
  refine g_bipush (v := (-12 : Int32)) o dX12_count_48 (by decide) ?_
  obtain ⟨x1, e2, h⟩ := ob h
  refine g_invV0 o (rc_self hk0) (by decide) ml_X12_72 kb_X12_no kv_X12_no rfl (c_X12_no (cq X) (cD X) (cY X) (cB X) (d := d) (by omega) (rc_at (rc_self hk0)).2 e2) rfl rfl (by simp [cat_i, cat_l, cat_rf]) dX12_count_50 ?_
  cases h
  exact g_iret o hr hE dX12_count_53
def f_X12_count (K L : Nat → Nat) (fu : Nat) (a0 : Nat) (v1 : Int32) (v2 : Int32) (v3 : Int32) (v4 : Int32) (v5 : Int32) (M : Mm) : Option (Int32 × Mm) :=
  Option.bind (f_X12_whyCounts K L M a0 v1 v2 v3) (fun x1 =>
  if x1 = 0 then
    Option.bind (f_X12_isIn (v4.toInt64) (0 : Int64) (1000000 : Int64)) (fun x3 =>
    if x3 = 0 then
      f_X12_count_47 K L fu a0 M
    else
      Option.bind (f_X12_isIn (v5.toInt64) (0 : Int64) (v4.toInt64)) (fun x5 =>
      if x5 = 0 then
        f_X12_count_47 K L fu a0 M
      else
        Option.bind (f_X12_minuteAt v2 v3) (fun x7 =>
        Option.bind (f_X12_to K L a0 v1 x7 (1 : Int32) M) (fun x9 =>
        Option.bind (f_X12_to K L a0 v1 (x7 + (1 : Int32)) v4 x9) (fun x11 =>
        Option.bind (f_X12_to K L a0 v1 (x7 + (2 : Int32)) v5 x11) (fun x13 =>
        Option.bind (f_X12_to K L a0 v1 (x7 + (3 : Int32)) (0 : Int32) x13) (fun x15 =>
        Option.bind (f_X12_of K L x15 a0 v1 (69 : Int32)) (fun x17 =>
        if v2 = (1 : Int32) then
          Option.bind (f_X12_isStepped K L x15 a0 v1) (fun x19 =>
          if x19 = 0 then
            f_X12_count_205 K L fu a0 v1 x15
          else
            if x17 < 0 then
              f_X12_count_205 K L fu a0 v1 x15
            else
              Option.bind (f_X12_isSpent K L fu a0 v1 v3 x15) (fun x21 =>
              if (x21.1) = 0 then
                f_X12_count_205 K L fu a0 v1 (x21.2)
              else
                Option.bind (f_X12_of K L x21.2 a0 v1 (74 : Int32)) (fun x23 =>
                if x23 = (1 : Int32) then
                  f_X12_count_160 K L fu a0 v1 v3 v1 (some a0) (x21.2)
                else
                  Option.bind (f_X12_of K L x21.2 a0 v1 (48 : Int32)) (fun x25 =>
                  if x25 = 0 then
                    f_X12_count_160 K L fu a0 v1 v3 v1 (some a0) (x21.2)
                  else
                    f_X12_count_168 K L fu a0 v1 v3 (x17 - (1 : Int32)) v1 (some a0) (x21.2)))))
        else
          f_X12_count_205 K L fu a0 v1 x15))))))))
  else
    Option.bind (f_X12_no K L a0 x1 M) (fun x27 =>
    some (x27.1, x27.2)))
set_option maxHeartbeats 4000000 in
theorem w_X12_count_0 {X : Cx} {d n : Nat} {K L : Nat → Nat} {fu : Nat} {a0 : Nat} {r : (Int32 × Mm)} {v1 : Int32} {v2 : Int32} {v3 : Int32} {v4 : Int32} {v5 : Int32} {M : Mm} (o : cOk X cX12_count RX12 (d + 1)) (hL : cL X = 9) (hr : (ch X).sig.returnType = some .int) (hz : (cs X).heap.size + 0 = cB X + n) (hk0 : K a0 = 12) (hE : cE X n K L r.2 (some (.int r.1)) 0 0) (hd : 4 ≤ d + 1) (h : f_X12_count K L fu a0 v1 v2 v3 v4 v5 M = some r) : gW X 0 0 n K L M 0 [(0, va_rf (some a0)), (1, .int v1), (2, .int v2), (3, .int v3), (4, .int v4), (5, .int v5)] [] := by
  unfold f_X12_count at h
  refine g_aload_n o dX12_count_0 0 rfl ?_
  refine g_iload_n o dX12_count_1 1 rfl ?_
  refine g_iload_n o dX12_count_2 2 rfl ?_
  refine g_iload_n o dX12_count_3 3 rfl ?_
  obtain ⟨x1, e2, h⟩ := ob h
  refine g_invV0 o (rc_self hk0) (by decide) ml_X12_208 kb_X12_whyCounts kv_X12_whyCounts rfl (c_X12_whyCounts (cq X) (cD X) (cY X) (cB X) (d := d) (by omega) (rc_at (rc_self hk0)).2 e2) rfl rfl (by simp [cat_i, cat_l, cat_rf]) dX12_count_4 ?_
  refine g_istore (i := 6) (ls' := [(6, .int x1), (0, va_rf (some a0)), (1, .int v1), (2, .int v2), (3, .int v3), (4, .int v4), (5, .int v5)]) o dX12_count_7 (ltL hL (by decide)) rfl ?_
  refine g_iload o dX12_count_9 0 rfl ?_
  refine g_if_eq (tgt := 21) o dX12_count_11 (by decide) (fun z => ?_) (fun z => ?_)
  · have h := (if_pos z).symm.trans h
    refine g_iload o dX12_count_21 5 rfl ?_
    refine g_i2l o dX12_count_23 ?_
    refine g_lconst (v := (0 : Int64)) o dX12_count_24 (by decide) ?_
    refine g_ldc2 (v := (1000000 : Int64)) o kc_X12_201 dX12_count_25 ?_
    obtain ⟨x3, e4, h⟩ := ob h
    refine g_invS0 o ml_X12_62 kb_X12_isIn ks_X12_isIn (c_X12_isIn (cq X) (cD X) (cY X) (cB X) (d := d) (by omega) e4) rfl rfl (by simp [cat_i, cat_l, cat_rf]) dX12_count_28 ?_
    refine g_if_eq (tgt := 47) o dX12_count_31 (by decide) (fun z => ?_) (fun z => ?_)
    · have h := (if_pos z).symm.trans h
      refine gsub [1] rfl ?_
      exact w_X12_count_47 o hL hr hz hk0 hE hd h
    · have h := (if_neg z).symm.trans h
      refine g_iload o dX12_count_34 6 rfl ?_
      refine g_i2l o dX12_count_36 ?_
      refine g_lconst (v := (0 : Int64)) o dX12_count_37 (by decide) ?_
      refine g_iload o dX12_count_38 5 rfl ?_
      refine g_i2l o dX12_count_40 ?_
      obtain ⟨x5, e6, h⟩ := ob h
      refine g_invS0 o ml_X12_62 kb_X12_isIn ks_X12_isIn (c_X12_isIn (cq X) (cD X) (cY X) (cB X) (d := d) (by omega) e6) rfl rfl (by simp [cat_i, cat_l, cat_rf]) dX12_count_41 ?_
      refine g_if_ne (tgt := 54) o dX12_count_44 (by decide) (fun z => ?_) (fun z => ?_)
      · have h := (if_neg z).symm.trans h
        refine g_iload_n o dX12_count_54 3 rfl ?_
        refine g_iload_n o dX12_count_55 4 rfl ?_
        obtain ⟨x7, e8, h⟩ := ob h
        refine g_invS0 o ml_X12_178 kb_X12_minuteAt ks_X12_minuteAt (c_X12_minuteAt (cq X) (cD X) (cY X) (cB X) (d := d) (by omega) e8) rfl rfl (by simp [cat_i, cat_l, cat_rf]) dX12_count_56 ?_
        refine g_istore (i := 7) (ls' := [(7, .int x7), (6, .int x1), (0, va_rf (some a0)), (1, .int v1), (2, .int v2), (3, .int v3), (4, .int v4), (5, .int v5)]) o dX12_count_59 (ltL hL (by decide)) rfl ?_
        refine g_aload_n o dX12_count_61 2 rfl ?_
        refine g_iload_n o dX12_count_62 3 rfl ?_
        refine g_iload o dX12_count_63 0 rfl ?_
        refine g_iconst (v := (1 : Int32)) o dX12_count_65 (by decide) ?_
        obtain ⟨x9, e10, h⟩ := ob h
        refine g_invV0 o (rc_self hk0) (by decide) ml_X12_125 kb_X12_to kv_X12_to rfl (c_X12_to (cq X) (cD X) (cY X) (cB X) (d := d) (by omega) (rc_at (rc_self hk0)).2 e10) rfl rfl (by simp [cat_i, cat_l, cat_rf]) dX12_count_66 ?_
        refine g_aload_n o dX12_count_69 2 rfl ?_
        refine g_iload_n o dX12_count_70 3 rfl ?_
        refine g_iload o dX12_count_71 0 rfl ?_
        refine g_iconst (v := (1 : Int32)) o dX12_count_73 (by decide) ?_
        refine g_iadd o dX12_count_74 ?_
        refine g_iload o dX12_count_75 6 rfl ?_
        obtain ⟨x11, e12, h⟩ := ob h
        refine g_invV0 o (rc_self hk0) (by decide) ml_X12_125 kb_X12_to kv_X12_to rfl (c_X12_to (cq X) (cD X) (cY X) (cB X) (d := d) (by omega) (rc_at (rc_self hk0)).2 e12) rfl rfl (by simp [cat_i, cat_l, cat_rf]) dX12_count_77 ?_
        refine g_aload_n o dX12_count_80 2 rfl ?_
        refine g_iload_n o dX12_count_81 3 rfl ?_
        refine g_iload o dX12_count_82 0 rfl ?_
        refine g_iconst (v := (2 : Int32)) o dX12_count_84 (by decide) ?_
        refine g_iadd o dX12_count_85 ?_
        refine g_iload o dX12_count_86 7 rfl ?_
        obtain ⟨x13, e14, h⟩ := ob h
        refine g_invV0 o (rc_self hk0) (by decide) ml_X12_125 kb_X12_to kv_X12_to rfl (c_X12_to (cq X) (cD X) (cY X) (cB X) (d := d) (by omega) (rc_at (rc_self hk0)).2 e14) rfl rfl (by simp [cat_i, cat_l, cat_rf]) dX12_count_88 ?_
        refine g_aload_n o dX12_count_91 2 rfl ?_
        refine g_iload_n o dX12_count_92 3 rfl ?_
        refine g_iload o dX12_count_93 0 rfl ?_
        refine g_iconst (v := (3 : Int32)) o dX12_count_95 (by decide) ?_
        refine g_iadd o dX12_count_96 ?_
        refine g_iconst (v := (0 : Int32)) o dX12_count_97 (by decide) ?_
        obtain ⟨x15, e16, h⟩ := ob h
        refine g_invV0 o (rc_self hk0) (by decide) ml_X12_125 kb_X12_to kv_X12_to rfl (c_X12_to (cq X) (cD X) (cY X) (cB X) (d := d) (by omega) (rc_at (rc_self hk0)).2 e16) rfl rfl (by simp [cat_i, cat_l, cat_rf]) dX12_count_98 ?_
        refine g_aload_n o dX12_count_101 2 rfl ?_
        refine g_iload_n o dX12_count_102 3 rfl ?_
        refine g_bipush (v := (69 : Int32)) o dX12_count_103 (by decide) ?_
        obtain ⟨x17, e18, h⟩ := ob h
        refine g_invV0 o (rc_self hk0) (by decide) ml_X12_43 kb_X12_of kv_X12_of rfl (c_X12_of (cq X) (cD X) (cY X) (cB X) (d := d) (by omega) (rc_at (rc_self hk0)).2 e18) rfl rfl (by simp [cat_i, cat_l, cat_rf]) dX12_count_105 ?_
        refine g_istore (i := 8) (ls' := [(8, .int x17), (7, .int x7), (6, .int x1), (0, va_rf (some a0)), (1, .int v1), (2, .int v2), (3, .int v3), (4, .int v4), (5, .int v5)]) o dX12_count_108 (ltL hL (by decide)) rfl ?_
        refine g_iload_n o dX12_count_110 5 rfl ?_
        refine g_iconst (v := (1 : Int32)) o dX12_count_111 (by decide) ?_
        refine g_icmp_ne (tgt := 205) o dX12_count_112 (by decide) (fun z => ?_) (fun z => ?_)
        · have h := (if_neg z).symm.trans h
          refine gsub [3, 4] rfl ?_
          exact w_X12_count_205 o hL hr hz hk0 hE hd h
        · have h := (if_pos z).symm.trans h
          refine g_aload_n o dX12_count_115 3 rfl ?_
          refine g_iload_n o dX12_count_116 4 rfl ?_
          obtain ⟨x19, e20, h⟩ := ob h
          refine g_invV0 o (rc_self hk0) (by decide) ml_X12_54 kb_X12_isStepped kv_X12_isStepped rfl (c_X12_isStepped (cq X) (cD X) (cY X) (cB X) (d := d) (by omega) (rc_at (rc_self hk0)).2 e20) rfl rfl (by simp [cat_i, cat_l, cat_rf]) dX12_count_117 ?_
          refine g_if_eq (tgt := 205) o dX12_count_120 (by decide) (fun z => ?_) (fun z => ?_)
          · have h := (if_pos z).symm.trans h
            refine gsub [3, 4] rfl ?_
            exact w_X12_count_205 o hL hr hz hk0 hE hd h
          · have h := (if_neg z).symm.trans h
            refine g_iload o dX12_count_123 0 rfl ?_
            refine g_if_lt (tgt := 205) o dX12_count_125 (by decide) (fun z => ?_) (fun z => ?_)
            · have h := (if_pos z).symm.trans h
              refine gsub [3, 4] rfl ?_
              exact w_X12_count_205 o hL hr hz hk0 hE hd h
            · have h := (if_neg z).symm.trans h
              refine g_aload_n o dX12_count_128 3 rfl ?_
              refine g_iload_n o dX12_count_129 4 rfl ?_
              refine g_iload_n o dX12_count_130 6 rfl ?_
              obtain ⟨x21, e22, h⟩ := ob h
              refine g_invV0 o (rc_self hk0) (by decide) ml_X12_185 kb_X12_isSpent kv_X12_isSpent rfl (c_X12_isSpent (cq X) (cD X) (cY X) (cB X) (d := d) (by omega) (rc_at (rc_self hk0)).2 e22) rfl rfl (by simp [cat_i, cat_l, cat_rf]) dX12_count_131 ?_
              refine g_if_eq (tgt := 205) o dX12_count_134 (by decide) (fun z => ?_) (fun z => ?_)
              · have h := (if_pos z).symm.trans h
                refine gsub [3, 4] rfl ?_
                exact w_X12_count_205 o hL hr hz hk0 hE hd h
              · have h := (if_neg z).symm.trans h
                refine g_aload_n o dX12_count_137 3 rfl ?_
                refine g_iload_n o dX12_count_138 4 rfl ?_
                refine g_aload_n o dX12_count_139 3 rfl ?_
                refine g_iload_n o dX12_count_140 4 rfl ?_
                refine g_bipush (v := (74 : Int32)) o dX12_count_141 (by decide) ?_
                obtain ⟨x23, e24, h⟩ := ob h
                refine g_invV0 o (rc_self hk0) (by decide) ml_X12_43 kb_X12_of kv_X12_of rfl (c_X12_of (cq X) (cD X) (cY X) (cB X) (d := d) (by omega) (rc_at (rc_self hk0)).2 e24) rfl rfl (by simp [cat_i, cat_l, cat_rf]) dX12_count_143 ?_
                refine g_iconst (v := (1 : Int32)) o dX12_count_146 (by decide) ?_
                refine g_icmp_eq (tgt := 160) o dX12_count_147 (by decide) (fun z => ?_) (fun z => ?_)
                · have h := (if_pos z).symm.trans h
                  refine gsub [3, 4, 6] rfl ?_
                  exact w_X12_count_160 o hL hr hz hk0 hE hd h
                · have h := (if_neg z).symm.trans h
                  refine g_aload_n o dX12_count_150 3 rfl ?_
                  refine g_iload_n o dX12_count_151 4 rfl ?_
                  refine g_bipush (v := (48 : Int32)) o dX12_count_152 (by decide) ?_
                  obtain ⟨x25, e26, h⟩ := ob h
                  refine g_invV0 o (rc_self hk0) (by decide) ml_X12_43 kb_X12_of kv_X12_of rfl (c_X12_of (cq X) (cD X) (cY X) (cB X) (d := d) (by omega) (rc_at (rc_self hk0)).2 e26) rfl rfl (by simp [cat_i, cat_l, cat_rf]) dX12_count_154 ?_
                  refine g_if_ne (tgt := 164) o dX12_count_157 (by decide) (fun z => ?_) (fun z => ?_)
                  · have h := (if_neg z).symm.trans h
                    refine g_iload o dX12_count_164 0 rfl ?_
                    refine g_iconst (v := (1 : Int32)) o dX12_count_166 (by decide) ?_
                    refine g_isub o dX12_count_167 ?_
                    refine gsub [3, 4, 6] rfl ?_
                    exact w_X12_count_168 o hL hr hz hk0 hE hd h
                  · have h := (if_pos z).symm.trans h
                    refine gsub [3, 4, 6] rfl ?_
                    exact w_X12_count_160 o hL hr hz hk0 hE hd h
      · have h := (if_pos z).symm.trans h
        refine gsub [1] rfl ?_
        exact w_X12_count_47 o hL hr hz hk0 hE hd h
  · have h := (if_neg z).symm.trans h
    refine g_aload_n o dX12_count_14 1 rfl ?_
    refine g_iload o dX12_count_15 0 rfl ?_
    obtain ⟨x27, e28, h⟩ := ob h
    refine g_invV0 o (rc_self hk0) (by decide) ml_X12_72 kb_X12_no kv_X12_no rfl (c_X12_no (cq X) (cD X) (cY X) (cB X) (d := d) (by omega) (rc_at (rc_self hk0)).2 e28) rfl rfl (by simp [cat_i, cat_l, cat_rf]) dX12_count_17 ?_
    cases h
    exact g_iret o hr hE dX12_count_20
theorem c_X12_count (l : Launch) (D : va_G) (Y : Nat → ClassId) (B : Nat) {d : Nat} {n : Nat} {K L : Nat → Nat} {fu : Nat} {M : Mm} {a0 : Nat} {v1 : Int32} {v2 : Int32} {v3 : Int32} {v4 : Int32} {v5 : Int32} {r : (Int32 × Mm)} (hd : 4 ≤ d) (hk0 : K a0 = 12) (h : f_X12_count K L fu a0 v1 v2 v3 v4 v5 M = some r) : mC l D Y B d yX12_count cX12_count 9 (some .int) [va_rf (some a0), .int v1, .int v2, .int v3, .int v4, .int v5] n K L M n K L r.2 (some (.int r.1)) 0 0 := by
  obtain ⟨d, rfl⟩ : ∃ e, d = e + 1 := ⟨d - 1, by omega⟩
  refine mk_met (by decide) (by simp [lgs_r, lgs_i, lgs_l, lgs_n]) (fun X e1 e2 e3 e4 o hL hr hnm hz hc hs hE => ?_)
  subst e1 e2 e3 e4
  rw [show lv_args 0 [va_rf (some a0), .int v1, .int v2, .int v3, .int v4, .int v5] = [(0, va_rf (some a0)), (1, .int v1), (2, .int v2), (3, .int v3), (4, .int v4), (5, .int v5)] by simp [lva_r, lva_i, lva_l, lva_n]]
  exact w_X12_count_0 o hL hr hz hk0 hE hd h
def f_X12_goods (K L : Nat → Nat) (a0 : Nat) (v1 : Int32) (v2 : Int32) (v3 : Int32) (v4 : Int32) (M : Mm) : Option (Int32 × Mm) :=
  Option.bind (f_X12_whyCounts K L M a0 v1 v2 v3) (fun x1 =>
  if x1 = 0 then
    Option.bind (f_X12_minuteAt v2 v3) (fun x3 =>
    Option.bind (f_X12_of K L M a0 v1 x3) (fun x5 =>
    if x5 = 0 then
      Option.bind (f_X12_no K L a0 (-8 : Int32) M) (fun x15 =>
      some (x15.1, x15.2))
    else
      Option.bind (f_X12_of K L M a0 v1 (x3 + (1 : Int32))) (fun x7 =>
      Option.bind (f_X12_isIn (v4.toInt64) (0 : Int64) (x7.toInt64)) (fun x9 =>
      if x9 = 0 then
        Option.bind (f_X12_no K L a0 (-12 : Int32) M) (fun x13 =>
        some (x13.1, x13.2))
      else
        Option.bind (f_X12_to K L a0 v1 (x3 + (3 : Int32)) v4 M) (fun x11 =>
        some ((1 : Int32), x11))))))
  else
    Option.bind (f_X12_no K L a0 x1 M) (fun x17 =>
    some (x17.1, x17.2)))
set_option maxHeartbeats 4000000 in
theorem w_X12_goods_0 {X : Cx} {d n : Nat} {K L : Nat → Nat} {a0 : Nat} {r : (Int32 × Mm)} {v1 : Int32} {v2 : Int32} {v3 : Int32} {v4 : Int32} {M : Mm} (o : cOk X cX12_goods RX12 (d + 1)) (hL : cL X = 7) (hr : (ch X).sig.returnType = some .int) (hz : (cs X).heap.size + 0 = cB X + n) (hk0 : K a0 = 12) (hE : cE X n K L r.2 (some (.int r.1)) 0 0) (hd : 4 ≤ d + 1) (h : f_X12_goods K L a0 v1 v2 v3 v4 M = some r) : gW X 0 0 n K L M 0 [(0, va_rf (some a0)), (1, .int v1), (2, .int v2), (3, .int v3), (4, .int v4)] [] := by
  unfold f_X12_goods at h
  refine g_aload_n o dX12_goods_0 0 rfl ?_
  refine g_iload_n o dX12_goods_1 1 rfl ?_
  refine g_iload_n o dX12_goods_2 2 rfl ?_
  refine g_iload_n o dX12_goods_3 3 rfl ?_
  obtain ⟨x1, e2, h⟩ := ob h
  refine g_invV0 o (rc_self hk0) (by decide) ml_X12_208 kb_X12_whyCounts kv_X12_whyCounts rfl (c_X12_whyCounts (cq X) (cD X) (cY X) (cB X) (d := d) (by omega) (rc_at (rc_self hk0)).2 e2) rfl rfl (by simp [cat_i, cat_l, cat_rf]) dX12_goods_4 ?_
  refine g_istore (i := 5) (ls' := [(5, .int x1), (0, va_rf (some a0)), (1, .int v1), (2, .int v2), (3, .int v3), (4, .int v4)]) o dX12_goods_7 (ltL hL (by decide)) rfl ?_
  refine g_iload o dX12_goods_9 0 rfl ?_
  refine g_if_eq (tgt := 21) o dX12_goods_11 (by decide) (fun z => ?_) (fun z => ?_)
  · have h := (if_pos z).symm.trans h
    refine g_iload_n o dX12_goods_21 3 rfl ?_
    refine g_iload_n o dX12_goods_22 4 rfl ?_
    obtain ⟨x3, e4, h⟩ := ob h
    refine g_invS0 o ml_X12_178 kb_X12_minuteAt ks_X12_minuteAt (c_X12_minuteAt (cq X) (cD X) (cY X) (cB X) (d := d) (by omega) e4) rfl rfl (by simp [cat_i, cat_l, cat_rf]) dX12_goods_23 ?_
    refine g_istore (i := 6) (ls' := [(6, .int x3), (5, .int x1), (0, va_rf (some a0)), (1, .int v1), (2, .int v2), (3, .int v3), (4, .int v4)]) o dX12_goods_26 (ltL hL (by decide)) rfl ?_
    refine g_aload_n o dX12_goods_28 2 rfl ?_
    refine g_iload_n o dX12_goods_29 3 rfl ?_
    refine g_iload o dX12_goods_30 0 rfl ?_
    obtain ⟨x5, e6, h⟩ := ob h
    refine g_invV0 o (rc_self hk0) (by decide) ml_X12_43 kb_X12_of kv_X12_of rfl (c_X12_of (cq X) (cD X) (cY X) (cB X) (d := d) (by omega) (rc_at (rc_self hk0)).2 e6) rfl rfl (by simp [cat_i, cat_l, cat_rf]) dX12_goods_32 ?_
    refine g_if_ne (tgt := 45) o dX12_goods_35 (by decide) (fun z => ?_) (fun z => ?_)
    · have h := (if_neg z).symm.trans h
      refine g_iload o dX12_goods_45 6 rfl ?_
      refine g_i2l o dX12_goods_47 ?_
      refine g_lconst (v := (0 : Int64)) o dX12_goods_48 (by decide) ?_
      refine g_aload_n o dX12_goods_49 2 rfl ?_
      refine g_iload_n o dX12_goods_50 3 rfl ?_
      refine g_iload o dX12_goods_51 0 rfl ?_
      refine g_iconst (v := (1 : Int32)) o dX12_goods_53 (by decide) ?_
      refine g_iadd o dX12_goods_54 ?_
      obtain ⟨x7, e8, h⟩ := ob h
      refine g_invV0 o (rc_self hk0) (by decide) ml_X12_43 kb_X12_of kv_X12_of rfl (c_X12_of (cq X) (cD X) (cY X) (cB X) (d := d) (by omega) (rc_at (rc_self hk0)).2 e8) rfl rfl (by simp [cat_i, cat_l, cat_rf]) dX12_goods_55 ?_
      refine g_i2l o dX12_goods_58 ?_
      obtain ⟨x9, e10, h⟩ := ob h
      refine g_invS0 o ml_X12_62 kb_X12_isIn ks_X12_isIn (c_X12_isIn (cq X) (cD X) (cY X) (cB X) (d := d) (by omega) e10) rfl rfl (by simp [cat_i, cat_l, cat_rf]) dX12_goods_59 ?_
      refine g_if_ne (tgt := 72) o dX12_goods_62 (by decide) (fun z => ?_) (fun z => ?_)
      · have h := (if_neg z).symm.trans h
        refine g_aload_n o dX12_goods_72 2 rfl ?_
        refine g_iload_n o dX12_goods_73 3 rfl ?_
        refine g_iload o dX12_goods_74 0 rfl ?_
        refine g_iconst (v := (3 : Int32)) o dX12_goods_76 (by decide) ?_
        refine g_iadd o dX12_goods_77 ?_
        refine g_iload o dX12_goods_78 6 rfl ?_
        obtain ⟨x11, e12, h⟩ := ob h
        refine g_invV0 o (rc_self hk0) (by decide) ml_X12_125 kb_X12_to kv_X12_to rfl (c_X12_to (cq X) (cD X) (cY X) (cB X) (d := d) (by omega) (rc_at (rc_self hk0)).2 e12) rfl rfl (by simp [cat_i, cat_l, cat_rf]) dX12_goods_80 ?_
        refine g_iconst (v := (1 : Int32)) o dX12_goods_83 (by decide) ?_
        cases h
        exact g_iret o hr hE dX12_goods_84
      · have h := (if_pos z).symm.trans h
        refine g_aload_n o dX12_goods_65 2 rfl ?_
        refine g_bipush (v := (-12 : Int32)) o dX12_goods_66 (by decide) ?_
        obtain ⟨x13, e14, h⟩ := ob h
        refine g_invV0 o (rc_self hk0) (by decide) ml_X12_72 kb_X12_no kv_X12_no rfl (c_X12_no (cq X) (cD X) (cY X) (cB X) (d := d) (by omega) (rc_at (rc_self hk0)).2 e14) rfl rfl (by simp [cat_i, cat_l, cat_rf]) dX12_goods_68 ?_
        cases h
        exact g_iret o hr hE dX12_goods_71
    · have h := (if_pos z).symm.trans h
      refine g_aload_n o dX12_goods_38 2 rfl ?_
      refine g_bipush (v := (-8 : Int32)) o dX12_goods_39 (by decide) ?_
      obtain ⟨x15, e16, h⟩ := ob h
      refine g_invV0 o (rc_self hk0) (by decide) ml_X12_72 kb_X12_no kv_X12_no rfl (c_X12_no (cq X) (cD X) (cY X) (cB X) (d := d) (by omega) (rc_at (rc_self hk0)).2 e16) rfl rfl (by simp [cat_i, cat_l, cat_rf]) dX12_goods_41 ?_
      cases h
      exact g_iret o hr hE dX12_goods_44
  · have h := (if_neg z).symm.trans h
    refine g_aload_n o dX12_goods_14 1 rfl ?_
    refine g_iload o dX12_goods_15 0 rfl ?_
    obtain ⟨x17, e18, h⟩ := ob h
    refine g_invV0 o (rc_self hk0) (by decide) ml_X12_72 kb_X12_no kv_X12_no rfl (c_X12_no (cq X) (cD X) (cY X) (cB X) (d := d) (by omega) (rc_at (rc_self hk0)).2 e18) rfl rfl (by simp [cat_i, cat_l, cat_rf]) dX12_goods_17 ?_
    cases h
    exact g_iret o hr hE dX12_goods_20
theorem c_X12_goods (l : Launch) (D : va_G) (Y : Nat → ClassId) (B : Nat) {d : Nat} {n : Nat} {K L : Nat → Nat} {M : Mm} {a0 : Nat} {v1 : Int32} {v2 : Int32} {v3 : Int32} {v4 : Int32} {r : (Int32 × Mm)} (hd : 4 ≤ d) (hk0 : K a0 = 12) (h : f_X12_goods K L a0 v1 v2 v3 v4 M = some r) : mC l D Y B d yX12_goods cX12_goods 7 (some .int) [va_rf (some a0), .int v1, .int v2, .int v3, .int v4] n K L M n K L r.2 (some (.int r.1)) 0 0 := by
  obtain ⟨d, rfl⟩ : ∃ e, d = e + 1 := ⟨d - 1, by omega⟩
  refine mk_met (by decide) (by simp [lgs_r, lgs_i, lgs_l, lgs_n]) (fun X e1 e2 e3 e4 o hL hr hnm hz hc hs hE => ?_)
  subst e1 e2 e3 e4
  rw [show lv_args 0 [va_rf (some a0), .int v1, .int v2, .int v3, .int v4] = [(0, va_rf (some a0)), (1, .int v1), (2, .int v2), (3, .int v3), (4, .int v4)] by simp [lva_r, lva_i, lva_l, lva_n]]
  exact w_X12_goods_0 o hL hr hz hk0 hE hd h
def f_X12_counts_71b (K L : Nat → Nat) (fu : Nat) (k71 : Int32 → Int32 → Int32 → Int32 → Mm → Option (Int32 × Mm)) (a0 : Nat) (v1 : Int32) (v2 : Int32) (v5 : Int32) (v6 : Int32) (M : Mm) : Option (Int32 × Mm) :=
  if (960 : Int32) ≤ v6 then
    some (v5, M)
  else
    Option.bind (f_X12_minuteAt v2 (0 : Int32)) (fun x1 =>
    Option.bind (f_X12_to K L a0 v1 (x1 + v6) (0 : Int32) M) (fun x3 =>
    k71 v1 v2 v5 (v6 + 1) x3))
def f_X12_counts_71 (K L : Nat → Nat) (fu : Nat) (a0 : Nat) : Nat → Int32 → Int32 → Int32 → Int32 → Mm → Option (Int32 × Mm)
  | 0, _, _, _, _, _ => none
  | g + 1, v1, v2, v5, v6, M => f_X12_counts_71b K L fu (f_X12_counts_71 K L fu a0 g) a0 v1 v2 v5 v6 M
set_option maxHeartbeats 4000000 in
theorem w_X12_counts_71b {X : Cx} {d n : Nat} {K L : Nat → Nat} {fu : Nat} {a0 : Nat} {r : (Int32 × Mm)} {k71 : Int32 → Int32 → Int32 → Int32 → Mm → Option (Int32 × Mm)} {v1 : Int32} {v2 : Int32} {v5 : Int32} {v6 : Int32} {M : Mm} (o : cOk X cX12_counts RX12 (d + 1)) (hL : cL X = 7) (hr : (ch X).sig.returnType = some .int) (hz : (cs X).heap.size + 0 = cB X + n) (hk0 : K a0 = 12) (hE : cE X n K L r.2 (some (.int r.1)) 0 0) (hk71 : ∀ (v1 : Int32) (v2 : Int32) (v5 : Int32) (v6 : Int32) (M : Mm), k71 v1 v2 v5 v6 M = some r → gW X 0 0 n K L M 71 [(0, va_rf (some a0)), (1, .int v1), (2, .int v2), (5, .int v5), (6, .int v6)] []) (hd : 3 ≤ d + 1) (h : f_X12_counts_71b K L fu k71 a0 v1 v2 v5 v6 M = some r) : gW X 0 0 n K L M 71 [(0, va_rf (some a0)), (1, .int v1), (2, .int v2), (5, .int v5), (6, .int v6)] [] := by
  unfold f_X12_counts_71b at h
  refine g_iload o dX12_counts_71 4 rfl ?_
  refine g_sipush (v := (960 : Int32)) o dX12_counts_73 (by decide) ?_
  refine g_icmp_ge (tgt := 99) o dX12_counts_76 (by decide) (fun z => ?_) (fun z => ?_)
  · have h := (if_pos z).symm.trans h
    refine g_iload o dX12_counts_99 3 rfl ?_
    cases h
    exact g_iret o hr hE dX12_counts_101
  · have h := (if_neg z).symm.trans h
    refine g_aload_n o dX12_counts_79 0 rfl ?_
    refine g_iload_n o dX12_counts_80 1 rfl ?_
    refine g_iload_n o dX12_counts_81 2 rfl ?_
    refine g_iconst (v := (0 : Int32)) o dX12_counts_82 (by decide) ?_
    obtain ⟨x1, e2, h⟩ := ob h
    refine g_invS0 o ml_X12_178 kb_X12_minuteAt ks_X12_minuteAt (c_X12_minuteAt (cq X) (cD X) (cY X) (cB X) (d := d) (by omega) e2) rfl rfl (by simp [cat_i, cat_l, cat_rf]) dX12_counts_83 ?_
    refine g_iload o dX12_counts_86 4 rfl ?_
    refine g_iadd o dX12_counts_88 ?_
    refine g_iconst (v := (0 : Int32)) o dX12_counts_89 (by decide) ?_
    obtain ⟨x3, e4, h⟩ := ob h
    refine g_invV0 o (rc_self hk0) (by decide) ml_X12_125 kb_X12_to kv_X12_to rfl (c_X12_to (cq X) (cD X) (cY X) (cB X) (d := d) (by omega) (rc_at (rc_self hk0)).2 e4) rfl rfl (by simp [cat_i, cat_l, cat_rf]) dX12_counts_90 ?_
    refine g_iinc (i := 6) (v := v6 + 1) (ls' := [(6, .int (v6 + 1)), (0, va_rf (some a0)), (1, .int v1), (2, .int v2), (5, .int v5)]) o dX12_counts_93 4 rfl (by first | rfl | (congr 1)) (ltL hL (by decide)) rfl ?_
    refine g_goto (tgt := 71) o dX12_counts_96 (by decide) ?_
    refine gsub [1, 2, 3, 4, 0] rfl ?_
    exact hk71 _ _ _ _ _ h
theorem w_X12_counts_71_n {X : Cx} {d n : Nat} {K L : Nat → Nat} {fu : Nat} {a0 : Nat} {r : (Int32 × Mm)} (o : cOk X cX12_counts RX12 (d + 1)) (hL : cL X = 7) (hr : (ch X).sig.returnType = some .int) (hz : (cs X).heap.size + 0 = cB X + n) (hk0 : K a0 = 12) (hE : cE X n K L r.2 (some (.int r.1)) 0 0) (hd : 3 ≤ d + 1) : ∀ (g : Nat) (v1 : Int32) (v2 : Int32) (v5 : Int32) (v6 : Int32) (M : Mm), f_X12_counts_71 K L fu a0 g v1 v2 v5 v6 M = some r → gW X 0 0 n K L M 71 [(0, va_rf (some a0)), (1, .int v1), (2, .int v2), (5, .int v5), (6, .int v6)] []
  | 0, _, _, _, _, _, h => by cases h
  | g + 1, v1, v2, v5, v6, M, h => w_X12_counts_71b o hL hr hz hk0 hE (w_X12_counts_71_n o hL hr hz hk0 hE hd g) hd h
theorem w_X12_counts_71 {X : Cx} {d n : Nat} {K L : Nat → Nat} {fu : Nat} {a0 : Nat} {r : (Int32 × Mm)} {v1 : Int32} {v2 : Int32} {v5 : Int32} {v6 : Int32} {M : Mm} (o : cOk X cX12_counts RX12 (d + 1)) (hL : cL X = 7) (hr : (ch X).sig.returnType = some .int) (hz : (cs X).heap.size + 0 = cB X + n) (hk0 : K a0 = 12) (hE : cE X n K L r.2 (some (.int r.1)) 0 0) (hd : 3 ≤ d + 1) (h : f_X12_counts_71 K L fu a0 fu v1 v2 v5 v6 M = some r) : gW X 0 0 n K L M 71 [(0, va_rf (some a0)), (1, .int v1), (2, .int v2), (5, .int v5), (6, .int v6)] [] := w_X12_counts_71_n o hL hr hz hk0 hE hd fu v1 v2 v5 v6 M h
def f_X12_counts_65 (K L : Nat → Nat) (fu : Nat) (a0 : Nat) (v1 : Int32) (v2 : Int32) (v5 : Int32) (s0 : Int32) (s1 : Int32) (s2 : Int32) (s3 : (Option Nat)) (M : Mm) : Option (Int32 × Mm) :=
  Option.bind (rc K s3 12) (fun a1 =>
  Option.bind (f_X12_to K L a1 s2 s1 s0 M) (fun x3 =>
  f_X12_counts_71 K L fu a0 fu v1 v2 v5 (0 : Int32) x3))
set_option maxHeartbeats 4000000 in
theorem w_X12_counts_65 {X : Cx} {d n : Nat} {K L : Nat → Nat} {fu : Nat} {a0 : Nat} {r : (Int32 × Mm)} {v1 : Int32} {v2 : Int32} {v5 : Int32} {s0 : Int32} {s1 : Int32} {s2 : Int32} {s3 : (Option Nat)} {M : Mm} (o : cOk X cX12_counts RX12 (d + 1)) (hL : cL X = 7) (hr : (ch X).sig.returnType = some .int) (hz : (cs X).heap.size + 0 = cB X + n) (hk0 : K a0 = 12) (hE : cE X n K L r.2 (some (.int r.1)) 0 0) (hd : 3 ≤ d + 1) (h : f_X12_counts_65 K L fu a0 v1 v2 v5 s0 s1 s2 s3 M = some r) : gW X 0 0 n K L M 65 [(0, va_rf (some a0)), (1, .int v1), (2, .int v2), (5, .int v5)] [.int s0, .int s1, .int s2, va_rf s3] := by
  unfold f_X12_counts_65 at h
  obtain ⟨a1, e2, h⟩ := ob h
  obtain ⟨x3, e4, h⟩ := ob h
  refine g_invV0 o e2 (by decide) ml_X12_125 kb_X12_to kv_X12_to rfl (c_X12_to (cq X) (cD X) (cY X) (cB X) (d := d) (by omega) (rc_at e2).2 e4) rfl rfl (by simp [cat_i, cat_l, cat_rf]) dX12_counts_65 ?_
  refine g_iconst (v := (0 : Int32)) o dX12_counts_68 (by decide) ?_
  refine g_istore (i := 6) (ls' := [(6, .int (0 : Int32)), (0, va_rf (some a0)), (1, .int v1), (2, .int v2), (5, .int v5)]) o dX12_counts_69 (ltL hL (by decide)) rfl ?_
  refine gsub [1, 2, 3, 4, 0] rfl ?_
  exact w_X12_counts_71 o hL hr hz hk0 hE hd h
def f_X12_counts_25 (K L : Nat → Nat) (fu : Nat) (a0 : Nat) (v1 : Int32) (v2 : Int32) (v3 : Int32) (s0 : Int32) (M : Mm) : Option (Int32 × Mm) :=
  if s0 = 0 then
    Option.bind (f_X12_of K L M a0 v1 ((90 : Int32) + v2)) (fun x1 =>
    if v3 = 0 then
      f_X12_counts_65 K L fu a0 v1 v2 x1 (0 : Int32) ((90 : Int32) + v2) v1 (some a0) M
    else
      f_X12_counts_65 K L fu a0 v1 v2 x1 (1 : Int32) ((90 : Int32) + v2) v1 (some a0) M)
  else
    Option.bind (f_X12_no K L a0 s0 M) (fun x3 =>
    some (x3.1, x3.2))
set_option maxHeartbeats 4000000 in
theorem w_X12_counts_25 {X : Cx} {d n : Nat} {K L : Nat → Nat} {fu : Nat} {a0 : Nat} {r : (Int32 × Mm)} {v1 : Int32} {v2 : Int32} {v3 : Int32} {s0 : Int32} {M : Mm} (o : cOk X cX12_counts RX12 (d + 1)) (hL : cL X = 7) (hr : (ch X).sig.returnType = some .int) (hz : (cs X).heap.size + 0 = cB X + n) (hk0 : K a0 = 12) (hE : cE X n K L r.2 (some (.int r.1)) 0 0) (hd : 3 ≤ d + 1) (h : f_X12_counts_25 K L fu a0 v1 v2 v3 s0 M = some r) : gW X 0 0 n K L M 25 [(0, va_rf (some a0)), (1, .int v1), (2, .int v2), (3, .int v3)] [.int s0] := by
  unfold f_X12_counts_25 at h
  refine g_istore (i := 4) (ls' := [(4, .int s0), (0, va_rf (some a0)), (1, .int v1), (2, .int v2), (3, .int v3)]) o dX12_counts_25 (ltL hL (by decide)) rfl ?_
  refine g_iload o dX12_counts_27 0 rfl ?_
  refine g_if_eq (tgt := 39) o dX12_counts_29 (by decide) (fun z => ?_) (fun z => ?_)
  · have h := (if_pos z).symm.trans h
    refine g_aload_n o dX12_counts_39 1 rfl ?_
    refine g_iload_n o dX12_counts_40 2 rfl ?_
    refine g_bipush (v := (90 : Int32)) o dX12_counts_41 (by decide) ?_
    refine g_iload_n o dX12_counts_43 3 rfl ?_
    refine g_iadd o dX12_counts_44 ?_
    obtain ⟨x1, e2, h⟩ := ob h
    refine g_invV0 o (rc_self hk0) (by decide) ml_X12_43 kb_X12_of kv_X12_of rfl (c_X12_of (cq X) (cD X) (cY X) (cB X) (d := d) (by omega) (rc_at (rc_self hk0)).2 e2) rfl rfl (by simp [cat_i, cat_l, cat_rf]) dX12_counts_45 ?_
    refine g_istore (i := 5) (ls' := [(5, .int x1), (4, .int s0), (0, va_rf (some a0)), (1, .int v1), (2, .int v2), (3, .int v3)]) o dX12_counts_48 (ltL hL (by decide)) rfl ?_
    refine g_aload_n o dX12_counts_50 2 rfl ?_
    refine g_iload_n o dX12_counts_51 3 rfl ?_
    refine g_bipush (v := (90 : Int32)) o dX12_counts_52 (by decide) ?_
    refine g_iload_n o dX12_counts_54 4 rfl ?_
    refine g_iadd o dX12_counts_55 ?_
    refine g_iload_n o dX12_counts_56 5 rfl ?_
    refine g_if_eq (tgt := 64) o dX12_counts_57 (by decide) (fun z => ?_) (fun z => ?_)
    · have h := (if_pos z).symm.trans h
      refine g_iconst (v := (0 : Int32)) o dX12_counts_64 (by decide) ?_
      refine gsub [2, 3, 4, 0] rfl ?_
      exact w_X12_counts_65 o hL hr hz hk0 hE hd h
    · have h := (if_neg z).symm.trans h
      refine g_iconst (v := (1 : Int32)) o dX12_counts_60 (by decide) ?_
      refine g_goto (tgt := 65) o dX12_counts_61 (by decide) ?_
      refine gsub [2, 3, 4, 0] rfl ?_
      exact w_X12_counts_65 o hL hr hz hk0 hE hd h
  · have h := (if_neg z).symm.trans h
    refine g_aload_n o dX12_counts_32 1 rfl ?_
    refine g_iload o dX12_counts_33 0 rfl ?_
    obtain ⟨x3, e4, h⟩ := ob h
    refine g_invV0 o (rc_self hk0) (by decide) ml_X12_72 kb_X12_no kv_X12_no rfl (c_X12_no (cq X) (cD X) (cY X) (cB X) (d := d) (by omega) (rc_at (rc_self hk0)).2 e4) rfl rfl (by simp [cat_i, cat_l, cat_rf]) dX12_counts_35 ?_
    cases h
    exact g_iret o hr hE dX12_counts_38
def f_X12_counts_14 (K L : Nat → Nat) (fu : Nat) (a0 : Nat) (v1 : Int32) (v2 : Int32) (v3 : Int32) (M : Mm) : Option (Int32 × Mm) :=
  f_X12_counts_25 K L fu a0 v1 v2 v3 (-3 : Int32) M
set_option maxHeartbeats 4000000 in
theorem w_X12_counts_14 {X : Cx} {d n : Nat} {K L : Nat → Nat} {fu : Nat} {a0 : Nat} {r : (Int32 × Mm)} {v1 : Int32} {v2 : Int32} {v3 : Int32} {M : Mm} (o : cOk X cX12_counts RX12 (d + 1)) (hL : cL X = 7) (hr : (ch X).sig.returnType = some .int) (hz : (cs X).heap.size + 0 = cB X + n) (hk0 : K a0 = 12) (hE : cE X n K L r.2 (some (.int r.1)) 0 0) (hd : 3 ≤ d + 1) (h : f_X12_counts_14 K L fu a0 v1 v2 v3 M = some r) : gW X 0 0 n K L M 14 [(0, va_rf (some a0)), (1, .int v1), (2, .int v2), (3, .int v3)] [] := by
  unfold f_X12_counts_14 at h
  refine g_bipush (v := (-3 : Int32)) o dX12_counts_14 (by decide) ?_
  refine g_goto (tgt := 25) o dX12_counts_16 (by decide) ?_
  exact w_X12_counts_25 o hL hr hz hk0 hE hd h
def f_X12_counts (K L : Nat → Nat) (fu : Nat) (a0 : Nat) (v1 : Int32) (v2 : Int32) (v3 : Int32) (M : Mm) : Option (Int32 × Mm) :=
  Option.bind (f_X12_isPlace v1) (fun x1 =>
  if x1 = 0 then
    f_X12_counts_14 K L fu a0 v1 v2 v3 M
  else
    Option.bind (f_X12_isWay v2) (fun x3 =>
    if x3 = 0 then
      f_X12_counts_14 K L fu a0 v1 v2 v3 M
    else
      Option.bind (f_X12_why K L M a0 v1 (0 : Int32)) (fun x5 =>
      f_X12_counts_25 K L fu a0 v1 v2 v3 x5 M)))
set_option maxHeartbeats 4000000 in
theorem w_X12_counts_0 {X : Cx} {d n : Nat} {K L : Nat → Nat} {fu : Nat} {a0 : Nat} {r : (Int32 × Mm)} {v1 : Int32} {v2 : Int32} {v3 : Int32} {M : Mm} (o : cOk X cX12_counts RX12 (d + 1)) (hL : cL X = 7) (hr : (ch X).sig.returnType = some .int) (hz : (cs X).heap.size + 0 = cB X + n) (hk0 : K a0 = 12) (hE : cE X n K L r.2 (some (.int r.1)) 0 0) (hd : 3 ≤ d + 1) (h : f_X12_counts K L fu a0 v1 v2 v3 M = some r) : gW X 0 0 n K L M 0 [(0, va_rf (some a0)), (1, .int v1), (2, .int v2), (3, .int v3)] [] := by
  unfold f_X12_counts at h
  refine g_iload_n o dX12_counts_0 1 rfl ?_
  obtain ⟨x1, e2, h⟩ := ob h
  refine g_invS0 o ml_X12_47 kb_X12_isPlace ks_X12_isPlace (c_X12_isPlace (cq X) (cD X) (cY X) (cB X) (d := d) (by omega) e2) rfl rfl (by simp [cat_i, cat_l, cat_rf]) dX12_counts_1 ?_
  refine g_if_eq (tgt := 14) o dX12_counts_4 (by decide) (fun z => ?_) (fun z => ?_)
  · have h := (if_pos z).symm.trans h
    exact w_X12_counts_14 o hL hr hz hk0 hE hd h
  · have h := (if_neg z).symm.trans h
    refine g_iload_n o dX12_counts_7 2 rfl ?_
    obtain ⟨x3, e4, h⟩ := ob h
    refine g_invS0 o ml_X12_205 kb_X12_isWay ks_X12_isWay (c_X12_isWay (cq X) (cD X) (cY X) (cB X) (d := d) (by omega) e4) rfl rfl (by simp [cat_i, cat_l, cat_rf]) dX12_counts_8 ?_
    refine g_if_ne (tgt := 19) o dX12_counts_11 (by decide) (fun z => ?_) (fun z => ?_)
    · have h := (if_neg z).symm.trans h
      refine g_aload_n o dX12_counts_19 0 rfl ?_
      refine g_iload_n o dX12_counts_20 1 rfl ?_
      refine g_iconst (v := (0 : Int32)) o dX12_counts_21 (by decide) ?_
      obtain ⟨x5, e6, h⟩ := ob h
      refine g_invV0 o (rc_self hk0) (by decide) ml_X12_119 kb_X12_why kv_X12_why rfl (c_X12_why (cq X) (cD X) (cY X) (cB X) (d := d) (by omega) (rc_at (rc_self hk0)).2 e6) rfl rfl (by simp [cat_i, cat_l, cat_rf]) dX12_counts_22 ?_
      exact w_X12_counts_25 o hL hr hz hk0 hE hd h
    · have h := (if_pos z).symm.trans h
      exact w_X12_counts_14 o hL hr hz hk0 hE hd h
theorem c_X12_counts (l : Launch) (D : va_G) (Y : Nat → ClassId) (B : Nat) {d : Nat} {n : Nat} {K L : Nat → Nat} {fu : Nat} {M : Mm} {a0 : Nat} {v1 : Int32} {v2 : Int32} {v3 : Int32} {r : (Int32 × Mm)} (hd : 3 ≤ d) (hk0 : K a0 = 12) (h : f_X12_counts K L fu a0 v1 v2 v3 M = some r) : mC l D Y B d yX12_counts cX12_counts 7 (some .int) [va_rf (some a0), .int v1, .int v2, .int v3] n K L M n K L r.2 (some (.int r.1)) 0 0 := by
  obtain ⟨d, rfl⟩ : ∃ e, d = e + 1 := ⟨d - 1, by omega⟩
  refine mk_met (by decide) (by simp [lgs_r, lgs_i, lgs_l, lgs_n]) (fun X e1 e2 e3 e4 o hL hr hnm hz hc hs hE => ?_)
  subst e1 e2 e3 e4
  rw [show lv_args 0 [va_rf (some a0), .int v1, .int v2, .int v3] = [(0, va_rf (some a0)), (1, .int v1), (2, .int v2), (3, .int v3)] by simp [lva_r, lva_i, lva_l, lva_n]]
  exact w_X12_counts_0 o hL hr hz hk0 hE hd h
def f_X12_told (K L : Nat → Nat) (a0 : Nat) (v1 : Int32) (v2 : Int32) (v3 : Int32) (v4 : Int32) (M : Mm) : Option (Int32 × Mm) :=
  Option.bind (f_X12_whyCounts K L M a0 v1 v2 v3) (fun x1 =>
  if x1 = 0 then
    Option.bind (f_X12_minuteAt v2 v3) (fun x3 =>
    Option.bind (f_X12_of K L M a0 v1 x3) (fun x5 =>
    if x5 = 0 then
      Option.bind (f_X12_no K L a0 (-8 : Int32) M) (fun x13 =>
      some (x13.1, x13.2))
    else
      Option.bind (f_X12_isIn (v4.toInt64) (0 : Int64) (2 : Int64)) (fun x7 =>
      if x7 = 0 then
        Option.bind (f_X12_no K L a0 (-12 : Int32) M) (fun x9 =>
        some (x9.1, x9.2))
      else
        Option.bind (f_X12_of K L M a0 v1 ((x3 + (1 : Int32)) + v4)) (fun x11 =>
        some (x11, M)))))
  else
    Option.bind (f_X12_no K L a0 x1 M) (fun x15 =>
    some (x15.1, x15.2)))
set_option maxHeartbeats 4000000 in
theorem w_X12_told_0 {X : Cx} {d n : Nat} {K L : Nat → Nat} {a0 : Nat} {r : (Int32 × Mm)} {v1 : Int32} {v2 : Int32} {v3 : Int32} {v4 : Int32} {M : Mm} (o : cOk X cX12_told RX12 (d + 1)) (hL : cL X = 7) (hr : (ch X).sig.returnType = some .int) (hz : (cs X).heap.size + 0 = cB X + n) (hk0 : K a0 = 12) (hE : cE X n K L r.2 (some (.int r.1)) 0 0) (hd : 4 ≤ d + 1) (h : f_X12_told K L a0 v1 v2 v3 v4 M = some r) : gW X 0 0 n K L M 0 [(0, va_rf (some a0)), (1, .int v1), (2, .int v2), (3, .int v3), (4, .int v4)] [] := by
  unfold f_X12_told at h
  refine g_aload_n o dX12_told_0 0 rfl ?_
  refine g_iload_n o dX12_told_1 1 rfl ?_
  refine g_iload_n o dX12_told_2 2 rfl ?_
  refine g_iload_n o dX12_told_3 3 rfl ?_
  obtain ⟨x1, e2, h⟩ := ob h
  refine g_invV0 o (rc_self hk0) (by decide) ml_X12_208 kb_X12_whyCounts kv_X12_whyCounts rfl (c_X12_whyCounts (cq X) (cD X) (cY X) (cB X) (d := d) (by omega) (rc_at (rc_self hk0)).2 e2) rfl rfl (by simp [cat_i, cat_l, cat_rf]) dX12_told_4 ?_
  refine g_istore (i := 5) (ls' := [(5, .int x1), (0, va_rf (some a0)), (1, .int v1), (2, .int v2), (3, .int v3), (4, .int v4)]) o dX12_told_7 (ltL hL (by decide)) rfl ?_
  refine g_iload o dX12_told_9 0 rfl ?_
  refine g_if_eq (tgt := 21) o dX12_told_11 (by decide) (fun z => ?_) (fun z => ?_)
  · have h := (if_pos z).symm.trans h
    refine g_iload_n o dX12_told_21 3 rfl ?_
    refine g_iload_n o dX12_told_22 4 rfl ?_
    obtain ⟨x3, e4, h⟩ := ob h
    refine g_invS0 o ml_X12_178 kb_X12_minuteAt ks_X12_minuteAt (c_X12_minuteAt (cq X) (cD X) (cY X) (cB X) (d := d) (by omega) e4) rfl rfl (by simp [cat_i, cat_l, cat_rf]) dX12_told_23 ?_
    refine g_istore (i := 6) (ls' := [(6, .int x3), (5, .int x1), (0, va_rf (some a0)), (1, .int v1), (2, .int v2), (3, .int v3), (4, .int v4)]) o dX12_told_26 (ltL hL (by decide)) rfl ?_
    refine g_aload_n o dX12_told_28 2 rfl ?_
    refine g_iload_n o dX12_told_29 3 rfl ?_
    refine g_iload o dX12_told_30 0 rfl ?_
    obtain ⟨x5, e6, h⟩ := ob h
    refine g_invV0 o (rc_self hk0) (by decide) ml_X12_43 kb_X12_of kv_X12_of rfl (c_X12_of (cq X) (cD X) (cY X) (cB X) (d := d) (by omega) (rc_at (rc_self hk0)).2 e6) rfl rfl (by simp [cat_i, cat_l, cat_rf]) dX12_told_32 ?_
    refine g_if_ne (tgt := 45) o dX12_told_35 (by decide) (fun z => ?_) (fun z => ?_)
    · have h := (if_neg z).symm.trans h
      refine g_iload o dX12_told_45 6 rfl ?_
      refine g_i2l o dX12_told_47 ?_
      refine g_lconst (v := (0 : Int64)) o dX12_told_48 (by decide) ?_
      refine g_ldc2 (v := (2 : Int64)) o kc_X12_137 dX12_told_49 ?_
      obtain ⟨x7, e8, h⟩ := ob h
      refine g_invS0 o ml_X12_62 kb_X12_isIn ks_X12_isIn (c_X12_isIn (cq X) (cD X) (cY X) (cB X) (d := d) (by omega) e8) rfl rfl (by simp [cat_i, cat_l, cat_rf]) dX12_told_52 ?_
      refine g_if_eq (tgt := 73) o dX12_told_55 (by decide) (fun z => ?_) (fun z => ?_)
      · have h := (if_pos z).symm.trans h
        refine g_aload_n o dX12_told_73 2 rfl ?_
        refine g_bipush (v := (-12 : Int32)) o dX12_told_74 (by decide) ?_
        obtain ⟨x9, e10, h⟩ := ob h
        refine g_invV0 o (rc_self hk0) (by decide) ml_X12_72 kb_X12_no kv_X12_no rfl (c_X12_no (cq X) (cD X) (cY X) (cB X) (d := d) (by omega) (rc_at (rc_self hk0)).2 e10) rfl rfl (by simp [cat_i, cat_l, cat_rf]) dX12_told_76 ?_
        cases h
        exact g_iret o hr hE dX12_told_79
      · have h := (if_neg z).symm.trans h
        refine g_aload_n o dX12_told_58 2 rfl ?_
        refine g_iload_n o dX12_told_59 3 rfl ?_
        refine g_iload o dX12_told_60 0 rfl ?_
        refine g_iconst (v := (1 : Int32)) o dX12_told_62 (by decide) ?_
        refine g_iadd o dX12_told_63 ?_
        refine g_iload o dX12_told_64 6 rfl ?_
        refine g_iadd o dX12_told_66 ?_
        obtain ⟨x11, e12, h⟩ := ob h
        refine g_invV0 o (rc_self hk0) (by decide) ml_X12_43 kb_X12_of kv_X12_of rfl (c_X12_of (cq X) (cD X) (cY X) (cB X) (d := d) (by omega) (rc_at (rc_self hk0)).2 e12) rfl rfl (by simp [cat_i, cat_l, cat_rf]) dX12_told_67 ?_
        refine g_goto (tgt := 79) o dX12_told_70 (by decide) ?_
        cases h
        exact g_iret o hr hE dX12_told_79
    · have h := (if_pos z).symm.trans h
      refine g_aload_n o dX12_told_38 2 rfl ?_
      refine g_bipush (v := (-8 : Int32)) o dX12_told_39 (by decide) ?_
      obtain ⟨x13, e14, h⟩ := ob h
      refine g_invV0 o (rc_self hk0) (by decide) ml_X12_72 kb_X12_no kv_X12_no rfl (c_X12_no (cq X) (cD X) (cY X) (cB X) (d := d) (by omega) (rc_at (rc_self hk0)).2 e14) rfl rfl (by simp [cat_i, cat_l, cat_rf]) dX12_told_41 ?_
      cases h
      exact g_iret o hr hE dX12_told_44
  · have h := (if_neg z).symm.trans h
    refine g_aload_n o dX12_told_14 1 rfl ?_
    refine g_iload o dX12_told_15 0 rfl ?_
    obtain ⟨x15, e16, h⟩ := ob h
    refine g_invV0 o (rc_self hk0) (by decide) ml_X12_72 kb_X12_no kv_X12_no rfl (c_X12_no (cq X) (cD X) (cY X) (cB X) (d := d) (by omega) (rc_at (rc_self hk0)).2 e16) rfl rfl (by simp [cat_i, cat_l, cat_rf]) dX12_told_17 ?_
    cases h
    exact g_iret o hr hE dX12_told_20
theorem c_X12_told (l : Launch) (D : va_G) (Y : Nat → ClassId) (B : Nat) {d : Nat} {n : Nat} {K L : Nat → Nat} {M : Mm} {a0 : Nat} {v1 : Int32} {v2 : Int32} {v3 : Int32} {v4 : Int32} {r : (Int32 × Mm)} (hd : 4 ≤ d) (hk0 : K a0 = 12) (h : f_X12_told K L a0 v1 v2 v3 v4 M = some r) : mC l D Y B d yX12_told cX12_told 7 (some .int) [va_rf (some a0), .int v1, .int v2, .int v3, .int v4] n K L M n K L r.2 (some (.int r.1)) 0 0 := by
  obtain ⟨d, rfl⟩ : ∃ e, d = e + 1 := ⟨d - 1, by omega⟩
  refine mk_met (by decide) (by simp [lgs_r, lgs_i, lgs_l, lgs_n]) (fun X e1 e2 e3 e4 o hL hr hnm hz hc hs hE => ?_)
  subst e1 e2 e3 e4
  rw [show lv_args 0 [va_rf (some a0), .int v1, .int v2, .int v3, .int v4] = [(0, va_rf (some a0)), (1, .int v1), (2, .int v2), (3, .int v3), (4, .int v4)] by simp [lva_r, lva_i, lva_l, lva_n]]
  exact w_X12_told_0 o hL hr hz hk0 hE hd h
def f_X12_left_43 (K L : Nat → Nat) (fu : Nat) (a0 : Nat) (v1 : Int32) (v2 : Int32) (v3 : Int32) (M : Mm) : Option (Int32 × Mm) :=
  if v3 = 0 then
    Option.bind (f_X12_window K L fu a0 v1 v2 M) (fun x1 =>
    if (mm_I x1 (32 * 12 + 16) a0) = 0 then
      Option.bind (f_X12_no K L a0 (-8 : Int32) x1) (fun x3 =>
      some (x3.1, x3.2))
    else
      Option.bind (f_X12_of K L x1 a0 v1 (72 : Int32)) (fun x5 =>
      some (((((x5.toInt64) * (mm_J x1 (32 * 12 + 17) a0)) / (10000 : Int64)) - (mm_J x1 (32 * 12 + 18) a0)).toInt32, x1)))
  else
    Option.bind (f_X12_no K L a0 v3 M) (fun x7 =>
    some (x7.1, x7.2))
set_option maxHeartbeats 4000000 in
theorem w_X12_left_43 {X : Cx} {d n : Nat} {K L : Nat → Nat} {fu : Nat} {a0 : Nat} {r : (Int32 × Mm)} {v1 : Int32} {v2 : Int32} {v3 : Int32} {M : Mm} (o : cOk X cX12_left RX12 (d + 1)) (hL : cL X = 4) (hr : (ch X).sig.returnType = some .int) (hz : (cs X).heap.size + 0 = cB X + n) (hk0 : K a0 = 12) (hE : cE X n K L r.2 (some (.int r.1)) 0 0) (hd : 3 ≤ d + 1) (h : f_X12_left_43 K L fu a0 v1 v2 v3 M = some r) : gW X 0 0 n K L M 43 [(0, va_rf (some a0)), (1, .int v1), (2, .int v2), (3, .int v3)] [] := by
  unfold f_X12_left_43 at h
  refine g_iload_n o dX12_left_43 3 rfl ?_
  refine g_if_eq (tgt := 53) o dX12_left_44 (by decide) (fun z => ?_) (fun z => ?_)
  · have h := (if_pos z).symm.trans h
    refine g_aload_n o dX12_left_53 0 rfl ?_
    refine g_iload_n o dX12_left_54 1 rfl ?_
    refine g_iload_n o dX12_left_55 2 rfl ?_
    obtain ⟨x1, e2, h⟩ := ob h
    refine g_invV0 o (rc_self hk0) (by decide) ml_X12_181 kb_X12_window kv_X12_window rfl (c_X12_window (cq X) (cD X) (cY X) (cB X) (d := d) (by omega) (rc_at (rc_self hk0)).2 e2) rfl rfl (by simp [cat_i, cat_l, cat_rf]) dX12_left_56 ?_
    refine g_aload_n o dX12_left_59 0 rfl ?_
    refine g_getI o fl_X12_167 (rc_self hk0) (by decide) rfl dX12_left_60 ?_
    refine g_if_eq (tgt := 92) o dX12_left_63 (by decide) (fun z => ?_) (fun z => ?_)
    · have h := (if_pos z).symm.trans h
      refine g_aload_n o dX12_left_92 0 rfl ?_
      refine g_bipush (v := (-8 : Int32)) o dX12_left_93 (by decide) ?_
      obtain ⟨x3, e4, h⟩ := ob h
      refine g_invV0 o (rc_self hk0) (by decide) ml_X12_72 kb_X12_no kv_X12_no rfl (c_X12_no (cq X) (cD X) (cY X) (cB X) (d := d) (by omega) (rc_at (rc_self hk0)).2 e4) rfl rfl (by simp [cat_i, cat_l, cat_rf]) dX12_left_95 ?_
      cases h
      exact g_iret o hr hE dX12_left_98
    · have h := (if_neg z).symm.trans h
      refine g_aload_n o dX12_left_66 0 rfl ?_
      refine g_iload_n o dX12_left_67 1 rfl ?_
      refine g_bipush (v := (72 : Int32)) o dX12_left_68 (by decide) ?_
      obtain ⟨x5, e6, h⟩ := ob h
      refine g_invV0 o (rc_self hk0) (by decide) ml_X12_43 kb_X12_of kv_X12_of rfl (c_X12_of (cq X) (cD X) (cY X) (cB X) (d := d) (by omega) (rc_at (rc_self hk0)).2 e6) rfl rfl (by simp [cat_i, cat_l, cat_rf]) dX12_left_70 ?_
      refine g_i2l o dX12_left_73 ?_
      refine g_aload_n o dX12_left_74 0 rfl ?_
      refine g_getJ o fl_X12_171 (rc_self hk0) (by decide) rfl dX12_left_75 ?_
      refine g_lmul o dX12_left_78 ?_
      refine g_ldc2 (v := (10000 : Int64)) o kc_X12_89 dX12_left_79 ?_
      refine g_ldiv o dX12_left_82 (by decide) ?_
      refine g_aload_n o dX12_left_83 0 rfl ?_
      refine g_getJ o fl_X12_175 (rc_self hk0) (by decide) rfl dX12_left_84 ?_
      refine g_lsub o dX12_left_87 ?_
      refine g_l2i o dX12_left_88 ?_
      refine g_goto (tgt := 98) o dX12_left_89 (by decide) ?_
      cases h
      exact g_iret o hr hE dX12_left_98
  · have h := (if_neg z).symm.trans h
    refine g_aload_n o dX12_left_47 0 rfl ?_
    refine g_iload_n o dX12_left_48 3 rfl ?_
    obtain ⟨x7, e8, h⟩ := ob h
    refine g_invV0 o (rc_self hk0) (by decide) ml_X12_72 kb_X12_no kv_X12_no rfl (c_X12_no (cq X) (cD X) (cY X) (cB X) (d := d) (by omega) (rc_at (rc_self hk0)).2 e8) rfl rfl (by simp [cat_i, cat_l, cat_rf]) dX12_left_49 ?_
    cases h
    exact g_iret o hr hE dX12_left_52
def f_X12_left_25 (K L : Nat → Nat) (fu : Nat) (a0 : Nat) (v1 : Int32) (v2 : Int32) (s0 : Int32) (M : Mm) : Option (Int32 × Mm) :=
  if s0 = 0 then
    Option.bind (f_X12_of K L M a0 v1 (91 : Int32)) (fun x1 =>
    if x1 = 0 then
      f_X12_left_43 K L fu a0 v1 v2 (-2 : Int32) M
    else
      f_X12_left_43 K L fu a0 v1 v2 s0 M)
  else
    f_X12_left_43 K L fu a0 v1 v2 s0 M
set_option maxHeartbeats 4000000 in
theorem w_X12_left_25 {X : Cx} {d n : Nat} {K L : Nat → Nat} {fu : Nat} {a0 : Nat} {r : (Int32 × Mm)} {v1 : Int32} {v2 : Int32} {s0 : Int32} {M : Mm} (o : cOk X cX12_left RX12 (d + 1)) (hL : cL X = 4) (hr : (ch X).sig.returnType = some .int) (hz : (cs X).heap.size + 0 = cB X + n) (hk0 : K a0 = 12) (hE : cE X n K L r.2 (some (.int r.1)) 0 0) (hd : 3 ≤ d + 1) (h : f_X12_left_25 K L fu a0 v1 v2 s0 M = some r) : gW X 0 0 n K L M 25 [(0, va_rf (some a0)), (1, .int v1), (2, .int v2)] [.int s0] := by
  unfold f_X12_left_25 at h
  refine g_istore_n (i := 3) (ls' := [(3, .int s0), (0, va_rf (some a0)), (1, .int v1), (2, .int v2)]) o dX12_left_25 rfl (ltL hL (by decide)) rfl ?_
  refine g_iload_n o dX12_left_26 0 rfl ?_
  refine g_if_ne (tgt := 43) o dX12_left_27 (by decide) (fun z => ?_) (fun z => ?_)
  · have h := (if_neg z).symm.trans h
    refine gsub [1, 2, 3, 0] rfl ?_
    exact w_X12_left_43 o hL hr hz hk0 hE hd h
  · have h := (if_pos z).symm.trans h
    refine g_aload_n o dX12_left_30 1 rfl ?_
    refine g_iload_n o dX12_left_31 2 rfl ?_
    refine g_bipush (v := (91 : Int32)) o dX12_left_32 (by decide) ?_
    obtain ⟨x1, e2, h⟩ := ob h
    refine g_invV0 o (rc_self hk0) (by decide) ml_X12_43 kb_X12_of kv_X12_of rfl (c_X12_of (cq X) (cD X) (cY X) (cB X) (d := d) (by omega) (rc_at (rc_self hk0)).2 e2) rfl rfl (by simp [cat_i, cat_l, cat_rf]) dX12_left_34 ?_
    refine g_if_ne (tgt := 43) o dX12_left_37 (by decide) (fun z => ?_) (fun z => ?_)
    · have h := (if_neg z).symm.trans h
      refine gsub [1, 2, 3, 0] rfl ?_
      exact w_X12_left_43 o hL hr hz hk0 hE hd h
    · have h := (if_pos z).symm.trans h
      refine g_bipush (v := (-2 : Int32)) o dX12_left_40 (by decide) ?_
      refine g_istore_n (i := 3) (ls' := [(3, .int (-2 : Int32)), (0, va_rf (some a0)), (1, .int v1), (2, .int v2)]) o dX12_left_42 rfl (ltL hL (by decide)) rfl ?_
      refine gsub [1, 2, 3, 0] rfl ?_
      exact w_X12_left_43 o hL hr hz hk0 hE hd h
def f_X12_left_14 (K L : Nat → Nat) (fu : Nat) (a0 : Nat) (v1 : Int32) (v2 : Int32) (M : Mm) : Option (Int32 × Mm) :=
  f_X12_left_25 K L fu a0 v1 v2 (-3 : Int32) M
set_option maxHeartbeats 4000000 in
theorem w_X12_left_14 {X : Cx} {d n : Nat} {K L : Nat → Nat} {fu : Nat} {a0 : Nat} {r : (Int32 × Mm)} {v1 : Int32} {v2 : Int32} {M : Mm} (o : cOk X cX12_left RX12 (d + 1)) (hL : cL X = 4) (hr : (ch X).sig.returnType = some .int) (hz : (cs X).heap.size + 0 = cB X + n) (hk0 : K a0 = 12) (hE : cE X n K L r.2 (some (.int r.1)) 0 0) (hd : 3 ≤ d + 1) (h : f_X12_left_14 K L fu a0 v1 v2 M = some r) : gW X 0 0 n K L M 14 [(0, va_rf (some a0)), (1, .int v1), (2, .int v2)] [] := by
  unfold f_X12_left_14 at h
  refine g_bipush (v := (-3 : Int32)) o dX12_left_14 (by decide) ?_
  refine g_goto (tgt := 25) o dX12_left_16 (by decide) ?_
  exact w_X12_left_25 o hL hr hz hk0 hE hd h
def f_X12_left (K L : Nat → Nat) (fu : Nat) (a0 : Nat) (v1 : Int32) (v2 : Int32) (M : Mm) : Option (Int32 × Mm) :=
  Option.bind (f_X12_isPlace v1) (fun x1 =>
  if x1 = 0 then
    f_X12_left_14 K L fu a0 v1 v2 M
  else
    Option.bind (f_X12_isMinute v2) (fun x3 =>
    if x3 = 0 then
      f_X12_left_14 K L fu a0 v1 v2 M
    else
      Option.bind (f_X12_why K L M a0 v1 (1 : Int32)) (fun x5 =>
      f_X12_left_25 K L fu a0 v1 v2 x5 M)))
set_option maxHeartbeats 4000000 in
theorem w_X12_left_0 {X : Cx} {d n : Nat} {K L : Nat → Nat} {fu : Nat} {a0 : Nat} {r : (Int32 × Mm)} {v1 : Int32} {v2 : Int32} {M : Mm} (o : cOk X cX12_left RX12 (d + 1)) (hL : cL X = 4) (hr : (ch X).sig.returnType = some .int) (hz : (cs X).heap.size + 0 = cB X + n) (hk0 : K a0 = 12) (hE : cE X n K L r.2 (some (.int r.1)) 0 0) (hd : 3 ≤ d + 1) (h : f_X12_left K L fu a0 v1 v2 M = some r) : gW X 0 0 n K L M 0 [(0, va_rf (some a0)), (1, .int v1), (2, .int v2)] [] := by
  unfold f_X12_left at h
  refine g_iload_n o dX12_left_0 1 rfl ?_
  obtain ⟨x1, e2, h⟩ := ob h
  refine g_invS0 o ml_X12_47 kb_X12_isPlace ks_X12_isPlace (c_X12_isPlace (cq X) (cD X) (cY X) (cB X) (d := d) (by omega) e2) rfl rfl (by simp [cat_i, cat_l, cat_rf]) dX12_left_1 ?_
  refine g_if_eq (tgt := 14) o dX12_left_4 (by decide) (fun z => ?_) (fun z => ?_)
  · have h := (if_pos z).symm.trans h
    exact w_X12_left_14 o hL hr hz hk0 hE hd h
  · have h := (if_neg z).symm.trans h
    refine g_iload_n o dX12_left_7 2 rfl ?_
    obtain ⟨x3, e4, h⟩ := ob h
    refine g_invS0 o ml_X12_188 kb_X12_isMinute ks_X12_isMinute (c_X12_isMinute (cq X) (cD X) (cY X) (cB X) (d := d) (by omega) e4) rfl rfl (by simp [cat_i, cat_l, cat_rf]) dX12_left_8 ?_
    refine g_if_ne (tgt := 19) o dX12_left_11 (by decide) (fun z => ?_) (fun z => ?_)
    · have h := (if_neg z).symm.trans h
      refine g_aload_n o dX12_left_19 0 rfl ?_
      refine g_iload_n o dX12_left_20 1 rfl ?_
      refine g_iconst (v := (1 : Int32)) o dX12_left_21 (by decide) ?_
      obtain ⟨x5, e6, h⟩ := ob h
      refine g_invV0 o (rc_self hk0) (by decide) ml_X12_119 kb_X12_why kv_X12_why rfl (c_X12_why (cq X) (cD X) (cY X) (cB X) (d := d) (by omega) (rc_at (rc_self hk0)).2 e6) rfl rfl (by simp [cat_i, cat_l, cat_rf]) dX12_left_22 ?_
      exact w_X12_left_25 o hL hr hz hk0 hE hd h
    · have h := (if_pos z).symm.trans h
      exact w_X12_left_14 o hL hr hz hk0 hE hd h
theorem c_X12_left (l : Launch) (D : va_G) (Y : Nat → ClassId) (B : Nat) {d : Nat} {n : Nat} {K L : Nat → Nat} {fu : Nat} {M : Mm} {a0 : Nat} {v1 : Int32} {v2 : Int32} {r : (Int32 × Mm)} (hd : 3 ≤ d) (hk0 : K a0 = 12) (h : f_X12_left K L fu a0 v1 v2 M = some r) : mC l D Y B d yX12_left cX12_left 4 (some .int) [va_rf (some a0), .int v1, .int v2] n K L M n K L r.2 (some (.int r.1)) 0 0 := by
  obtain ⟨d, rfl⟩ : ∃ e, d = e + 1 := ⟨d - 1, by omega⟩
  refine mk_met (by decide) (by simp [lgs_r, lgs_i, lgs_l, lgs_n]) (fun X e1 e2 e3 e4 o hL hr hnm hz hc hs hE => ?_)
  subst e1 e2 e3 e4
  rw [show lv_args 0 [va_rf (some a0), .int v1, .int v2] = [(0, va_rf (some a0)), (1, .int v1), (2, .int v2)] by simp [lva_r, lva_i, lva_l, lva_n]]
  exact w_X12_left_0 o hL hr hz hk0 hE hd h
def f_X12_trial_81b (K L : Nat → Nat) (fu : Nat) (k81 : Int32 → Int32 → Int32 → Int32 → Int32 → Int32 → Mm → Option (Int32 × Mm)) (a0 : Nat) (v1 : Int32) (v2 : Int32) (v3 : Int32) (v4 : Int32) (v5 : Int32) (v7 : Int32) (M : Mm) : Option (Int32 × Mm) :=
  if (88 : Int32) ≤ v7 then
    Option.bind (f_X12_to K L a0 v1 (77 : Int32) v2 M) (fun x1 =>
    Option.bind (f_X12_to K L a0 v1 (78 : Int32) v3 x1) (fun x3 =>
    Option.bind (f_X12_to K L a0 v1 (79 : Int32) v4 x3) (fun x5 =>
    Option.bind (f_X12_to K L a0 v1 (80 : Int32) v5 x5) (fun x7 =>
    some ((1 : Int32), x7)))))
  else
    Option.bind (f_X12_to K L a0 v1 v7 (0 : Int32) M) (fun x9 =>
    k81 v1 v2 v3 v4 v5 (v7 + 1) x9)
def f_X12_trial_81 (K L : Nat → Nat) (fu : Nat) (a0 : Nat) : Nat → Int32 → Int32 → Int32 → Int32 → Int32 → Int32 → Mm → Option (Int32 × Mm)
  | 0, _, _, _, _, _, _, _ => none
  | g + 1, v1, v2, v3, v4, v5, v7, M => f_X12_trial_81b K L fu (f_X12_trial_81 K L fu a0 g) a0 v1 v2 v3 v4 v5 v7 M
set_option maxHeartbeats 4000000 in
theorem w_X12_trial_81b {X : Cx} {d n : Nat} {K L : Nat → Nat} {fu : Nat} {a0 : Nat} {r : (Int32 × Mm)} {k81 : Int32 → Int32 → Int32 → Int32 → Int32 → Int32 → Mm → Option (Int32 × Mm)} {v1 : Int32} {v2 : Int32} {v3 : Int32} {v4 : Int32} {v5 : Int32} {v7 : Int32} {M : Mm} (o : cOk X cX12_trial RX12 (d + 1)) (hL : cL X = 8) (hr : (ch X).sig.returnType = some .int) (hz : (cs X).heap.size + 0 = cB X + n) (hk0 : K a0 = 12) (hE : cE X n K L r.2 (some (.int r.1)) 0 0) (hk81 : ∀ (v1 : Int32) (v2 : Int32) (v3 : Int32) (v4 : Int32) (v5 : Int32) (v7 : Int32) (M : Mm), k81 v1 v2 v3 v4 v5 v7 M = some r → gW X 0 0 n K L M 81 [(0, va_rf (some a0)), (1, .int v1), (2, .int v2), (3, .int v3), (4, .int v4), (5, .int v5), (7, .int v7)] []) (hd : 3 ≤ d + 1) (h : f_X12_trial_81b K L fu k81 a0 v1 v2 v3 v4 v5 v7 M = some r) : gW X 0 0 n K L M 81 [(0, va_rf (some a0)), (1, .int v1), (2, .int v2), (3, .int v3), (4, .int v4), (5, .int v5), (7, .int v7)] [] := by
  unfold f_X12_trial_81b at h
  refine g_iload o dX12_trial_81 6 rfl ?_
  refine g_bipush (v := (88 : Int32)) o dX12_trial_83 (by decide) ?_
  refine g_icmp_ge (tgt := 102) o dX12_trial_85 (by decide) (fun z => ?_) (fun z => ?_)
  · have h := (if_pos z).symm.trans h
    refine g_aload_n o dX12_trial_102 0 rfl ?_
    refine g_iload_n o dX12_trial_103 1 rfl ?_
    refine g_bipush (v := (77 : Int32)) o dX12_trial_104 (by decide) ?_
    refine g_iload_n o dX12_trial_106 2 rfl ?_
    obtain ⟨x1, e2, h⟩ := ob h
    refine g_invV0 o (rc_self hk0) (by decide) ml_X12_125 kb_X12_to kv_X12_to rfl (c_X12_to (cq X) (cD X) (cY X) (cB X) (d := d) (by omega) (rc_at (rc_self hk0)).2 e2) rfl rfl (by simp [cat_i, cat_l, cat_rf]) dX12_trial_107 ?_
    refine g_aload_n o dX12_trial_110 0 rfl ?_
    refine g_iload_n o dX12_trial_111 1 rfl ?_
    refine g_bipush (v := (78 : Int32)) o dX12_trial_112 (by decide) ?_
    refine g_iload_n o dX12_trial_114 3 rfl ?_
    obtain ⟨x3, e4, h⟩ := ob h
    refine g_invV0 o (rc_self hk0) (by decide) ml_X12_125 kb_X12_to kv_X12_to rfl (c_X12_to (cq X) (cD X) (cY X) (cB X) (d := d) (by omega) (rc_at (rc_self hk0)).2 e4) rfl rfl (by simp [cat_i, cat_l, cat_rf]) dX12_trial_115 ?_
    refine g_aload_n o dX12_trial_118 0 rfl ?_
    refine g_iload_n o dX12_trial_119 1 rfl ?_
    refine g_bipush (v := (79 : Int32)) o dX12_trial_120 (by decide) ?_
    refine g_iload o dX12_trial_122 4 rfl ?_
    obtain ⟨x5, e6, h⟩ := ob h
    refine g_invV0 o (rc_self hk0) (by decide) ml_X12_125 kb_X12_to kv_X12_to rfl (c_X12_to (cq X) (cD X) (cY X) (cB X) (d := d) (by omega) (rc_at (rc_self hk0)).2 e6) rfl rfl (by simp [cat_i, cat_l, cat_rf]) dX12_trial_124 ?_
    refine g_aload_n o dX12_trial_127 0 rfl ?_
    refine g_iload_n o dX12_trial_128 1 rfl ?_
    refine g_bipush (v := (80 : Int32)) o dX12_trial_129 (by decide) ?_
    refine g_iload o dX12_trial_131 5 rfl ?_
    obtain ⟨x7, e8, h⟩ := ob h
    refine g_invV0 o (rc_self hk0) (by decide) ml_X12_125 kb_X12_to kv_X12_to rfl (c_X12_to (cq X) (cD X) (cY X) (cB X) (d := d) (by omega) (rc_at (rc_self hk0)).2 e8) rfl rfl (by simp [cat_i, cat_l, cat_rf]) dX12_trial_133 ?_
    refine g_iconst (v := (1 : Int32)) o dX12_trial_136 (by decide) ?_
    cases h
    exact g_iret o hr hE dX12_trial_137
  · have h := (if_neg z).symm.trans h
    refine g_aload_n o dX12_trial_88 0 rfl ?_
    refine g_iload_n o dX12_trial_89 1 rfl ?_
    refine g_iload o dX12_trial_90 6 rfl ?_
    refine g_iconst (v := (0 : Int32)) o dX12_trial_92 (by decide) ?_
    obtain ⟨x9, e10, h⟩ := ob h
    refine g_invV0 o (rc_self hk0) (by decide) ml_X12_125 kb_X12_to kv_X12_to rfl (c_X12_to (cq X) (cD X) (cY X) (cB X) (d := d) (by omega) (rc_at (rc_self hk0)).2 e10) rfl rfl (by simp [cat_i, cat_l, cat_rf]) dX12_trial_93 ?_
    refine g_iinc (i := 7) (v := v7 + 1) (ls' := [(7, .int (v7 + 1)), (0, va_rf (some a0)), (1, .int v1), (2, .int v2), (3, .int v3), (4, .int v4), (5, .int v5)]) o dX12_trial_96 6 rfl (by first | rfl | (congr 1)) (ltL hL (by decide)) rfl ?_
    refine g_goto (tgt := 81) o dX12_trial_99 (by decide) ?_
    refine gsub [1, 2, 3, 4, 5, 6, 0] rfl ?_
    exact hk81 _ _ _ _ _ _ _ h
theorem w_X12_trial_81_n {X : Cx} {d n : Nat} {K L : Nat → Nat} {fu : Nat} {a0 : Nat} {r : (Int32 × Mm)} (o : cOk X cX12_trial RX12 (d + 1)) (hL : cL X = 8) (hr : (ch X).sig.returnType = some .int) (hz : (cs X).heap.size + 0 = cB X + n) (hk0 : K a0 = 12) (hE : cE X n K L r.2 (some (.int r.1)) 0 0) (hd : 3 ≤ d + 1) : ∀ (g : Nat) (v1 : Int32) (v2 : Int32) (v3 : Int32) (v4 : Int32) (v5 : Int32) (v7 : Int32) (M : Mm), f_X12_trial_81 K L fu a0 g v1 v2 v3 v4 v5 v7 M = some r → gW X 0 0 n K L M 81 [(0, va_rf (some a0)), (1, .int v1), (2, .int v2), (3, .int v3), (4, .int v4), (5, .int v5), (7, .int v7)] []
  | 0, _, _, _, _, _, _, _, h => by cases h
  | g + 1, v1, v2, v3, v4, v5, v7, M, h => w_X12_trial_81b o hL hr hz hk0 hE (w_X12_trial_81_n o hL hr hz hk0 hE hd g) hd h
theorem w_X12_trial_81 {X : Cx} {d n : Nat} {K L : Nat → Nat} {fu : Nat} {a0 : Nat} {r : (Int32 × Mm)} {v1 : Int32} {v2 : Int32} {v3 : Int32} {v4 : Int32} {v5 : Int32} {v7 : Int32} {M : Mm} (o : cOk X cX12_trial RX12 (d + 1)) (hL : cL X = 8) (hr : (ch X).sig.returnType = some .int) (hz : (cs X).heap.size + 0 = cB X + n) (hk0 : K a0 = 12) (hE : cE X n K L r.2 (some (.int r.1)) 0 0) (hd : 3 ≤ d + 1) (h : f_X12_trial_81 K L fu a0 fu v1 v2 v3 v4 v5 v7 M = some r) : gW X 0 0 n K L M 81 [(0, va_rf (some a0)), (1, .int v1), (2, .int v2), (3, .int v3), (4, .int v4), (5, .int v5), (7, .int v7)] [] := w_X12_trial_81_n o hL hr hz hk0 hE hd fu v1 v2 v3 v4 v5 v7 M h
def f_X12_trial_70 (K L : Nat → Nat) (fu : Nat) (a0 : Nat) (M : Mm) : Option (Int32 × Mm) :=
  Option.bind (f_X12_no K L a0 (-12 : Int32) M) (fun x1 =>
  some (x1.1, x1.2))
set_option maxHeartbeats 4000000 in
theorem w_X12_trial_70 {X : Cx} {d n : Nat} {K L : Nat → Nat} {fu : Nat} {a0 : Nat} {r : (Int32 × Mm)} {M : Mm} (o : cOk X cX12_trial RX12 (d + 1)) (hL : cL X = 8) (hr : (ch X).sig.returnType = some .int) (hz : (cs X).heap.size + 0 = cB X + n) (hk0 : K a0 = 12) (hE : cE X n K L r.2 (some (.int r.1)) 0 0) (hd : 3 ≤ d + 1) (h : f_X12_trial_70 K L fu a0  M = some r) : gW X 0 0 n K L M 70 [(0, va_rf (some a0))] [] := by
  unfold f_X12_trial_70 at h
  refine g_aload_n o dX12_trial_70 0 rfl ?_
  refine g_bipush (v := (-12 : Int32)) o dX12_trial_71 (by decide) ?_
  obtain ⟨x1, e2, h⟩ := ob h
  refine g_invV0 o (rc_self hk0) (by decide) ml_X12_72 kb_X12_no kv_X12_no rfl (c_X12_no (cq X) (cD X) (cY X) (cB X) (d := d) (by omega) (rc_at (rc_self hk0)).2 e2) rfl rfl (by simp [cat_i, cat_l, cat_rf]) dX12_trial_73 ?_
  cases h
  exact g_iret o hr hE dX12_trial_76
def f_X12_trial_25 (K L : Nat → Nat) (fu : Nat) (a0 : Nat) (v1 : Int32) (v2 : Int32) (v3 : Int32) (v4 : Int32) (v5 : Int32) (s0 : Int32) (M : Mm) : Option (Int32 × Mm) :=
  if s0 = 0 then
    if v2 = v3 then
      f_X12_trial_70 K L fu a0 M
    else
      Option.bind (f_X12_isIn (v4.toInt64) (1 : Int64) (5000 : Int64)) (fun x1 =>
      if x1 = 0 then
        f_X12_trial_70 K L fu a0 M
      else
        Option.bind (f_X12_isIn (v5.toInt64) (1 : Int64) (20 : Int64)) (fun x3 =>
        if x3 = 0 then
          f_X12_trial_70 K L fu a0 M
        else
          f_X12_trial_81 K L fu a0 fu v1 v2 v3 v4 v5 (81 : Int32) M))
  else
    Option.bind (f_X12_no K L a0 s0 M) (fun x5 =>
    some (x5.1, x5.2))
set_option maxHeartbeats 4000000 in
theorem w_X12_trial_25 {X : Cx} {d n : Nat} {K L : Nat → Nat} {fu : Nat} {a0 : Nat} {r : (Int32 × Mm)} {v1 : Int32} {v2 : Int32} {v3 : Int32} {v4 : Int32} {v5 : Int32} {s0 : Int32} {M : Mm} (o : cOk X cX12_trial RX12 (d + 1)) (hL : cL X = 8) (hr : (ch X).sig.returnType = some .int) (hz : (cs X).heap.size + 0 = cB X + n) (hk0 : K a0 = 12) (hE : cE X n K L r.2 (some (.int r.1)) 0 0) (hd : 3 ≤ d + 1) (h : f_X12_trial_25 K L fu a0 v1 v2 v3 v4 v5 s0 M = some r) : gW X 0 0 n K L M 25 [(0, va_rf (some a0)), (1, .int v1), (2, .int v2), (3, .int v3), (4, .int v4), (5, .int v5)] [.int s0] := by
  unfold f_X12_trial_25 at h
  refine g_istore (i := 6) (ls' := [(6, .int s0), (0, va_rf (some a0)), (1, .int v1), (2, .int v2), (3, .int v3), (4, .int v4), (5, .int v5)]) o dX12_trial_25 (ltL hL (by decide)) rfl ?_
  refine g_iload o dX12_trial_27 0 rfl ?_
  refine g_if_eq (tgt := 39) o dX12_trial_29 (by decide) (fun z => ?_) (fun z => ?_)
  · have h := (if_pos z).symm.trans h
    refine g_iload_n o dX12_trial_39 3 rfl ?_
    refine g_iload_n o dX12_trial_40 4 rfl ?_
    refine g_icmp_eq (tgt := 70) o dX12_trial_41 (by decide) (fun z => ?_) (fun z => ?_)
    · have h := (if_pos z).symm.trans h
      refine gsub [1] rfl ?_
      exact w_X12_trial_70 o hL hr hz hk0 hE hd h
    · have h := (if_neg z).symm.trans h
      refine g_iload o dX12_trial_44 5 rfl ?_
      refine g_i2l o dX12_trial_46 ?_
      refine g_lconst (v := (1 : Int64)) o dX12_trial_47 (by decide) ?_
      refine g_ldc2 (v := (5000 : Int64)) o kc_X12_211 dX12_trial_48 ?_
      obtain ⟨x1, e2, h⟩ := ob h
      refine g_invS0 o ml_X12_62 kb_X12_isIn ks_X12_isIn (c_X12_isIn (cq X) (cD X) (cY X) (cB X) (d := d) (by omega) e2) rfl rfl (by simp [cat_i, cat_l, cat_rf]) dX12_trial_51 ?_
      refine g_if_eq (tgt := 70) o dX12_trial_54 (by decide) (fun z => ?_) (fun z => ?_)
      · have h := (if_pos z).symm.trans h
        refine gsub [1] rfl ?_
        exact w_X12_trial_70 o hL hr hz hk0 hE hd h
      · have h := (if_neg z).symm.trans h
        refine g_iload o dX12_trial_57 6 rfl ?_
        refine g_i2l o dX12_trial_59 ?_
        refine g_lconst (v := (1 : Int64)) o dX12_trial_60 (by decide) ?_
        refine g_ldc2 (v := (20 : Int64)) o kc_X12_161 dX12_trial_61 ?_
        obtain ⟨x3, e4, h⟩ := ob h
        refine g_invS0 o ml_X12_62 kb_X12_isIn ks_X12_isIn (c_X12_isIn (cq X) (cD X) (cY X) (cB X) (d := d) (by omega) e4) rfl rfl (by simp [cat_i, cat_l, cat_rf]) dX12_trial_64 ?_
        refine g_if_ne (tgt := 77) o dX12_trial_67 (by decide) (fun z => ?_) (fun z => ?_)
        · have h := (if_neg z).symm.trans h
          refine g_bipush (v := (81 : Int32)) o dX12_trial_77 (by decide) ?_
          refine g_istore (i := 7) (ls' := [(7, .int (81 : Int32)), (6, .int s0), (0, va_rf (some a0)), (1, .int v1), (2, .int v2), (3, .int v3), (4, .int v4), (5, .int v5)]) o dX12_trial_79 (ltL hL (by decide)) rfl ?_
          refine gsub [2, 3, 4, 5, 6, 7, 0] rfl ?_
          exact w_X12_trial_81 o hL hr hz hk0 hE hd h
        · have h := (if_pos z).symm.trans h
          refine gsub [1] rfl ?_
          exact w_X12_trial_70 o hL hr hz hk0 hE hd h
  · have h := (if_neg z).symm.trans h
    refine g_aload_n o dX12_trial_32 1 rfl ?_
    refine g_iload o dX12_trial_33 0 rfl ?_
    obtain ⟨x5, e6, h⟩ := ob h
    refine g_invV0 o (rc_self hk0) (by decide) ml_X12_72 kb_X12_no kv_X12_no rfl (c_X12_no (cq X) (cD X) (cY X) (cB X) (d := d) (by omega) (rc_at (rc_self hk0)).2 e6) rfl rfl (by simp [cat_i, cat_l, cat_rf]) dX12_trial_35 ?_
    cases h
    exact g_iret o hr hE dX12_trial_38
def f_X12_trial_14 (K L : Nat → Nat) (fu : Nat) (a0 : Nat) (v1 : Int32) (v2 : Int32) (v3 : Int32) (v4 : Int32) (v5 : Int32) (M : Mm) : Option (Int32 × Mm) :=
  f_X12_trial_25 K L fu a0 v1 v2 v3 v4 v5 (-3 : Int32) M
set_option maxHeartbeats 4000000 in
theorem w_X12_trial_14 {X : Cx} {d n : Nat} {K L : Nat → Nat} {fu : Nat} {a0 : Nat} {r : (Int32 × Mm)} {v1 : Int32} {v2 : Int32} {v3 : Int32} {v4 : Int32} {v5 : Int32} {M : Mm} (o : cOk X cX12_trial RX12 (d + 1)) (hL : cL X = 8) (hr : (ch X).sig.returnType = some .int) (hz : (cs X).heap.size + 0 = cB X + n) (hk0 : K a0 = 12) (hE : cE X n K L r.2 (some (.int r.1)) 0 0) (hd : 3 ≤ d + 1) (h : f_X12_trial_14 K L fu a0 v1 v2 v3 v4 v5 M = some r) : gW X 0 0 n K L M 14 [(0, va_rf (some a0)), (1, .int v1), (2, .int v2), (3, .int v3), (4, .int v4), (5, .int v5)] [] := by
  unfold f_X12_trial_14 at h
  refine g_bipush (v := (-3 : Int32)) o dX12_trial_14 (by decide) ?_
  refine g_goto (tgt := 25) o dX12_trial_16 (by decide) ?_
  exact w_X12_trial_25 o hL hr hz hk0 hE hd h
def f_X12_trial (K L : Nat → Nat) (fu : Nat) (a0 : Nat) (v1 : Int32) (v2 : Int32) (v3 : Int32) (v4 : Int32) (v5 : Int32) (M : Mm) : Option (Int32 × Mm) :=
  Option.bind (f_X12_isWay v2) (fun x1 =>
  if x1 = 0 then
    f_X12_trial_14 K L fu a0 v1 v2 v3 v4 v5 M
  else
    Option.bind (f_X12_isWay v3) (fun x3 =>
    if x3 = 0 then
      f_X12_trial_14 K L fu a0 v1 v2 v3 v4 v5 M
    else
      Option.bind (f_X12_why K L M a0 v1 (3 : Int32)) (fun x5 =>
      f_X12_trial_25 K L fu a0 v1 v2 v3 v4 v5 x5 M)))
set_option maxHeartbeats 4000000 in
theorem w_X12_trial_0 {X : Cx} {d n : Nat} {K L : Nat → Nat} {fu : Nat} {a0 : Nat} {r : (Int32 × Mm)} {v1 : Int32} {v2 : Int32} {v3 : Int32} {v4 : Int32} {v5 : Int32} {M : Mm} (o : cOk X cX12_trial RX12 (d + 1)) (hL : cL X = 8) (hr : (ch X).sig.returnType = some .int) (hz : (cs X).heap.size + 0 = cB X + n) (hk0 : K a0 = 12) (hE : cE X n K L r.2 (some (.int r.1)) 0 0) (hd : 3 ≤ d + 1) (h : f_X12_trial K L fu a0 v1 v2 v3 v4 v5 M = some r) : gW X 0 0 n K L M 0 [(0, va_rf (some a0)), (1, .int v1), (2, .int v2), (3, .int v3), (4, .int v4), (5, .int v5)] [] := by
  unfold f_X12_trial at h
  refine g_iload_n o dX12_trial_0 2 rfl ?_
  obtain ⟨x1, e2, h⟩ := ob h
  refine g_invS0 o ml_X12_205 kb_X12_isWay ks_X12_isWay (c_X12_isWay (cq X) (cD X) (cY X) (cB X) (d := d) (by omega) e2) rfl rfl (by simp [cat_i, cat_l, cat_rf]) dX12_trial_1 ?_
  refine g_if_eq (tgt := 14) o dX12_trial_4 (by decide) (fun z => ?_) (fun z => ?_)
  · have h := (if_pos z).symm.trans h
    exact w_X12_trial_14 o hL hr hz hk0 hE hd h
  · have h := (if_neg z).symm.trans h
    refine g_iload_n o dX12_trial_7 3 rfl ?_
    obtain ⟨x3, e4, h⟩ := ob h
    refine g_invS0 o ml_X12_205 kb_X12_isWay ks_X12_isWay (c_X12_isWay (cq X) (cD X) (cY X) (cB X) (d := d) (by omega) e4) rfl rfl (by simp [cat_i, cat_l, cat_rf]) dX12_trial_8 ?_
    refine g_if_ne (tgt := 19) o dX12_trial_11 (by decide) (fun z => ?_) (fun z => ?_)
    · have h := (if_neg z).symm.trans h
      refine g_aload_n o dX12_trial_19 0 rfl ?_
      refine g_iload_n o dX12_trial_20 1 rfl ?_
      refine g_iconst (v := (3 : Int32)) o dX12_trial_21 (by decide) ?_
      obtain ⟨x5, e6, h⟩ := ob h
      refine g_invV0 o (rc_self hk0) (by decide) ml_X12_119 kb_X12_why kv_X12_why rfl (c_X12_why (cq X) (cD X) (cY X) (cB X) (d := d) (by omega) (rc_at (rc_self hk0)).2 e6) rfl rfl (by simp [cat_i, cat_l, cat_rf]) dX12_trial_22 ?_
      exact w_X12_trial_25 o hL hr hz hk0 hE hd h
    · have h := (if_pos z).symm.trans h
      exact w_X12_trial_14 o hL hr hz hk0 hE hd h
theorem c_X12_trial (l : Launch) (D : va_G) (Y : Nat → ClassId) (B : Nat) {d : Nat} {n : Nat} {K L : Nat → Nat} {fu : Nat} {M : Mm} {a0 : Nat} {v1 : Int32} {v2 : Int32} {v3 : Int32} {v4 : Int32} {v5 : Int32} {r : (Int32 × Mm)} (hd : 3 ≤ d) (hk0 : K a0 = 12) (h : f_X12_trial K L fu a0 v1 v2 v3 v4 v5 M = some r) : mC l D Y B d yX12_trial cX12_trial 8 (some .int) [va_rf (some a0), .int v1, .int v2, .int v3, .int v4, .int v5] n K L M n K L r.2 (some (.int r.1)) 0 0 := by
  obtain ⟨d, rfl⟩ : ∃ e, d = e + 1 := ⟨d - 1, by omega⟩
  refine mk_met (by decide) (by simp [lgs_r, lgs_i, lgs_l, lgs_n]) (fun X e1 e2 e3 e4 o hL hr hnm hz hc hs hE => ?_)
  subst e1 e2 e3 e4
  rw [show lv_args 0 [va_rf (some a0), .int v1, .int v2, .int v3, .int v4, .int v5] = [(0, va_rf (some a0)), (1, .int v1), (2, .int v2), (3, .int v3), (4, .int v4), (5, .int v5)] by simp [lva_r, lva_i, lva_l, lva_n]]
  exact w_X12_trial_0 o hL hr hz hk0 hE hd h
