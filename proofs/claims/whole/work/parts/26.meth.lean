/-! methods: X12_seat X12_way X12_why_ X12_clears X12_make X12_note X12_empty X12_holds X12_read X12_rule X12_unrule X12_goesOver X12_share X12_shares X12_asks X12_findFar X12_nextOn -/
def f_X12_seat (K L : Nat → Nat) (a0 : Nat) (v1 : Int32) (M : Mm) : Option (Int32 × Mm) :=
  Option.bind (f_X12_why K L M a0 v1 (0 : Int32)) (fun x1 =>
  if x1 = 0 then
    Option.bind (f_X12_seatOf K L M a0 v1) (fun x3 =>
    some (x3, M))
  else
    Option.bind (f_X12_no K L a0 x1 M) (fun x5 =>
    some (x5.1, x5.2)))
set_option maxHeartbeats 4000000 in
theorem w_X12_seat_0 {X : Cx} {d n : Nat} {K L : Nat → Nat} {a0 : Nat} {r : (Int32 × Mm)} {v1 : Int32} {M : Mm} (o : cOk X cX12_seat RX12 (d + 1)) (hL : cL X = 3) (hr : (ch X).sig.returnType = some .int) (hz : (cs X).heap.size + 0 = cB X + n) (hk0 : K a0 = 12) (hE : cE X n K L r.2 (some (.int r.1)) 0 0) (hd : 3 ≤ d + 1) (h : f_X12_seat K L a0 v1 M = some r) : gW X 0 0 n K L M 0 [(0, va_rf (some a0)), (1, .int v1)] [] := by
  unfold f_X12_seat at h
  refine g_aload_n o dX12_seat_0 0 rfl ?_
  refine g_iload_n o dX12_seat_1 1 rfl ?_
  refine g_iconst (v := (0 : Int32)) o dX12_seat_2 (by decide) ?_
  obtain ⟨x1, e2, h⟩ := ob h
  refine g_invV0 o (rc_self hk0) (by decide) ml_X12_119 kb_X12_why kv_X12_why rfl (c_X12_why (cq X) (cD X) (cY X) (cB X) (d := d) (by omega) (rc_at (rc_self hk0)).2 e2) rfl rfl (by simp [cat_i, cat_l, cat_rf]) dX12_seat_3 ?_
  refine g_istore_n (i := 2) (ls' := [(2, .int x1), (0, va_rf (some a0)), (1, .int v1)]) o dX12_seat_6 rfl (ltL hL (by decide)) rfl ?_
  refine g_iload_n o dX12_seat_7 0 rfl ?_
  refine g_if_eq (tgt := 19) o dX12_seat_8 (by decide) (fun z => ?_) (fun z => ?_)
  · have h := (if_pos z).symm.trans h
    refine g_aload_n o dX12_seat_19 1 rfl ?_
    refine g_iload_n o dX12_seat_20 2 rfl ?_
    obtain ⟨x3, e4, h⟩ := ob h
    refine g_invV0 o (rc_self hk0) (by decide) ml_X12_91 kb_X12_seatOf kv_X12_seatOf rfl (c_X12_seatOf (cq X) (cD X) (cY X) (cB X) (d := d) (by omega) (rc_at (rc_self hk0)).2 e4) rfl rfl (by simp [cat_i, cat_l, cat_rf]) dX12_seat_21 ?_
    cases h
    exact g_iret o hr hE dX12_seat_24
  · have h := (if_neg z).symm.trans h
    refine g_aload_n o dX12_seat_11 1 rfl ?_
    refine g_iload_n o dX12_seat_12 0 rfl ?_
    obtain ⟨x5, e6, h⟩ := ob h
    refine g_invV0 o (rc_self hk0) (by decide) ml_X12_72 kb_X12_no kv_X12_no rfl (c_X12_no (cq X) (cD X) (cY X) (cB X) (d := d) (by omega) (rc_at (rc_self hk0)).2 e6) rfl rfl (by simp [cat_i, cat_l, cat_rf]) dX12_seat_13 ?_
    refine g_goto (tgt := 24) o dX12_seat_16 (by decide) ?_
    cases h
    exact g_iret o hr hE dX12_seat_24
theorem c_X12_seat (l : Launch) (D : va_G) (Y : Nat → ClassId) (B : Nat) {d : Nat} {n : Nat} {K L : Nat → Nat} {M : Mm} {a0 : Nat} {v1 : Int32} {r : (Int32 × Mm)} (hd : 3 ≤ d) (hk0 : K a0 = 12) (h : f_X12_seat K L a0 v1 M = some r) : mC l D Y B d yX12_seat cX12_seat 3 (some .int) [va_rf (some a0), .int v1] n K L M n K L r.2 (some (.int r.1)) 0 0 := by
  obtain ⟨d, rfl⟩ : ∃ e, d = e + 1 := ⟨d - 1, by omega⟩
  refine mk_met (by decide) (by simp [lgs_r, lgs_i, lgs_l, lgs_n]) (fun X e1 e2 e3 e4 o hL hr hnm hz hc hs hE => ?_)
  subst e1 e2 e3 e4
  rw [show lv_args 0 [va_rf (some a0), .int v1] = [(0, va_rf (some a0)), (1, .int v1)] by simp [lva_r, lva_i, lva_l, lva_n]]
  exact w_X12_seat_0 o hL hr hz hk0 hE hd h
def f_X12_way (K L : Nat → Nat) (fu : Nat) (a0 : Nat) (v1 : Int32) (M : Mm) : Option (Int32 × Mm) :=
  Option.bind (f_X12_why K L M a0 v1 (0 : Int32)) (fun x1 =>
  if x1 = 0 then
    Option.bind (f_X12_findWays K L fu a0 M) (fun x3 =>
    Option.bind (rx K L (mm_R x3 (32 * 12 + 12) a0) 13 v1) (fun a5 =>
    some (mm_A x3 a5 v1.toNatClampNeg, x3)))
  else
    Option.bind (f_X12_no K L a0 x1 M) (fun x7 =>
    some (x7.1, x7.2)))
set_option maxHeartbeats 4000000 in
theorem w_X12_way_0 {X : Cx} {d n : Nat} {K L : Nat → Nat} {fu : Nat} {a0 : Nat} {r : (Int32 × Mm)} {v1 : Int32} {M : Mm} (o : cOk X cX12_way RX12 (d + 1)) (hL : cL X = 3) (hr : (ch X).sig.returnType = some .int) (hz : (cs X).heap.size + 0 = cB X + n) (hk0 : K a0 = 12) (hE : cE X n K L r.2 (some (.int r.1)) 0 0) (hd : 5 ≤ d + 1) (h : f_X12_way K L fu a0 v1 M = some r) : gW X 0 0 n K L M 0 [(0, va_rf (some a0)), (1, .int v1)] [] := by
  unfold f_X12_way at h
  refine g_aload_n o dX12_way_0 0 rfl ?_
  refine g_iload_n o dX12_way_1 1 rfl ?_
  refine g_iconst (v := (0 : Int32)) o dX12_way_2 (by decide) ?_
  obtain ⟨x1, e2, h⟩ := ob h
  refine g_invV0 o (rc_self hk0) (by decide) ml_X12_119 kb_X12_why kv_X12_why rfl (c_X12_why (cq X) (cD X) (cY X) (cB X) (d := d) (by omega) (rc_at (rc_self hk0)).2 e2) rfl rfl (by simp [cat_i, cat_l, cat_rf]) dX12_way_3 ?_
  refine g_istore_n (i := 2) (ls' := [(2, .int x1), (0, va_rf (some a0)), (1, .int v1)]) o dX12_way_6 rfl (ltL hL (by decide)) rfl ?_
  refine g_iload_n o dX12_way_7 0 rfl ?_
  refine g_if_eq (tgt := 17) o dX12_way_8 (by decide) (fun z => ?_) (fun z => ?_)
  · have h := (if_pos z).symm.trans h
    refine g_aload_n o dX12_way_17 1 rfl ?_
    obtain ⟨x3, e4, h⟩ := ob h
    refine g_invV0 o (rc_self hk0) (by decide) ml_X12_122 kb_X12_findWays kv_X12_findWays rfl (c_X12_findWays (cq X) (cD X) (cY X) (cB X) (d := d) (by omega) (rc_at (rc_self hk0)).2 e4) rfl rfl (by simp [cat_i, cat_l, cat_rf]) dX12_way_18 ?_
    refine g_aload_n o dX12_way_21 1 rfl ?_
    refine g_getR o fl_X12_30 (rc_self hk0) (by decide) rfl dX12_way_22 ?_
    refine g_iload_n o dX12_way_25 2 rfl ?_
    obtain ⟨a5, e6, h⟩ := ob h
    refine g_iald o e6 dX12_way_26 ?_
    cases h
    exact g_iret o hr hE dX12_way_27
  · have h := (if_neg z).symm.trans h
    refine g_aload_n o dX12_way_11 1 rfl ?_
    refine g_iload_n o dX12_way_12 0 rfl ?_
    obtain ⟨x7, e8, h⟩ := ob h
    refine g_invV0 o (rc_self hk0) (by decide) ml_X12_72 kb_X12_no kv_X12_no rfl (c_X12_no (cq X) (cD X) (cY X) (cB X) (d := d) (by omega) (rc_at (rc_self hk0)).2 e8) rfl rfl (by simp [cat_i, cat_l, cat_rf]) dX12_way_13 ?_
    cases h
    exact g_iret o hr hE dX12_way_16
theorem c_X12_way (l : Launch) (D : va_G) (Y : Nat → ClassId) (B : Nat) {d : Nat} {n : Nat} {K L : Nat → Nat} {fu : Nat} {M : Mm} {a0 : Nat} {v1 : Int32} {r : (Int32 × Mm)} (hd : 5 ≤ d) (hk0 : K a0 = 12) (h : f_X12_way K L fu a0 v1 M = some r) : mC l D Y B d yX12_way cX12_way 3 (some .int) [va_rf (some a0), .int v1] n K L M n K L r.2 (some (.int r.1)) 0 0 := by
  obtain ⟨d, rfl⟩ : ∃ e, d = e + 1 := ⟨d - 1, by omega⟩
  refine mk_met (by decide) (by simp [lgs_r, lgs_i, lgs_l, lgs_n]) (fun X e1 e2 e3 e4 o hL hr hnm hz hc hs hE => ?_)
  subst e1 e2 e3 e4
  rw [show lv_args 0 [va_rf (some a0), .int v1] = [(0, va_rf (some a0)), (1, .int v1)] by simp [lva_r, lva_i, lva_l, lva_n]]
  exact w_X12_way_0 o hL hr hz hk0 hE hd h
def f_X12_why_ (K L : Nat → Nat) (fu : Nat) (a0 : Nat) (v1 : Int32) (M : Mm) : Option (Int32 × Mm) :=
  Option.bind (f_X12_why K L M a0 v1 (0 : Int32)) (fun x1 =>
  if x1 = 0 then
    Option.bind (f_X12_findWays K L fu a0 M) (fun x3 =>
    Option.bind (f_X12_stoppedBy K L fu x3 a0 v1) (fun x5 =>
    if x5 < 0 then
      Option.bind (f_X12_isOther K L x3 a0 v1) (fun x7 =>
      if x7 = 0 then
        Option.bind (f_X12_ruleOf K L fu x3 a0 v1) (fun x9 =>
        some (x9, x3))
      else
        some ((7 : Int32), x3))
    else
      some ((8 : Int32) + x5, x3)))
  else
    Option.bind (f_X12_no K L a0 x1 M) (fun x11 =>
    some (x11.1, x11.2)))
set_option maxHeartbeats 4000000 in
theorem w_X12_why__0 {X : Cx} {d n : Nat} {K L : Nat → Nat} {fu : Nat} {a0 : Nat} {r : (Int32 × Mm)} {v1 : Int32} {M : Mm} (o : cOk X cX12_why_ RX12 (d + 1)) (hL : cL X = 4) (hr : (ch X).sig.returnType = some .int) (hz : (cs X).heap.size + 0 = cB X + n) (hk0 : K a0 = 12) (hE : cE X n K L r.2 (some (.int r.1)) 0 0) (hd : 5 ≤ d + 1) (h : f_X12_why_ K L fu a0 v1 M = some r) : gW X 0 0 n K L M 0 [(0, va_rf (some a0)), (1, .int v1)] [] := by
  unfold f_X12_why_ at h
  refine g_aload_n o dX12_why__0 0 rfl ?_
  refine g_iload_n o dX12_why__1 1 rfl ?_
  refine g_iconst (v := (0 : Int32)) o dX12_why__2 (by decide) ?_
  obtain ⟨x1, e2, h⟩ := ob h
  refine g_invV0 o (rc_self hk0) (by decide) ml_X12_119 kb_X12_why kv_X12_why rfl (c_X12_why (cq X) (cD X) (cY X) (cB X) (d := d) (by omega) (rc_at (rc_self hk0)).2 e2) rfl rfl (by simp [cat_i, cat_l, cat_rf]) dX12_why__3 ?_
  refine g_istore_n (i := 2) (ls' := [(2, .int x1), (0, va_rf (some a0)), (1, .int v1)]) o dX12_why__6 rfl (ltL hL (by decide)) rfl ?_
  refine g_iload_n o dX12_why__7 0 rfl ?_
  refine g_if_eq (tgt := 17) o dX12_why__8 (by decide) (fun z => ?_) (fun z => ?_)
  · have h := (if_pos z).symm.trans h
    refine g_aload_n o dX12_why__17 1 rfl ?_
    obtain ⟨x3, e4, h⟩ := ob h
    refine g_invV0 o (rc_self hk0) (by decide) ml_X12_122 kb_X12_findWays kv_X12_findWays rfl (c_X12_findWays (cq X) (cD X) (cY X) (cB X) (d := d) (by omega) (rc_at (rc_self hk0)).2 e4) rfl rfl (by simp [cat_i, cat_l, cat_rf]) dX12_why__18 ?_
    refine g_aload_n o dX12_why__21 1 rfl ?_
    refine g_iload_n o dX12_why__22 2 rfl ?_
    obtain ⟨x5, e6, h⟩ := ob h
    refine g_invV0 o (rc_self hk0) (by decide) ml_X12_110 kb_X12_stoppedBy kv_X12_stoppedBy rfl (c_X12_stoppedBy (cq X) (cD X) (cY X) (cB X) (d := d) (by omega) (rc_at (rc_self hk0)).2 e6) rfl rfl (by simp [cat_i, cat_l, cat_rf]) dX12_why__23 ?_
    refine g_istore_n (i := 3) (ls' := [(3, .int x5), (2, .int x1), (0, va_rf (some a0)), (1, .int v1)]) o dX12_why__26 rfl (ltL hL (by decide)) rfl ?_
    refine g_iload_n o dX12_why__27 0 rfl ?_
    refine g_if_lt (tgt := 38) o dX12_why__28 (by decide) (fun z => ?_) (fun z => ?_)
    · have h := (if_pos z).symm.trans h
      refine g_aload_n o dX12_why__38 2 rfl ?_
      refine g_iload_n o dX12_why__39 3 rfl ?_
      obtain ⟨x7, e8, h⟩ := ob h
      refine g_invV0 o (rc_self hk0) (by decide) ml_X12_113 kb_X12_isOther kv_X12_isOther rfl (c_X12_isOther (cq X) (cD X) (cY X) (cB X) (d := d) (by omega) (rc_at (rc_self hk0)).2 e8) rfl rfl (by simp [cat_i, cat_l, cat_rf]) dX12_why__40 ?_
      refine g_if_eq (tgt := 51) o dX12_why__43 (by decide) (fun z => ?_) (fun z => ?_)
      · have h := (if_pos z).symm.trans h
        refine g_aload_n o dX12_why__51 2 rfl ?_
        refine g_iload_n o dX12_why__52 3 rfl ?_
        obtain ⟨x9, e10, h⟩ := ob h
        refine g_invV0 o (rc_self hk0) (by decide) ml_X12_94 kb_X12_ruleOf kv_X12_ruleOf rfl (c_X12_ruleOf (cq X) (cD X) (cY X) (cB X) (d := d) (by omega) (rc_at (rc_self hk0)).2 e10) rfl rfl (by simp [cat_i, cat_l, cat_rf]) dX12_why__53 ?_
        cases h
        exact g_iret o hr hE dX12_why__56
      · have h := (if_neg z).symm.trans h
        refine g_bipush (v := (7 : Int32)) o dX12_why__46 (by decide) ?_
        refine g_goto (tgt := 56) o dX12_why__48 (by decide) ?_
        cases h
        exact g_iret o hr hE dX12_why__56
    · have h := (if_neg z).symm.trans h
      refine g_bipush (v := (8 : Int32)) o dX12_why__31 (by decide) ?_
      refine g_iload_n o dX12_why__33 0 rfl ?_
      refine g_iadd o dX12_why__34 ?_
      refine g_goto (tgt := 56) o dX12_why__35 (by decide) ?_
      cases h
      exact g_iret o hr hE dX12_why__56
  · have h := (if_neg z).symm.trans h
    refine g_aload_n o dX12_why__11 1 rfl ?_
    refine g_iload_n o dX12_why__12 0 rfl ?_
    obtain ⟨x11, e12, h⟩ := ob h
    refine g_invV0 o (rc_self hk0) (by decide) ml_X12_72 kb_X12_no kv_X12_no rfl (c_X12_no (cq X) (cD X) (cY X) (cB X) (d := d) (by omega) (rc_at (rc_self hk0)).2 e12) rfl rfl (by simp [cat_i, cat_l, cat_rf]) dX12_why__13 ?_
    cases h
    exact g_iret o hr hE dX12_why__16
theorem c_X12_why_ (l : Launch) (D : va_G) (Y : Nat → ClassId) (B : Nat) {d : Nat} {n : Nat} {K L : Nat → Nat} {fu : Nat} {M : Mm} {a0 : Nat} {v1 : Int32} {r : (Int32 × Mm)} (hd : 5 ≤ d) (hk0 : K a0 = 12) (h : f_X12_why_ K L fu a0 v1 M = some r) : mC l D Y B d yX12_why_ cX12_why_ 4 (some .int) [va_rf (some a0), .int v1] n K L M n K L r.2 (some (.int r.1)) 0 0 := by
  obtain ⟨d, rfl⟩ : ∃ e, d = e + 1 := ⟨d - 1, by omega⟩
  refine mk_met (by decide) (by simp [lgs_r, lgs_i, lgs_l, lgs_n]) (fun X e1 e2 e3 e4 o hL hr hnm hz hc hs hE => ?_)
  subst e1 e2 e3 e4
  rw [show lv_args 0 [va_rf (some a0), .int v1] = [(0, va_rf (some a0)), (1, .int v1)] by simp [lva_r, lva_i, lva_l, lva_n]]
  exact w_X12_why__0 o hL hr hz hk0 hE hd h
def f_X12_clears_84b (K L : Nat → Nat) (fu : Nat) (k84 : Int32 → Int32 → Mm → Option Mm) (a0 : Nat) (v1 : Int32) (v2 : Int32) (M : Mm) : Option Mm :=
  if (4 : Int32) ≤ v2 then
    some M
  else
    Option.bind (f_X12_to K L a0 v1 ((90 : Int32) + v2) (1 : Int32) M) (fun x1 =>
    k84 v1 (v2 + 1) x1)
def f_X12_clears_84 (K L : Nat → Nat) (fu : Nat) (a0 : Nat) : Nat → Int32 → Int32 → Mm → Option Mm
  | 0, _, _, _ => none
  | g + 1, v1, v2, M => f_X12_clears_84b K L fu (f_X12_clears_84 K L fu a0 g) a0 v1 v2 M
set_option maxHeartbeats 4000000 in
theorem w_X12_clears_84b {X : Cx} {d n : Nat} {K L : Nat → Nat} {fu : Nat} {a0 : Nat} {r : Mm} {k84 : Int32 → Int32 → Mm → Option Mm} {v1 : Int32} {v2 : Int32} {M : Mm} (o : cOk X cX12_clears RX12 (d + 1)) (hL : cL X = 3) (hr : (ch X).sig.returnType = none) (hz : (cs X).heap.size + 0 = cB X + n) (hk0 : K a0 = 12) (hE : cE X n K L r none 0 0) (hk84 : ∀ (v1 : Int32) (v2 : Int32) (M : Mm), k84 v1 v2 M = some r → gW X 0 0 n K L M 84 [(0, va_rf (some a0)), (1, .int v1), (2, .int v2)] []) (hd : 1 ≤ d + 1) (h : f_X12_clears_84b K L fu k84 a0 v1 v2 M = some r) : gW X 0 0 n K L M 84 [(0, va_rf (some a0)), (1, .int v1), (2, .int v2)] [] := by
  unfold f_X12_clears_84b at h
  refine g_iload_n o dX12_clears_84 2 rfl ?_
  refine g_iconst (v := (4 : Int32)) o dX12_clears_85 (by decide) ?_
  refine g_icmp_ge (tgt := 105) o dX12_clears_86 (by decide) (fun z => ?_) (fun z => ?_)
  · have h := (if_pos z).symm.trans h
    cases h
    exact g_vret o hr hE dX12_clears_105
  · have h := (if_neg z).symm.trans h
    refine g_aload_n o dX12_clears_89 0 rfl ?_
    refine g_iload_n o dX12_clears_90 1 rfl ?_
    refine g_bipush (v := (90 : Int32)) o dX12_clears_91 (by decide) ?_
    refine g_iload_n o dX12_clears_93 2 rfl ?_
    refine g_iadd o dX12_clears_94 ?_
    refine g_iconst (v := (1 : Int32)) o dX12_clears_95 (by decide) ?_
    obtain ⟨x1, e2, h⟩ := ob h
    refine g_invV0 o (rc_self hk0) (by decide) ml_X12_125 kb_X12_to kv_X12_to rfl (c_X12_to (cq X) (cD X) (cY X) (cB X) (d := d) (by omega) (rc_at (rc_self hk0)).2 e2) rfl rfl (by simp [cat_i, cat_l, cat_rf]) dX12_clears_96 ?_
    refine g_iinc (i := 2) (v := v2 + 1) (ls' := [(2, .int (v2 + 1)), (0, va_rf (some a0)), (1, .int v1)]) o dX12_clears_99 2 rfl (by first | rfl | (congr 1)) (ltL hL (by decide)) rfl ?_
    refine g_goto (tgt := 84) o dX12_clears_102 (by decide) ?_
    refine gsub [1, 2, 0] rfl ?_
    exact hk84 _ _ _ h
theorem w_X12_clears_84_n {X : Cx} {d n : Nat} {K L : Nat → Nat} {fu : Nat} {a0 : Nat} {r : Mm} (o : cOk X cX12_clears RX12 (d + 1)) (hL : cL X = 3) (hr : (ch X).sig.returnType = none) (hz : (cs X).heap.size + 0 = cB X + n) (hk0 : K a0 = 12) (hE : cE X n K L r none 0 0) (hd : 1 ≤ d + 1) : ∀ (g : Nat) (v1 : Int32) (v2 : Int32) (M : Mm), f_X12_clears_84 K L fu a0 g v1 v2 M = some r → gW X 0 0 n K L M 84 [(0, va_rf (some a0)), (1, .int v1), (2, .int v2)] []
  | 0, _, _, _, h => by cases h
  | g + 1, v1, v2, M, h => w_X12_clears_84b o hL hr hz hk0 hE (w_X12_clears_84_n o hL hr hz hk0 hE hd g) hd h
theorem w_X12_clears_84 {X : Cx} {d n : Nat} {K L : Nat → Nat} {fu : Nat} {a0 : Nat} {r : Mm} {v1 : Int32} {v2 : Int32} {M : Mm} (o : cOk X cX12_clears RX12 (d + 1)) (hL : cL X = 3) (hr : (ch X).sig.returnType = none) (hz : (cs X).heap.size + 0 = cB X + n) (hk0 : K a0 = 12) (hE : cE X n K L r none 0 0) (hd : 1 ≤ d + 1) (h : f_X12_clears_84 K L fu a0 fu v1 v2 M = some r) : gW X 0 0 n K L M 84 [(0, va_rf (some a0)), (1, .int v1), (2, .int v2)] [] := w_X12_clears_84_n o hL hr hz hk0 hE hd fu v1 v2 M h
def f_X12_clears_2b (K L : Nat → Nat) (fu : Nat) (k2 : Int32 → Int32 → Mm → Option Mm) (a0 : Nat) (v1 : Int32) (v2 : Int32) (M : Mm) : Option Mm :=
  if (3940 : Int32) ≤ v2 then
    Option.bind (f_X12_to K L a0 v1 (44 : Int32) (-1 : Int32) M) (fun x1 =>
    Option.bind (f_X12_to K L a0 v1 (69 : Int32) (-1 : Int32) x1) (fun x3 =>
    Option.bind (f_X12_to K L a0 v1 (70 : Int32) (1 : Int32) x3) (fun x5 =>
    Option.bind (f_X12_to K L a0 v1 (72 : Int32) (10000 : Int32) x5) (fun x7 =>
    Option.bind (f_X12_to K L a0 v1 (78 : Int32) (1 : Int32) x7) (fun x9 =>
    Option.bind (f_X12_to K L a0 v1 (79 : Int32) (500 : Int32) x9) (fun x11 =>
    Option.bind (f_X12_to K L a0 v1 (80 : Int32) (1 : Int32) x11) (fun x13 =>
    f_X12_clears_84 K L fu a0 fu v1 (0 : Int32) x13)))))))
  else
    Option.bind (f_X12_to K L a0 v1 v2 (0 : Int32) M) (fun x15 =>
    k2 v1 (v2 + 1) x15)
def f_X12_clears_2 (K L : Nat → Nat) (fu : Nat) (a0 : Nat) : Nat → Int32 → Int32 → Mm → Option Mm
  | 0, _, _, _ => none
  | g + 1, v1, v2, M => f_X12_clears_2b K L fu (f_X12_clears_2 K L fu a0 g) a0 v1 v2 M
set_option maxHeartbeats 4000000 in
theorem w_X12_clears_2b {X : Cx} {d n : Nat} {K L : Nat → Nat} {fu : Nat} {a0 : Nat} {r : Mm} {k2 : Int32 → Int32 → Mm → Option Mm} {v1 : Int32} {v2 : Int32} {M : Mm} (o : cOk X cX12_clears RX12 (d + 1)) (hL : cL X = 3) (hr : (ch X).sig.returnType = none) (hz : (cs X).heap.size + 0 = cB X + n) (hk0 : K a0 = 12) (hE : cE X n K L r none 0 0) (hk2 : ∀ (v1 : Int32) (v2 : Int32) (M : Mm), k2 v1 v2 M = some r → gW X 0 0 n K L M 2 [(0, va_rf (some a0)), (1, .int v1), (2, .int v2)] []) (hd : 1 ≤ d + 1) (h : f_X12_clears_2b K L fu k2 a0 v1 v2 M = some r) : gW X 0 0 n K L M 2 [(0, va_rf (some a0)), (1, .int v1), (2, .int v2)] [] := by
  unfold f_X12_clears_2b at h
  refine g_iload_n o dX12_clears_2 2 rfl ?_
  refine g_sipush (v := (3940 : Int32)) o dX12_clears_3 (by decide) ?_
  refine g_icmp_ge (tgt := 22) o dX12_clears_6 (by decide) (fun z => ?_) (fun z => ?_)
  · have h := (if_pos z).symm.trans h
    refine g_aload_n o dX12_clears_22 0 rfl ?_
    refine g_iload_n o dX12_clears_23 1 rfl ?_
    refine g_bipush (v := (44 : Int32)) o dX12_clears_24 (by decide) ?_
    refine g_iconst (v := (-1 : Int32)) o dX12_clears_26 (by decide) ?_
    obtain ⟨x1, e2, h⟩ := ob h
    refine g_invV0 o (rc_self hk0) (by decide) ml_X12_125 kb_X12_to kv_X12_to rfl (c_X12_to (cq X) (cD X) (cY X) (cB X) (d := d) (by omega) (rc_at (rc_self hk0)).2 e2) rfl rfl (by simp [cat_i, cat_l, cat_rf]) dX12_clears_27 ?_
    refine g_aload_n o dX12_clears_30 0 rfl ?_
    refine g_iload_n o dX12_clears_31 1 rfl ?_
    refine g_bipush (v := (69 : Int32)) o dX12_clears_32 (by decide) ?_
    refine g_iconst (v := (-1 : Int32)) o dX12_clears_34 (by decide) ?_
    obtain ⟨x3, e4, h⟩ := ob h
    refine g_invV0 o (rc_self hk0) (by decide) ml_X12_125 kb_X12_to kv_X12_to rfl (c_X12_to (cq X) (cD X) (cY X) (cB X) (d := d) (by omega) (rc_at (rc_self hk0)).2 e4) rfl rfl (by simp [cat_i, cat_l, cat_rf]) dX12_clears_35 ?_
    refine g_aload_n o dX12_clears_38 0 rfl ?_
    refine g_iload_n o dX12_clears_39 1 rfl ?_
    refine g_bipush (v := (70 : Int32)) o dX12_clears_40 (by decide) ?_
    refine g_iconst (v := (1 : Int32)) o dX12_clears_42 (by decide) ?_
    obtain ⟨x5, e6, h⟩ := ob h
    refine g_invV0 o (rc_self hk0) (by decide) ml_X12_125 kb_X12_to kv_X12_to rfl (c_X12_to (cq X) (cD X) (cY X) (cB X) (d := d) (by omega) (rc_at (rc_self hk0)).2 e6) rfl rfl (by simp [cat_i, cat_l, cat_rf]) dX12_clears_43 ?_
    refine g_aload_n o dX12_clears_46 0 rfl ?_
    refine g_iload_n o dX12_clears_47 1 rfl ?_
    refine g_bipush (v := (72 : Int32)) o dX12_clears_48 (by decide) ?_
    refine g_sipush (v := (10000 : Int32)) o dX12_clears_50 (by decide) ?_
    obtain ⟨x7, e8, h⟩ := ob h
    refine g_invV0 o (rc_self hk0) (by decide) ml_X12_125 kb_X12_to kv_X12_to rfl (c_X12_to (cq X) (cD X) (cY X) (cB X) (d := d) (by omega) (rc_at (rc_self hk0)).2 e8) rfl rfl (by simp [cat_i, cat_l, cat_rf]) dX12_clears_53 ?_
    refine g_aload_n o dX12_clears_56 0 rfl ?_
    refine g_iload_n o dX12_clears_57 1 rfl ?_
    refine g_bipush (v := (78 : Int32)) o dX12_clears_58 (by decide) ?_
    refine g_iconst (v := (1 : Int32)) o dX12_clears_60 (by decide) ?_
    obtain ⟨x9, e10, h⟩ := ob h
    refine g_invV0 o (rc_self hk0) (by decide) ml_X12_125 kb_X12_to kv_X12_to rfl (c_X12_to (cq X) (cD X) (cY X) (cB X) (d := d) (by omega) (rc_at (rc_self hk0)).2 e10) rfl rfl (by simp [cat_i, cat_l, cat_rf]) dX12_clears_61 ?_
    refine g_aload_n o dX12_clears_64 0 rfl ?_
    refine g_iload_n o dX12_clears_65 1 rfl ?_
    refine g_bipush (v := (79 : Int32)) o dX12_clears_66 (by decide) ?_
    refine g_sipush (v := (500 : Int32)) o dX12_clears_68 (by decide) ?_
    obtain ⟨x11, e12, h⟩ := ob h
    refine g_invV0 o (rc_self hk0) (by decide) ml_X12_125 kb_X12_to kv_X12_to rfl (c_X12_to (cq X) (cD X) (cY X) (cB X) (d := d) (by omega) (rc_at (rc_self hk0)).2 e12) rfl rfl (by simp [cat_i, cat_l, cat_rf]) dX12_clears_71 ?_
    refine g_aload_n o dX12_clears_74 0 rfl ?_
    refine g_iload_n o dX12_clears_75 1 rfl ?_
    refine g_bipush (v := (80 : Int32)) o dX12_clears_76 (by decide) ?_
    refine g_iconst (v := (1 : Int32)) o dX12_clears_78 (by decide) ?_
    obtain ⟨x13, e14, h⟩ := ob h
    refine g_invV0 o (rc_self hk0) (by decide) ml_X12_125 kb_X12_to kv_X12_to rfl (c_X12_to (cq X) (cD X) (cY X) (cB X) (d := d) (by omega) (rc_at (rc_self hk0)).2 e14) rfl rfl (by simp [cat_i, cat_l, cat_rf]) dX12_clears_79 ?_
    refine g_iconst (v := (0 : Int32)) o dX12_clears_82 (by decide) ?_
    refine g_istore_n (i := 2) (ls' := [(2, .int (0 : Int32)), (0, va_rf (some a0)), (1, .int v1)]) o dX12_clears_83 rfl (ltL hL (by decide)) rfl ?_
    refine gsub [1, 2, 0] rfl ?_
    exact w_X12_clears_84 o hL hr hz hk0 hE hd h
  · have h := (if_neg z).symm.trans h
    refine g_aload_n o dX12_clears_9 0 rfl ?_
    refine g_iload_n o dX12_clears_10 1 rfl ?_
    refine g_iload_n o dX12_clears_11 2 rfl ?_
    refine g_iconst (v := (0 : Int32)) o dX12_clears_12 (by decide) ?_
    obtain ⟨x15, e16, h⟩ := ob h
    refine g_invV0 o (rc_self hk0) (by decide) ml_X12_125 kb_X12_to kv_X12_to rfl (c_X12_to (cq X) (cD X) (cY X) (cB X) (d := d) (by omega) (rc_at (rc_self hk0)).2 e16) rfl rfl (by simp [cat_i, cat_l, cat_rf]) dX12_clears_13 ?_
    refine g_iinc (i := 2) (v := v2 + 1) (ls' := [(2, .int (v2 + 1)), (0, va_rf (some a0)), (1, .int v1)]) o dX12_clears_16 2 rfl (by first | rfl | (congr 1)) (ltL hL (by decide)) rfl ?_
    refine g_goto (tgt := 2) o dX12_clears_19 (by decide) ?_
    refine gsub [1, 2, 0] rfl ?_
    exact hk2 _ _ _ h
theorem w_X12_clears_2_n {X : Cx} {d n : Nat} {K L : Nat → Nat} {fu : Nat} {a0 : Nat} {r : Mm} (o : cOk X cX12_clears RX12 (d + 1)) (hL : cL X = 3) (hr : (ch X).sig.returnType = none) (hz : (cs X).heap.size + 0 = cB X + n) (hk0 : K a0 = 12) (hE : cE X n K L r none 0 0) (hd : 1 ≤ d + 1) : ∀ (g : Nat) (v1 : Int32) (v2 : Int32) (M : Mm), f_X12_clears_2 K L fu a0 g v1 v2 M = some r → gW X 0 0 n K L M 2 [(0, va_rf (some a0)), (1, .int v1), (2, .int v2)] []
  | 0, _, _, _, h => by cases h
  | g + 1, v1, v2, M, h => w_X12_clears_2b o hL hr hz hk0 hE (w_X12_clears_2_n o hL hr hz hk0 hE hd g) hd h
theorem w_X12_clears_2 {X : Cx} {d n : Nat} {K L : Nat → Nat} {fu : Nat} {a0 : Nat} {r : Mm} {v1 : Int32} {v2 : Int32} {M : Mm} (o : cOk X cX12_clears RX12 (d + 1)) (hL : cL X = 3) (hr : (ch X).sig.returnType = none) (hz : (cs X).heap.size + 0 = cB X + n) (hk0 : K a0 = 12) (hE : cE X n K L r none 0 0) (hd : 1 ≤ d + 1) (h : f_X12_clears_2 K L fu a0 fu v1 v2 M = some r) : gW X 0 0 n K L M 2 [(0, va_rf (some a0)), (1, .int v1), (2, .int v2)] [] := w_X12_clears_2_n o hL hr hz hk0 hE hd fu v1 v2 M h
def f_X12_clears (K L : Nat → Nat) (fu : Nat) (a0 : Nat) (v1 : Int32) (M : Mm) : Option Mm :=
  f_X12_clears_2 K L fu a0 fu v1 (0 : Int32) M
set_option maxHeartbeats 4000000 in
theorem w_X12_clears_0 {X : Cx} {d n : Nat} {K L : Nat → Nat} {fu : Nat} {a0 : Nat} {r : Mm} {v1 : Int32} {M : Mm} (o : cOk X cX12_clears RX12 (d + 1)) (hL : cL X = 3) (hr : (ch X).sig.returnType = none) (hz : (cs X).heap.size + 0 = cB X + n) (hk0 : K a0 = 12) (hE : cE X n K L r none 0 0) (hd : 1 ≤ d + 1) (h : f_X12_clears K L fu a0 v1 M = some r) : gW X 0 0 n K L M 0 [(0, va_rf (some a0)), (1, .int v1)] [] := by
  unfold f_X12_clears at h
  refine g_iconst (v := (0 : Int32)) o dX12_clears_0 (by decide) ?_
  refine g_istore_n (i := 2) (ls' := [(2, .int (0 : Int32)), (0, va_rf (some a0)), (1, .int v1)]) o dX12_clears_1 rfl (ltL hL (by decide)) rfl ?_
  refine gsub [1, 2, 0] rfl ?_
  exact w_X12_clears_2 o hL hr hz hk0 hE hd h
theorem c_X12_clears (l : Launch) (D : va_G) (Y : Nat → ClassId) (B : Nat) {d : Nat} {n : Nat} {K L : Nat → Nat} {fu : Nat} {M : Mm} {a0 : Nat} {v1 : Int32} {r : Mm} (hd : 1 ≤ d) (hk0 : K a0 = 12) (h : f_X12_clears K L fu a0 v1 M = some r) : mC l D Y B d yX12_clears cX12_clears 3 (none) [va_rf (some a0), .int v1] n K L M n K L r none 0 0 := by
  obtain ⟨d, rfl⟩ : ∃ e, d = e + 1 := ⟨d - 1, by omega⟩
  refine mk_met (by decide) (by simp [lgs_r, lgs_i, lgs_l, lgs_n]) (fun X e1 e2 e3 e4 o hL hr hnm hz hc hs hE => ?_)
  subst e1 e2 e3 e4
  rw [show lv_args 0 [va_rf (some a0), .int v1] = [(0, va_rf (some a0)), (1, .int v1)] by simp [lva_r, lva_i, lva_l, lva_n]]
  exact w_X12_clears_0 o hL hr hz hk0 hE hd h
def f_X12_make_63 (K L : Nat → Nat) (fu : Nat) (a0 : Nat) (M : Mm) : Option (Int32 × Mm) :=
  Option.bind (f_X12_no K L a0 (-12 : Int32) M) (fun x1 =>
  some (x1.1, x1.2))
set_option maxHeartbeats 4000000 in
theorem w_X12_make_63 {X : Cx} {d n : Nat} {K L : Nat → Nat} {fu : Nat} {a0 : Nat} {r : (Int32 × Mm)} {M : Mm} (o : cOk X cX12_make RX12 (d + 1)) (hL : cL X = 5) (hr : (ch X).sig.returnType = some .int) (hz : (cs X).heap.size + 0 = cB X + n) (hk0 : K a0 = 12) (hE : cE X n K L r.2 (some (.int r.1)) 0 0) (hd : 2 ≤ d + 1) (h : f_X12_make_63 K L fu a0  M = some r) : gW X 0 0 n K L M 63 [(0, va_rf (some a0))] [] := by
  unfold f_X12_make_63 at h
  refine g_aload_n o dX12_make_63 0 rfl ?_
  refine g_bipush (v := (-12 : Int32)) o dX12_make_64 (by decide) ?_
  obtain ⟨x1, e2, h⟩ := ob h
  refine g_invV0 o (rc_self hk0) (by decide) ml_X12_72 kb_X12_no kv_X12_no rfl (c_X12_no (cq X) (cD X) (cY X) (cB X) (d := d) (by omega) (rc_at (rc_self hk0)).2 e2) rfl rfl (by simp [cat_i, cat_l, cat_rf]) dX12_make_66 ?_
  cases h
  exact g_iret o hr hE dX12_make_69
def f_X12_make (K L : Nat → Nat) (fu : Nat) (a0 : Nat) (v1 : Int32) (v2 : Int32) (v3 : Int32) (v4 : Int32) (M : Mm) : Option (Int32 × Mm) :=
  Option.bind (f_X12_isPlace v1) (fun x1 =>
  if x1 = 0 then
    Option.bind (f_X12_no K L a0 (-3 : Int32) M) (fun x17 =>
    some (x17.1, x17.2))
  else
    Option.bind (f_X12_isIn (v2.toInt64) (0 : Int64) (4 : Int64)) (fun x3 =>
    if x3 = 0 then
      f_X12_make_63 K L fu a0 M
    else
      Option.bind (f_X12_isIn (v3.toInt64) (1 : Int64) (9999 : Int64)) (fun x5 =>
      if x5 = 0 then
        f_X12_make_63 K L fu a0 M
      else
        if (v3 - v3 / (2 : Int32) * (2 : Int32)) = 0 then
          f_X12_make_63 K L fu a0 M
        else
          if (v3 - v3 / (5 : Int32) * (5 : Int32)) = 0 then
            f_X12_make_63 K L fu a0 M
          else
            Option.bind (f_X12_isIn (v4.toInt64) (0 : Int64) (9999 : Int64)) (fun x7 =>
            if x7 = 0 then
              f_X12_make_63 K L fu a0 M
            else
              Option.bind (f_X12_clears K L fu a0 v1 M) (fun x9 =>
              Option.bind (f_X12_to K L a0 v1 (0 : Int32) (v2 + (1 : Int32)) x9) (fun x11 =>
              Option.bind (f_X12_to K L a0 v1 (1 : Int32) v3 x11) (fun x13 =>
              Option.bind (f_X12_to K L a0 v1 (2 : Int32) v4 x13) (fun x15 =>
              some ((1 : Int32), x15)))))))))
set_option maxHeartbeats 4000000 in
theorem w_X12_make_0 {X : Cx} {d n : Nat} {K L : Nat → Nat} {fu : Nat} {a0 : Nat} {r : (Int32 × Mm)} {v1 : Int32} {v2 : Int32} {v3 : Int32} {v4 : Int32} {M : Mm} (o : cOk X cX12_make RX12 (d + 1)) (hL : cL X = 5) (hr : (ch X).sig.returnType = some .int) (hz : (cs X).heap.size + 0 = cB X + n) (hk0 : K a0 = 12) (hE : cE X n K L r.2 (some (.int r.1)) 0 0) (hd : 2 ≤ d + 1) (h : f_X12_make K L fu a0 v1 v2 v3 v4 M = some r) : gW X 0 0 n K L M 0 [(0, va_rf (some a0)), (1, .int v1), (2, .int v2), (3, .int v3), (4, .int v4)] [] := by
  unfold f_X12_make at h
  refine g_iload_n o dX12_make_0 1 rfl ?_
  obtain ⟨x1, e2, h⟩ := ob h
  refine g_invS0 o ml_X12_47 kb_X12_isPlace ks_X12_isPlace (c_X12_isPlace (cq X) (cD X) (cY X) (cB X) (d := d) (by omega) e2) rfl rfl (by simp [cat_i, cat_l, cat_rf]) dX12_make_1 ?_
  refine g_if_ne (tgt := 14) o dX12_make_4 (by decide) (fun z => ?_) (fun z => ?_)
  · have h := (if_neg z).symm.trans h
    refine g_iload_n o dX12_make_14 2 rfl ?_
    refine g_i2l o dX12_make_15 ?_
    refine g_lconst (v := (0 : Int64)) o dX12_make_16 (by decide) ?_
    refine g_ldc2 (v := (4 : Int64)) o kc_X12_129 dX12_make_17 ?_
    obtain ⟨x3, e4, h⟩ := ob h
    refine g_invS0 o ml_X12_62 kb_X12_isIn ks_X12_isIn (c_X12_isIn (cq X) (cD X) (cY X) (cB X) (d := d) (by omega) e4) rfl rfl (by simp [cat_i, cat_l, cat_rf]) dX12_make_20 ?_
    refine g_if_eq (tgt := 63) o dX12_make_23 (by decide) (fun z => ?_) (fun z => ?_)
    · have h := (if_pos z).symm.trans h
      refine gsub [0] rfl ?_
      exact w_X12_make_63 o hL hr hz hk0 hE hd h
    · have h := (if_neg z).symm.trans h
      refine g_iload_n o dX12_make_26 3 rfl ?_
      refine g_i2l o dX12_make_27 ?_
      refine g_lconst (v := (1 : Int64)) o dX12_make_28 (by decide) ?_
      refine g_ldc2 (v := (9999 : Int64)) o kc_X12_131 dX12_make_29 ?_
      obtain ⟨x5, e6, h⟩ := ob h
      refine g_invS0 o ml_X12_62 kb_X12_isIn ks_X12_isIn (c_X12_isIn (cq X) (cD X) (cY X) (cB X) (d := d) (by omega) e6) rfl rfl (by simp [cat_i, cat_l, cat_rf]) dX12_make_32 ?_
      refine g_if_eq (tgt := 63) o dX12_make_35 (by decide) (fun z => ?_) (fun z => ?_)
      · have h := (if_pos z).symm.trans h
        refine gsub [0] rfl ?_
        exact w_X12_make_63 o hL hr hz hk0 hE hd h
      · have h := (if_neg z).symm.trans h
        refine g_iload_n o dX12_make_38 3 rfl ?_
        refine g_iconst (v := (2 : Int32)) o dX12_make_39 (by decide) ?_
        refine g_irem o dX12_make_40 (by decide) ?_
        refine g_if_eq (tgt := 63) o dX12_make_41 (by decide) (fun z => ?_) (fun z => ?_)
        · have h := (if_pos z).symm.trans h
          refine gsub [0] rfl ?_
          exact w_X12_make_63 o hL hr hz hk0 hE hd h
        · have h := (if_neg z).symm.trans h
          refine g_iload_n o dX12_make_44 3 rfl ?_
          refine g_iconst (v := (5 : Int32)) o dX12_make_45 (by decide) ?_
          refine g_irem o dX12_make_46 (by decide) ?_
          refine g_if_eq (tgt := 63) o dX12_make_47 (by decide) (fun z => ?_) (fun z => ?_)
          · have h := (if_pos z).symm.trans h
            refine gsub [0] rfl ?_
            exact w_X12_make_63 o hL hr hz hk0 hE hd h
          · have h := (if_neg z).symm.trans h
            refine g_iload o dX12_make_50 4 rfl ?_
            refine g_i2l o dX12_make_52 ?_
            refine g_lconst (v := (0 : Int64)) o dX12_make_53 (by decide) ?_
            refine g_ldc2 (v := (9999 : Int64)) o kc_X12_131 dX12_make_54 ?_
            obtain ⟨x7, e8, h⟩ := ob h
            refine g_invS0 o ml_X12_62 kb_X12_isIn ks_X12_isIn (c_X12_isIn (cq X) (cD X) (cY X) (cB X) (d := d) (by omega) e8) rfl rfl (by simp [cat_i, cat_l, cat_rf]) dX12_make_57 ?_
            refine g_if_ne (tgt := 70) o dX12_make_60 (by decide) (fun z => ?_) (fun z => ?_)
            · have h := (if_neg z).symm.trans h
              refine g_aload_n o dX12_make_70 0 rfl ?_
              refine g_iload_n o dX12_make_71 1 rfl ?_
              obtain ⟨x9, e10, h⟩ := ob h
              refine g_invV0 o (rc_self hk0) (by decide) ml_X12_133 kb_X12_clears kv_X12_clears rfl (c_X12_clears (cq X) (cD X) (cY X) (cB X) (d := d) (by omega) (rc_at (rc_self hk0)).2 e10) rfl rfl (by simp [cat_i, cat_l, cat_rf]) dX12_make_72 ?_
              refine g_aload_n o dX12_make_75 0 rfl ?_
              refine g_iload_n o dX12_make_76 1 rfl ?_
              refine g_iconst (v := (0 : Int32)) o dX12_make_77 (by decide) ?_
              refine g_iload_n o dX12_make_78 2 rfl ?_
              refine g_iconst (v := (1 : Int32)) o dX12_make_79 (by decide) ?_
              refine g_iadd o dX12_make_80 ?_
              obtain ⟨x11, e12, h⟩ := ob h
              refine g_invV0 o (rc_self hk0) (by decide) ml_X12_125 kb_X12_to kv_X12_to rfl (c_X12_to (cq X) (cD X) (cY X) (cB X) (d := d) (by omega) (rc_at (rc_self hk0)).2 e12) rfl rfl (by simp [cat_i, cat_l, cat_rf]) dX12_make_81 ?_
              refine g_aload_n o dX12_make_84 0 rfl ?_
              refine g_iload_n o dX12_make_85 1 rfl ?_
              refine g_iconst (v := (1 : Int32)) o dX12_make_86 (by decide) ?_
              refine g_iload_n o dX12_make_87 3 rfl ?_
              obtain ⟨x13, e14, h⟩ := ob h
              refine g_invV0 o (rc_self hk0) (by decide) ml_X12_125 kb_X12_to kv_X12_to rfl (c_X12_to (cq X) (cD X) (cY X) (cB X) (d := d) (by omega) (rc_at (rc_self hk0)).2 e14) rfl rfl (by simp [cat_i, cat_l, cat_rf]) dX12_make_88 ?_
              refine g_aload_n o dX12_make_91 0 rfl ?_
              refine g_iload_n o dX12_make_92 1 rfl ?_
              refine g_iconst (v := (2 : Int32)) o dX12_make_93 (by decide) ?_
              refine g_iload o dX12_make_94 4 rfl ?_
              obtain ⟨x15, e16, h⟩ := ob h
              refine g_invV0 o (rc_self hk0) (by decide) ml_X12_125 kb_X12_to kv_X12_to rfl (c_X12_to (cq X) (cD X) (cY X) (cB X) (d := d) (by omega) (rc_at (rc_self hk0)).2 e16) rfl rfl (by simp [cat_i, cat_l, cat_rf]) dX12_make_96 ?_
              refine g_iconst (v := (1 : Int32)) o dX12_make_99 (by decide) ?_
              cases h
              exact g_iret o hr hE dX12_make_100
            · have h := (if_pos z).symm.trans h
              refine gsub [0] rfl ?_
              exact w_X12_make_63 o hL hr hz hk0 hE hd h
  · have h := (if_pos z).symm.trans h
    refine g_aload_n o dX12_make_7 0 rfl ?_
    refine g_bipush (v := (-3 : Int32)) o dX12_make_8 (by decide) ?_
    obtain ⟨x17, e18, h⟩ := ob h
    refine g_invV0 o (rc_self hk0) (by decide) ml_X12_72 kb_X12_no kv_X12_no rfl (c_X12_no (cq X) (cD X) (cY X) (cB X) (d := d) (by omega) (rc_at (rc_self hk0)).2 e18) rfl rfl (by simp [cat_i, cat_l, cat_rf]) dX12_make_10 ?_
    cases h
    exact g_iret o hr hE dX12_make_13
theorem c_X12_make (l : Launch) (D : va_G) (Y : Nat → ClassId) (B : Nat) {d : Nat} {n : Nat} {K L : Nat → Nat} {fu : Nat} {M : Mm} {a0 : Nat} {v1 : Int32} {v2 : Int32} {v3 : Int32} {v4 : Int32} {r : (Int32 × Mm)} (hd : 2 ≤ d) (hk0 : K a0 = 12) (h : f_X12_make K L fu a0 v1 v2 v3 v4 M = some r) : mC l D Y B d yX12_make cX12_make 5 (some .int) [va_rf (some a0), .int v1, .int v2, .int v3, .int v4] n K L M n K L r.2 (some (.int r.1)) 0 0 := by
  obtain ⟨d, rfl⟩ : ∃ e, d = e + 1 := ⟨d - 1, by omega⟩
  refine mk_met (by decide) (by simp [lgs_r, lgs_i, lgs_l, lgs_n]) (fun X e1 e2 e3 e4 o hL hr hnm hz hc hs hE => ?_)
  subst e1 e2 e3 e4
  rw [show lv_args 0 [va_rf (some a0), .int v1, .int v2, .int v3, .int v4] = [(0, va_rf (some a0)), (1, .int v1), (2, .int v2), (3, .int v3), (4, .int v4)] by simp [lva_r, lva_i, lva_l, lva_n]]
  exact w_X12_make_0 o hL hr hz hk0 hE hd h
def f_X12_note (K L : Nat → Nat) (fu : Nat) (a0 : Nat) (v1 : Int32) (v2 : Int64) (M : Mm) : Option (Int32 × Mm) :=
  Option.bind (f_X12_isPlace v1) (fun x1 =>
  if x1 = 0 then
    Option.bind (f_X12_no K L a0 (-3 : Int32) M) (fun x11 =>
    some (x11.1, x11.2))
  else
    Option.bind (f_X12_clears K L fu a0 v1 M) (fun x3 =>
    Option.bind (f_X12_to K L a0 v1 (0 : Int32) (6 : Int32) x3) (fun x5 =>
    Option.bind (rx K L (mm_R x5 (32 * 12 + 2) a0) 14 v1) (fun a7 =>
    bn (ms_B x5 a7 (vp_updL (mm_B x5 a7) v1.toNatClampNeg v2)) (fun M9 =>
    some ((1 : Int32), M9))))))
set_option maxHeartbeats 4000000 in
theorem w_X12_note_0 {X : Cx} {d n : Nat} {K L : Nat → Nat} {fu : Nat} {a0 : Nat} {r : (Int32 × Mm)} {v1 : Int32} {v2 : Int64} {M : Mm} (o : cOk X cX12_note RX12 (d + 1)) (hL : cL X = 4) (hr : (ch X).sig.returnType = some .int) (hz : (cs X).heap.size + 0 = cB X + n) (hk0 : K a0 = 12) (hE : cE X n K L r.2 (some (.int r.1)) 0 0) (hd : 2 ≤ d + 1) (h : f_X12_note K L fu a0 v1 v2 M = some r) : gW X 0 0 n K L M 0 [(0, va_rf (some a0)), (1, .int v1), (2, .long v2)] [] := by
  unfold f_X12_note at h
  refine g_iload_n o dX12_note_0 1 rfl ?_
  obtain ⟨x1, e2, h⟩ := ob h
  refine g_invS0 o ml_X12_47 kb_X12_isPlace ks_X12_isPlace (c_X12_isPlace (cq X) (cD X) (cY X) (cB X) (d := d) (by omega) e2) rfl rfl (by simp [cat_i, cat_l, cat_rf]) dX12_note_1 ?_
  refine g_if_ne (tgt := 14) o dX12_note_4 (by decide) (fun z => ?_) (fun z => ?_)
  · have h := (if_neg z).symm.trans h
    refine g_aload_n o dX12_note_14 0 rfl ?_
    refine g_iload_n o dX12_note_15 1 rfl ?_
    obtain ⟨x3, e4, h⟩ := ob h
    refine g_invV0 o (rc_self hk0) (by decide) ml_X12_133 kb_X12_clears kv_X12_clears rfl (c_X12_clears (cq X) (cD X) (cY X) (cB X) (d := d) (by omega) (rc_at (rc_self hk0)).2 e4) rfl rfl (by simp [cat_i, cat_l, cat_rf]) dX12_note_16 ?_
    refine g_aload_n o dX12_note_19 0 rfl ?_
    refine g_iload_n o dX12_note_20 1 rfl ?_
    refine g_iconst (v := (0 : Int32)) o dX12_note_21 (by decide) ?_
    refine g_bipush (v := (6 : Int32)) o dX12_note_22 (by decide) ?_
    obtain ⟨x5, e6, h⟩ := ob h
    refine g_invV0 o (rc_self hk0) (by decide) ml_X12_125 kb_X12_to kv_X12_to rfl (c_X12_to (cq X) (cD X) (cY X) (cB X) (d := d) (by omega) (rc_at (rc_self hk0)).2 e6) rfl rfl (by simp [cat_i, cat_l, cat_rf]) dX12_note_24 ?_
    refine g_aload_n o dX12_note_27 0 rfl ?_
    refine g_getR o fl_X12_17 (rc_self hk0) (by decide) rfl dX12_note_28 ?_
    refine g_iload_n o dX12_note_31 1 rfl ?_
    refine g_lload_n o dX12_note_32 2 rfl ?_
    obtain ⟨a7, e8, h⟩ := ob h
    refine g_last o hz e8  dX12_note_33 ?_
    obtain ⟨M9, e10, h⟩ := bn_at h
    refine g_mem e10 ?_
    refine g_iconst (v := (1 : Int32)) o dX12_note_34 (by decide) ?_
    cases h
    exact g_iret o hr hE dX12_note_35
  · have h := (if_pos z).symm.trans h
    refine g_aload_n o dX12_note_7 0 rfl ?_
    refine g_bipush (v := (-3 : Int32)) o dX12_note_8 (by decide) ?_
    obtain ⟨x11, e12, h⟩ := ob h
    refine g_invV0 o (rc_self hk0) (by decide) ml_X12_72 kb_X12_no kv_X12_no rfl (c_X12_no (cq X) (cD X) (cY X) (cB X) (d := d) (by omega) (rc_at (rc_self hk0)).2 e12) rfl rfl (by simp [cat_i, cat_l, cat_rf]) dX12_note_10 ?_
    cases h
    exact g_iret o hr hE dX12_note_13
theorem c_X12_note (l : Launch) (D : va_G) (Y : Nat → ClassId) (B : Nat) {d : Nat} {n : Nat} {K L : Nat → Nat} {fu : Nat} {M : Mm} {a0 : Nat} {v1 : Int32} {v2 : Int64} {r : (Int32 × Mm)} (hd : 2 ≤ d) (hk0 : K a0 = 12) (h : f_X12_note K L fu a0 v1 v2 M = some r) : mC l D Y B d yX12_note cX12_note 4 (some .int) [va_rf (some a0), .int v1, .long v2] n K L M n K L r.2 (some (.int r.1)) 0 0 := by
  obtain ⟨d, rfl⟩ : ∃ e, d = e + 1 := ⟨d - 1, by omega⟩
  refine mk_met (by decide) (by simp [lgs_r, lgs_i, lgs_l, lgs_n]) (fun X e1 e2 e3 e4 o hL hr hnm hz hc hs hE => ?_)
  subst e1 e2 e3 e4
  rw [show lv_args 0 [va_rf (some a0), .int v1, .long v2] = [(0, va_rf (some a0)), (1, .int v1), (2, .long v2)] by simp [lva_r, lva_i, lva_l, lva_n]]
  exact w_X12_note_0 o hL hr hz hk0 hE hd h
def f_X12_empty_28 (K L : Nat → Nat) (fu : Nat) (a0 : Nat) (v1 : Int32) (s0 : Int32) (M : Mm) : Option (Int32 × Mm) :=
  Option.bind (f_X12_clears K L fu a0 v1 M) (fun x1 =>
  some (s0, x1))
set_option maxHeartbeats 4000000 in
theorem w_X12_empty_28 {X : Cx} {d n : Nat} {K L : Nat → Nat} {fu : Nat} {a0 : Nat} {r : (Int32 × Mm)} {v1 : Int32} {s0 : Int32} {M : Mm} (o : cOk X cX12_empty RX12 (d + 1)) (hL : cL X = 3) (hr : (ch X).sig.returnType = some .int) (hz : (cs X).heap.size + 0 = cB X + n) (hk0 : K a0 = 12) (hE : cE X n K L r.2 (some (.int r.1)) 0 0) (hd : 2 ≤ d + 1) (h : f_X12_empty_28 K L fu a0 v1 s0 M = some r) : gW X 0 0 n K L M 28 [(0, va_rf (some a0)), (1, .int v1)] [.int s0] := by
  unfold f_X12_empty_28 at h
  refine g_istore_n (i := 2) (ls' := [(2, .int s0), (0, va_rf (some a0)), (1, .int v1)]) o dX12_empty_28 rfl (ltL hL (by decide)) rfl ?_
  refine g_aload_n o dX12_empty_29 1 rfl ?_
  refine g_iload_n o dX12_empty_30 2 rfl ?_
  obtain ⟨x1, e2, h⟩ := ob h
  refine g_invV0 o (rc_self hk0) (by decide) ml_X12_133 kb_X12_clears kv_X12_clears rfl (c_X12_clears (cq X) (cD X) (cY X) (cB X) (d := d) (by omega) (rc_at (rc_self hk0)).2 e2) rfl rfl (by simp [cat_i, cat_l, cat_rf]) dX12_empty_31 ?_
  refine g_iload_n o dX12_empty_34 0 rfl ?_
  cases h
  exact g_iret o hr hE dX12_empty_35
def f_X12_empty (K L : Nat → Nat) (fu : Nat) (a0 : Nat) (v1 : Int32) (M : Mm) : Option (Int32 × Mm) :=
  Option.bind (f_X12_isPlace v1) (fun x1 =>
  if x1 = 0 then
    Option.bind (f_X12_no K L a0 (-3 : Int32) M) (fun x5 =>
    some (x5.1, x5.2))
  else
    Option.bind (f_X12_of K L M a0 v1 (0 : Int32)) (fun x3 =>
    if x3 ≤ 0 then
      f_X12_empty_28 K L fu a0 v1 (0 : Int32) M
    else
      f_X12_empty_28 K L fu a0 v1 (1 : Int32) M))
set_option maxHeartbeats 4000000 in
theorem w_X12_empty_0 {X : Cx} {d n : Nat} {K L : Nat → Nat} {fu : Nat} {a0 : Nat} {r : (Int32 × Mm)} {v1 : Int32} {M : Mm} (o : cOk X cX12_empty RX12 (d + 1)) (hL : cL X = 3) (hr : (ch X).sig.returnType = some .int) (hz : (cs X).heap.size + 0 = cB X + n) (hk0 : K a0 = 12) (hE : cE X n K L r.2 (some (.int r.1)) 0 0) (hd : 2 ≤ d + 1) (h : f_X12_empty K L fu a0 v1 M = some r) : gW X 0 0 n K L M 0 [(0, va_rf (some a0)), (1, .int v1)] [] := by
  unfold f_X12_empty at h
  refine g_iload_n o dX12_empty_0 1 rfl ?_
  obtain ⟨x1, e2, h⟩ := ob h
  refine g_invS0 o ml_X12_47 kb_X12_isPlace ks_X12_isPlace (c_X12_isPlace (cq X) (cD X) (cY X) (cB X) (d := d) (by omega) e2) rfl rfl (by simp [cat_i, cat_l, cat_rf]) dX12_empty_1 ?_
  refine g_if_ne (tgt := 14) o dX12_empty_4 (by decide) (fun z => ?_) (fun z => ?_)
  · have h := (if_neg z).symm.trans h
    refine g_aload_n o dX12_empty_14 0 rfl ?_
    refine g_iload_n o dX12_empty_15 1 rfl ?_
    refine g_iconst (v := (0 : Int32)) o dX12_empty_16 (by decide) ?_
    obtain ⟨x3, e4, h⟩ := ob h
    refine g_invV0 o (rc_self hk0) (by decide) ml_X12_43 kb_X12_of kv_X12_of rfl (c_X12_of (cq X) (cD X) (cY X) (cB X) (d := d) (by omega) (rc_at (rc_self hk0)).2 e4) rfl rfl (by simp [cat_i, cat_l, cat_rf]) dX12_empty_17 ?_
    refine g_if_le (tgt := 27) o dX12_empty_20 (by decide) (fun z => ?_) (fun z => ?_)
    · have h := (if_pos z).symm.trans h
      refine g_iconst (v := (0 : Int32)) o dX12_empty_27 (by decide) ?_
      exact w_X12_empty_28 o hL hr hz hk0 hE hd h
    · have h := (if_neg z).symm.trans h
      refine g_iconst (v := (1 : Int32)) o dX12_empty_23 (by decide) ?_
      refine g_goto (tgt := 28) o dX12_empty_24 (by decide) ?_
      exact w_X12_empty_28 o hL hr hz hk0 hE hd h
  · have h := (if_pos z).symm.trans h
    refine g_aload_n o dX12_empty_7 0 rfl ?_
    refine g_bipush (v := (-3 : Int32)) o dX12_empty_8 (by decide) ?_
    obtain ⟨x5, e6, h⟩ := ob h
    refine g_invV0 o (rc_self hk0) (by decide) ml_X12_72 kb_X12_no kv_X12_no rfl (c_X12_no (cq X) (cD X) (cY X) (cB X) (d := d) (by omega) (rc_at (rc_self hk0)).2 e6) rfl rfl (by simp [cat_i, cat_l, cat_rf]) dX12_empty_10 ?_
    cases h
    exact g_iret o hr hE dX12_empty_13
theorem c_X12_empty (l : Launch) (D : va_G) (Y : Nat → ClassId) (B : Nat) {d : Nat} {n : Nat} {K L : Nat → Nat} {fu : Nat} {M : Mm} {a0 : Nat} {v1 : Int32} {r : (Int32 × Mm)} (hd : 2 ≤ d) (hk0 : K a0 = 12) (h : f_X12_empty K L fu a0 v1 M = some r) : mC l D Y B d yX12_empty cX12_empty 3 (some .int) [va_rf (some a0), .int v1] n K L M n K L r.2 (some (.int r.1)) 0 0 := by
  obtain ⟨d, rfl⟩ : ∃ e, d = e + 1 := ⟨d - 1, by omega⟩
  refine mk_met (by decide) (by simp [lgs_r, lgs_i, lgs_l, lgs_n]) (fun X e1 e2 e3 e4 o hL hr hnm hz hc hs hE => ?_)
  subst e1 e2 e3 e4
  rw [show lv_args 0 [va_rf (some a0), .int v1] = [(0, va_rf (some a0)), (1, .int v1)] by simp [lva_r, lva_i, lva_l, lva_n]]
  exact w_X12_empty_0 o hL hr hz hk0 hE hd h
def f_X12_holds (K L : Nat → Nat) (a0 : Nat) (v1 : Int32) (M : Mm) : Option (Int32 × Mm) :=
  Option.bind (f_X12_isPlace v1) (fun x1 =>
  if x1 = 0 then
    Option.bind (f_X12_no K L a0 (-3 : Int32) M) (fun x3 =>
    some (x3.1, x3.2))
  else
    Option.bind (f_X12_of K L M a0 v1 (0 : Int32)) (fun x5 =>
    some (x5 - (1 : Int32), M)))
set_option maxHeartbeats 4000000 in
theorem w_X12_holds_0 {X : Cx} {d n : Nat} {K L : Nat → Nat} {a0 : Nat} {r : (Int32 × Mm)} {v1 : Int32} {M : Mm} (o : cOk X cX12_holds RX12 (d + 1)) (hL : cL X = 2) (hr : (ch X).sig.returnType = some .int) (hz : (cs X).heap.size + 0 = cB X + n) (hk0 : K a0 = 12) (hE : cE X n K L r.2 (some (.int r.1)) 0 0) (hd : 1 ≤ d + 1) (h : f_X12_holds K L a0 v1 M = some r) : gW X 0 0 n K L M 0 [(0, va_rf (some a0)), (1, .int v1)] [] := by
  unfold f_X12_holds at h
  refine g_iload_n o dX12_holds_0 1 rfl ?_
  obtain ⟨x1, e2, h⟩ := ob h
  refine g_invS0 o ml_X12_47 kb_X12_isPlace ks_X12_isPlace (c_X12_isPlace (cq X) (cD X) (cY X) (cB X) (d := d) (by omega) e2) rfl rfl (by simp [cat_i, cat_l, cat_rf]) dX12_holds_1 ?_
  refine g_if_eq (tgt := 18) o dX12_holds_4 (by decide) (fun z => ?_) (fun z => ?_)
  · have h := (if_pos z).symm.trans h
    refine g_aload_n o dX12_holds_18 0 rfl ?_
    refine g_bipush (v := (-3 : Int32)) o dX12_holds_19 (by decide) ?_
    obtain ⟨x3, e4, h⟩ := ob h
    refine g_invV0 o (rc_self hk0) (by decide) ml_X12_72 kb_X12_no kv_X12_no rfl (c_X12_no (cq X) (cD X) (cY X) (cB X) (d := d) (by omega) (rc_at (rc_self hk0)).2 e4) rfl rfl (by simp [cat_i, cat_l, cat_rf]) dX12_holds_21 ?_
    cases h
    exact g_iret o hr hE dX12_holds_24
  · have h := (if_neg z).symm.trans h
    refine g_aload_n o dX12_holds_7 0 rfl ?_
    refine g_iload_n o dX12_holds_8 1 rfl ?_
    refine g_iconst (v := (0 : Int32)) o dX12_holds_9 (by decide) ?_
    obtain ⟨x5, e6, h⟩ := ob h
    refine g_invV0 o (rc_self hk0) (by decide) ml_X12_43 kb_X12_of kv_X12_of rfl (c_X12_of (cq X) (cD X) (cY X) (cB X) (d := d) (by omega) (rc_at (rc_self hk0)).2 e6) rfl rfl (by simp [cat_i, cat_l, cat_rf]) dX12_holds_10 ?_
    refine g_iconst (v := (1 : Int32)) o dX12_holds_13 (by decide) ?_
    refine g_isub o dX12_holds_14 ?_
    refine g_goto (tgt := 24) o dX12_holds_15 (by decide) ?_
    cases h
    exact g_iret o hr hE dX12_holds_24
theorem c_X12_holds (l : Launch) (D : va_G) (Y : Nat → ClassId) (B : Nat) {d : Nat} {n : Nat} {K L : Nat → Nat} {M : Mm} {a0 : Nat} {v1 : Int32} {r : (Int32 × Mm)} (hd : 1 ≤ d) (hk0 : K a0 = 12) (h : f_X12_holds K L a0 v1 M = some r) : mC l D Y B d yX12_holds cX12_holds 2 (some .int) [va_rf (some a0), .int v1] n K L M n K L r.2 (some (.int r.1)) 0 0 := by
  obtain ⟨d, rfl⟩ : ∃ e, d = e + 1 := ⟨d - 1, by omega⟩
  refine mk_met (by decide) (by simp [lgs_r, lgs_i, lgs_l, lgs_n]) (fun X e1 e2 e3 e4 o hL hr hnm hz hc hs hE => ?_)
  subst e1 e2 e3 e4
  rw [show lv_args 0 [va_rf (some a0), .int v1] = [(0, va_rf (some a0)), (1, .int v1)] by simp [lva_r, lva_i, lva_l, lva_n]]
  exact w_X12_holds_0 o hL hr hz hk0 hE hd h
def f_X12_read_43 (K L : Nat → Nat) (a0 : Nat) (v1 : Int32) (s0 : Int32) (M : Mm) : Option (Int64 × Mm) :=
  if s0 = 0 then
    Option.bind (rx K L (mm_R M (32 * 12 + 2) a0) 14 v1) (fun a5 =>
    some (mm_B M a5 v1.toNatClampNeg, M))
  else
    Option.bind (f_X12_no K L a0 s0 M) (fun x1 =>
    bn (x1.1) (fun x3 =>
    some ((0 : Int64), x1.2)))
set_option maxHeartbeats 4000000 in
theorem w_X12_read_43 {X : Cx} {d n : Nat} {K L : Nat → Nat} {a0 : Nat} {r : (Int64 × Mm)} {v1 : Int32} {s0 : Int32} {M : Mm} (o : cOk X cX12_read RX12 (d + 1)) (hL : cL X = 4) (hr : (ch X).sig.returnType = some .long) (hz : (cs X).heap.size + 0 = cB X + n) (hk0 : K a0 = 12) (hE : cE X n K L r.2 (some (.long r.1)) 0 0) (hd : 1 ≤ d + 1) (h : f_X12_read_43 K L a0 v1 s0 M = some r) : gW X 0 0 n K L M 43 [(0, va_rf (some a0)), (1, .int v1)] [.int s0] := by
  unfold f_X12_read_43 at h
  refine g_istore_n (i := 2) (ls' := [(2, .int s0), (0, va_rf (some a0)), (1, .int v1)]) o dX12_read_43 rfl (ltL hL (by decide)) rfl ?_
  refine g_iload_n o dX12_read_44 0 rfl ?_
  refine g_if_ne (tgt := 55) o dX12_read_45 (by decide) (fun z => ?_) (fun z => ?_)
  · have h := (if_neg z).symm.trans h
    refine g_aload_n o dX12_read_55 1 rfl ?_
    refine g_iload_n o dX12_read_56 0 rfl ?_
    obtain ⟨x1, e2, h⟩ := ob h
    refine g_invV0 o (rc_self hk0) (by decide) ml_X12_72 kb_X12_no kv_X12_no rfl (c_X12_no (cq X) (cD X) (cY X) (cB X) (d := d) (by omega) (rc_at (rc_self hk0)).2 e2) rfl rfl (by simp [cat_i, cat_l, cat_rf]) dX12_read_57 ?_
    obtain ⟨x3, e4, h⟩ := bn_at h
    refine g_topI e4 ?_
    refine g_istore_n (i := 3) (ls' := [(3, .int x3), (2, .int s0), (0, va_rf (some a0)), (1, .int v1)]) o dX12_read_60 rfl (ltL hL (by decide)) rfl ?_
    refine g_lconst (v := (0 : Int64)) o dX12_read_61 (by decide) ?_
    cases h
    exact g_lret o hr hE dX12_read_62
  · have h := (if_pos z).symm.trans h
    refine g_aload_n o dX12_read_48 1 rfl ?_
    refine g_getR o fl_X12_17 (rc_self hk0) (by decide) rfl dX12_read_49 ?_
    refine g_iload_n o dX12_read_52 2 rfl ?_
    obtain ⟨a5, e6, h⟩ := ob h
    refine g_lald o e6 dX12_read_53 ?_
    cases h
    exact g_lret o hr hE dX12_read_54
def f_X12_read (K L : Nat → Nat) (a0 : Nat) (v1 : Int32) (M : Mm) : Option (Int64 × Mm) :=
  Option.bind (f_X12_isPlace v1) (fun x1 =>
  if x1 = 0 then
    f_X12_read_43 K L a0 v1 (-3 : Int32) M
  else
    Option.bind (f_X12_of K L M a0 v1 (0 : Int32)) (fun x3 =>
    if x3 = 0 then
      f_X12_read_43 K L a0 v1 (-2 : Int32) M
    else
      Option.bind (f_X12_of K L M a0 v1 (0 : Int32)) (fun x5 =>
      if x5 = (6 : Int32) then
        f_X12_read_43 K L a0 v1 (0 : Int32) M
      else
        f_X12_read_43 K L a0 v1 (-5 : Int32) M)))
set_option maxHeartbeats 4000000 in
theorem w_X12_read_0 {X : Cx} {d n : Nat} {K L : Nat → Nat} {a0 : Nat} {r : (Int64 × Mm)} {v1 : Int32} {M : Mm} (o : cOk X cX12_read RX12 (d + 1)) (hL : cL X = 4) (hr : (ch X).sig.returnType = some .long) (hz : (cs X).heap.size + 0 = cB X + n) (hk0 : K a0 = 12) (hE : cE X n K L r.2 (some (.long r.1)) 0 0) (hd : 1 ≤ d + 1) (h : f_X12_read K L a0 v1 M = some r) : gW X 0 0 n K L M 0 [(0, va_rf (some a0)), (1, .int v1)] [] := by
  unfold f_X12_read at h
  refine g_iload_n o dX12_read_0 1 rfl ?_
  obtain ⟨x1, e2, h⟩ := ob h
  refine g_invS0 o ml_X12_47 kb_X12_isPlace ks_X12_isPlace (c_X12_isPlace (cq X) (cD X) (cY X) (cB X) (d := d) (by omega) e2) rfl rfl (by simp [cat_i, cat_l, cat_rf]) dX12_read_1 ?_
  refine g_if_ne (tgt := 12) o dX12_read_4 (by decide) (fun z => ?_) (fun z => ?_)
  · have h := (if_neg z).symm.trans h
    refine g_aload_n o dX12_read_12 0 rfl ?_
    refine g_iload_n o dX12_read_13 1 rfl ?_
    refine g_iconst (v := (0 : Int32)) o dX12_read_14 (by decide) ?_
    obtain ⟨x3, e4, h⟩ := ob h
    refine g_invV0 o (rc_self hk0) (by decide) ml_X12_43 kb_X12_of kv_X12_of rfl (c_X12_of (cq X) (cD X) (cY X) (cB X) (d := d) (by omega) (rc_at (rc_self hk0)).2 e4) rfl rfl (by simp [cat_i, cat_l, cat_rf]) dX12_read_15 ?_
    refine g_if_ne (tgt := 26) o dX12_read_18 (by decide) (fun z => ?_) (fun z => ?_)
    · have h := (if_neg z).symm.trans h
      refine g_aload_n o dX12_read_26 0 rfl ?_
      refine g_iload_n o dX12_read_27 1 rfl ?_
      refine g_iconst (v := (0 : Int32)) o dX12_read_28 (by decide) ?_
      obtain ⟨x5, e6, h⟩ := ob h
      refine g_invV0 o (rc_self hk0) (by decide) ml_X12_43 kb_X12_of kv_X12_of rfl (c_X12_of (cq X) (cD X) (cY X) (cB X) (d := d) (by omega) (rc_at (rc_self hk0)).2 e6) rfl rfl (by simp [cat_i, cat_l, cat_rf]) dX12_read_29 ?_
      refine g_bipush (v := (6 : Int32)) o dX12_read_32 (by decide) ?_
      refine g_icmp_eq (tgt := 42) o dX12_read_34 (by decide) (fun z => ?_) (fun z => ?_)
      · have h := (if_pos z).symm.trans h
        refine g_iconst (v := (0 : Int32)) o dX12_read_42 (by decide) ?_
        exact w_X12_read_43 o hL hr hz hk0 hE hd h
      · have h := (if_neg z).symm.trans h
        refine g_bipush (v := (-5 : Int32)) o dX12_read_37 (by decide) ?_
        refine g_goto (tgt := 43) o dX12_read_39 (by decide) ?_
        exact w_X12_read_43 o hL hr hz hk0 hE hd h
    · have h := (if_pos z).symm.trans h
      refine g_bipush (v := (-2 : Int32)) o dX12_read_21 (by decide) ?_
      refine g_goto (tgt := 43) o dX12_read_23 (by decide) ?_
      exact w_X12_read_43 o hL hr hz hk0 hE hd h
  · have h := (if_pos z).symm.trans h
    refine g_bipush (v := (-3 : Int32)) o dX12_read_7 (by decide) ?_
    refine g_goto (tgt := 43) o dX12_read_9 (by decide) ?_
    exact w_X12_read_43 o hL hr hz hk0 hE hd h
theorem c_X12_read (l : Launch) (D : va_G) (Y : Nat → ClassId) (B : Nat) {d : Nat} {n : Nat} {K L : Nat → Nat} {M : Mm} {a0 : Nat} {v1 : Int32} {r : (Int64 × Mm)} (hd : 1 ≤ d) (hk0 : K a0 = 12) (h : f_X12_read K L a0 v1 M = some r) : mC l D Y B d yX12_read cX12_read 4 (some .long) [va_rf (some a0), .int v1] n K L M n K L r.2 (some (.long r.1)) 0 0 := by
  obtain ⟨d, rfl⟩ : ∃ e, d = e + 1 := ⟨d - 1, by omega⟩
  refine mk_met (by decide) (by simp [lgs_r, lgs_i, lgs_l, lgs_n]) (fun X e1 e2 e3 e4 o hL hr hnm hz hc hs hE => ?_)
  subst e1 e2 e3 e4
  rw [show lv_args 0 [va_rf (some a0), .int v1] = [(0, va_rf (some a0)), (1, .int v1)] by simp [lva_r, lva_i, lva_l, lva_n]]
  exact w_X12_read_0 o hL hr hz hk0 hE hd h
def f_X12_rule_36 (K L : Nat → Nat) (a0 : Nat) (v1 : Int32) (v2 : Int32) (v3 : Int32) (v4 : Int32) (v5 : Int32) (s0 : Int32) (M : Mm) : Option (Int32 × Mm) :=
  if s0 = 0 then
    Option.bind (f_X12_of K L M a0 v1 (3 : Int32)) (fun x1 =>
    if x1 = (6 : Int32) then
      Option.bind (f_X12_no K L a0 (-13 : Int32) M) (fun x15 =>
      some (x15.1, x15.2))
    else
      bn ((4 : Int32) + ((4 : Int32) * x1)) (fun x3 =>
      Option.bind (f_X12_to K L a0 v1 x3 v2 M) (fun x5 =>
      Option.bind (f_X12_to K L a0 v1 (x3 + (1 : Int32)) v3 x5) (fun x7 =>
      Option.bind (f_X12_to K L a0 v1 (x3 + (2 : Int32)) v4 x7) (fun x9 =>
      Option.bind (f_X12_to K L a0 v1 (x3 + (3 : Int32)) v5 x9) (fun x11 =>
      Option.bind (f_X12_to K L a0 v1 (3 : Int32) (x1 + (1 : Int32)) x11) (fun x13 =>
      some (x1 + (1 : Int32), x13))))))))
  else
    Option.bind (f_X12_no K L a0 s0 M) (fun x17 =>
    some (x17.1, x17.2))
set_option maxHeartbeats 4000000 in
theorem w_X12_rule_36 {X : Cx} {d n : Nat} {K L : Nat → Nat} {a0 : Nat} {r : (Int32 × Mm)} {v1 : Int32} {v2 : Int32} {v3 : Int32} {v4 : Int32} {v5 : Int32} {s0 : Int32} {M : Mm} (o : cOk X cX12_rule RX12 (d + 1)) (hL : cL X = 9) (hr : (ch X).sig.returnType = some .int) (hz : (cs X).heap.size + 0 = cB X + n) (hk0 : K a0 = 12) (hE : cE X n K L r.2 (some (.int r.1)) 0 0) (hd : 3 ≤ d + 1) (h : f_X12_rule_36 K L a0 v1 v2 v3 v4 v5 s0 M = some r) : gW X 0 0 n K L M 36 [(0, va_rf (some a0)), (1, .int v1), (2, .int v2), (3, .int v3), (4, .int v4), (5, .int v5)] [.int s0] := by
  unfold f_X12_rule_36 at h
  refine g_istore (i := 6) (ls' := [(6, .int s0), (0, va_rf (some a0)), (1, .int v1), (2, .int v2), (3, .int v3), (4, .int v4), (5, .int v5)]) o dX12_rule_36 (ltL hL (by decide)) rfl ?_
  refine g_iload o dX12_rule_38 0 rfl ?_
  refine g_if_eq (tgt := 50) o dX12_rule_40 (by decide) (fun z => ?_) (fun z => ?_)
  · have h := (if_pos z).symm.trans h
    refine g_aload_n o dX12_rule_50 1 rfl ?_
    refine g_iload_n o dX12_rule_51 2 rfl ?_
    refine g_iconst (v := (3 : Int32)) o dX12_rule_52 (by decide) ?_
    obtain ⟨x1, e2, h⟩ := ob h
    refine g_invV0 o (rc_self hk0) (by decide) ml_X12_43 kb_X12_of kv_X12_of rfl (c_X12_of (cq X) (cD X) (cY X) (cB X) (d := d) (by omega) (rc_at (rc_self hk0)).2 e2) rfl rfl (by simp [cat_i, cat_l, cat_rf]) dX12_rule_53 ?_
    refine g_istore (i := 7) (ls' := [(7, .int x1), (6, .int s0), (0, va_rf (some a0)), (1, .int v1), (2, .int v2), (3, .int v3), (4, .int v4), (5, .int v5)]) o dX12_rule_56 (ltL hL (by decide)) rfl ?_
    refine g_iload o dX12_rule_58 0 rfl ?_
    refine g_bipush (v := (6 : Int32)) o dX12_rule_60 (by decide) ?_
    refine g_icmp_ne (tgt := 72) o dX12_rule_62 (by decide) (fun z => ?_) (fun z => ?_)
    · have h := (if_neg z).symm.trans h
      refine g_iconst (v := (4 : Int32)) o dX12_rule_72 (by decide) ?_
      refine g_iconst (v := (4 : Int32)) o dX12_rule_73 (by decide) ?_
      refine g_iload o dX12_rule_74 0 rfl ?_
      refine g_imul o dX12_rule_76 ?_
      refine g_iadd o dX12_rule_77 ?_
      obtain ⟨x3, e4, h⟩ := bn_at h
      refine g_topI e4 ?_
      refine g_istore (i := 8) (ls' := [(8, .int x3), (7, .int x1), (6, .int s0), (0, va_rf (some a0)), (1, .int v1), (2, .int v2), (3, .int v3), (4, .int v4), (5, .int v5)]) o dX12_rule_78 (ltL hL (by decide)) rfl ?_
      refine g_aload_n o dX12_rule_80 3 rfl ?_
      refine g_iload_n o dX12_rule_81 4 rfl ?_
      refine g_iload o dX12_rule_82 0 rfl ?_
      refine g_iload_n o dX12_rule_84 5 rfl ?_
      obtain ⟨x5, e6, h⟩ := ob h
      refine g_invV0 o (rc_self hk0) (by decide) ml_X12_125 kb_X12_to kv_X12_to rfl (c_X12_to (cq X) (cD X) (cY X) (cB X) (d := d) (by omega) (rc_at (rc_self hk0)).2 e6) rfl rfl (by simp [cat_i, cat_l, cat_rf]) dX12_rule_85 ?_
      refine g_aload_n o dX12_rule_88 3 rfl ?_
      refine g_iload_n o dX12_rule_89 4 rfl ?_
      refine g_iload o dX12_rule_90 0 rfl ?_
      refine g_iconst (v := (1 : Int32)) o dX12_rule_92 (by decide) ?_
      refine g_iadd o dX12_rule_93 ?_
      refine g_iload_n o dX12_rule_94 6 rfl ?_
      obtain ⟨x7, e8, h⟩ := ob h
      refine g_invV0 o (rc_self hk0) (by decide) ml_X12_125 kb_X12_to kv_X12_to rfl (c_X12_to (cq X) (cD X) (cY X) (cB X) (d := d) (by omega) (rc_at (rc_self hk0)).2 e8) rfl rfl (by simp [cat_i, cat_l, cat_rf]) dX12_rule_95 ?_
      refine g_aload_n o dX12_rule_98 3 rfl ?_
      refine g_iload_n o dX12_rule_99 4 rfl ?_
      refine g_iload o dX12_rule_100 0 rfl ?_
      refine g_iconst (v := (2 : Int32)) o dX12_rule_102 (by decide) ?_
      refine g_iadd o dX12_rule_103 ?_
      refine g_iload o dX12_rule_104 7 rfl ?_
      obtain ⟨x9, e10, h⟩ := ob h
      refine g_invV0 o (rc_self hk0) (by decide) ml_X12_125 kb_X12_to kv_X12_to rfl (c_X12_to (cq X) (cD X) (cY X) (cB X) (d := d) (by omega) (rc_at (rc_self hk0)).2 e10) rfl rfl (by simp [cat_i, cat_l, cat_rf]) dX12_rule_106 ?_
      refine g_aload_n o dX12_rule_109 3 rfl ?_
      refine g_iload_n o dX12_rule_110 4 rfl ?_
      refine g_iload o dX12_rule_111 0 rfl ?_
      refine g_iconst (v := (3 : Int32)) o dX12_rule_113 (by decide) ?_
      refine g_iadd o dX12_rule_114 ?_
      refine g_iload o dX12_rule_115 8 rfl ?_
      obtain ⟨x11, e12, h⟩ := ob h
      refine g_invV0 o (rc_self hk0) (by decide) ml_X12_125 kb_X12_to kv_X12_to rfl (c_X12_to (cq X) (cD X) (cY X) (cB X) (d := d) (by omega) (rc_at (rc_self hk0)).2 e12) rfl rfl (by simp [cat_i, cat_l, cat_rf]) dX12_rule_117 ?_
      refine g_aload_n o dX12_rule_120 3 rfl ?_
      refine g_iload_n o dX12_rule_121 4 rfl ?_
      refine g_iconst (v := (3 : Int32)) o dX12_rule_122 (by decide) ?_
      refine g_iload o dX12_rule_123 1 rfl ?_
      refine g_iconst (v := (1 : Int32)) o dX12_rule_125 (by decide) ?_
      refine g_iadd o dX12_rule_126 ?_
      obtain ⟨x13, e14, h⟩ := ob h
      refine g_invV0 o (rc_self hk0) (by decide) ml_X12_125 kb_X12_to kv_X12_to rfl (c_X12_to (cq X) (cD X) (cY X) (cB X) (d := d) (by omega) (rc_at (rc_self hk0)).2 e14) rfl rfl (by simp [cat_i, cat_l, cat_rf]) dX12_rule_127 ?_
      refine g_iload o dX12_rule_130 1 rfl ?_
      refine g_iconst (v := (1 : Int32)) o dX12_rule_132 (by decide) ?_
      refine g_iadd o dX12_rule_133 ?_
      cases h
      exact g_iret o hr hE dX12_rule_134
    · have h := (if_pos z).symm.trans h
      refine g_aload_n o dX12_rule_65 2 rfl ?_
      refine g_bipush (v := (-13 : Int32)) o dX12_rule_66 (by decide) ?_
      obtain ⟨x15, e16, h⟩ := ob h
      refine g_invV0 o (rc_self hk0) (by decide) ml_X12_72 kb_X12_no kv_X12_no rfl (c_X12_no (cq X) (cD X) (cY X) (cB X) (d := d) (by omega) (rc_at (rc_self hk0)).2 e16) rfl rfl (by simp [cat_i, cat_l, cat_rf]) dX12_rule_68 ?_
      cases h
      exact g_iret o hr hE dX12_rule_71
  · have h := (if_neg z).symm.trans h
    refine g_aload_n o dX12_rule_43 1 rfl ?_
    refine g_iload o dX12_rule_44 0 rfl ?_
    obtain ⟨x17, e18, h⟩ := ob h
    refine g_invV0 o (rc_self hk0) (by decide) ml_X12_72 kb_X12_no kv_X12_no rfl (c_X12_no (cq X) (cD X) (cY X) (cB X) (d := d) (by omega) (rc_at (rc_self hk0)).2 e18) rfl rfl (by simp [cat_i, cat_l, cat_rf]) dX12_rule_46 ?_
    cases h
    exact g_iret o hr hE dX12_rule_49
def f_X12_rule_25 (K L : Nat → Nat) (a0 : Nat) (v1 : Int32) (v2 : Int32) (v3 : Int32) (v4 : Int32) (v5 : Int32) (M : Mm) : Option (Int32 × Mm) :=
  f_X12_rule_36 K L a0 v1 v2 v3 v4 v5 (-3 : Int32) M
set_option maxHeartbeats 4000000 in
theorem w_X12_rule_25 {X : Cx} {d n : Nat} {K L : Nat → Nat} {a0 : Nat} {r : (Int32 × Mm)} {v1 : Int32} {v2 : Int32} {v3 : Int32} {v4 : Int32} {v5 : Int32} {M : Mm} (o : cOk X cX12_rule RX12 (d + 1)) (hL : cL X = 9) (hr : (ch X).sig.returnType = some .int) (hz : (cs X).heap.size + 0 = cB X + n) (hk0 : K a0 = 12) (hE : cE X n K L r.2 (some (.int r.1)) 0 0) (hd : 3 ≤ d + 1) (h : f_X12_rule_25 K L a0 v1 v2 v3 v4 v5 M = some r) : gW X 0 0 n K L M 25 [(0, va_rf (some a0)), (1, .int v1), (2, .int v2), (3, .int v3), (4, .int v4), (5, .int v5)] [] := by
  unfold f_X12_rule_25 at h
  refine g_bipush (v := (-3 : Int32)) o dX12_rule_25 (by decide) ?_
  refine g_goto (tgt := 36) o dX12_rule_27 (by decide) ?_
  exact w_X12_rule_36 o hL hr hz hk0 hE hd h
def f_X12_rule (K L : Nat → Nat) (a0 : Nat) (v1 : Int32) (v2 : Int32) (v3 : Int32) (v4 : Int32) (v5 : Int32) (M : Mm) : Option (Int32 × Mm) :=
  Option.bind (f_X12_isIn (v2.toInt64) (0 : Int64) (2 : Int64)) (fun x1 =>
  if x1 = 0 then
    f_X12_rule_25 K L a0 v1 v2 v3 v4 v5 M
  else
    Option.bind (f_X12_isIn (v5.toInt64) (0 : Int64) (7 : Int64)) (fun x3 =>
    if x3 = 0 then
      f_X12_rule_25 K L a0 v1 v2 v3 v4 v5 M
    else
      Option.bind (f_X12_why K L M a0 v1 (0 : Int32)) (fun x5 =>
      f_X12_rule_36 K L a0 v1 v2 v3 v4 v5 x5 M)))
set_option maxHeartbeats 4000000 in
theorem w_X12_rule_0 {X : Cx} {d n : Nat} {K L : Nat → Nat} {a0 : Nat} {r : (Int32 × Mm)} {v1 : Int32} {v2 : Int32} {v3 : Int32} {v4 : Int32} {v5 : Int32} {M : Mm} (o : cOk X cX12_rule RX12 (d + 1)) (hL : cL X = 9) (hr : (ch X).sig.returnType = some .int) (hz : (cs X).heap.size + 0 = cB X + n) (hk0 : K a0 = 12) (hE : cE X n K L r.2 (some (.int r.1)) 0 0) (hd : 3 ≤ d + 1) (h : f_X12_rule K L a0 v1 v2 v3 v4 v5 M = some r) : gW X 0 0 n K L M 0 [(0, va_rf (some a0)), (1, .int v1), (2, .int v2), (3, .int v3), (4, .int v4), (5, .int v5)] [] := by
  unfold f_X12_rule at h
  refine g_iload_n o dX12_rule_0 2 rfl ?_
  refine g_i2l o dX12_rule_1 ?_
  refine g_lconst (v := (0 : Int64)) o dX12_rule_2 (by decide) ?_
  refine g_ldc2 (v := (2 : Int64)) o kc_X12_137 dX12_rule_3 ?_
  obtain ⟨x1, e2, h⟩ := ob h
  refine g_invS0 o ml_X12_62 kb_X12_isIn ks_X12_isIn (c_X12_isIn (cq X) (cD X) (cY X) (cB X) (d := d) (by omega) e2) rfl rfl (by simp [cat_i, cat_l, cat_rf]) dX12_rule_6 ?_
  refine g_if_eq (tgt := 25) o dX12_rule_9 (by decide) (fun z => ?_) (fun z => ?_)
  · have h := (if_pos z).symm.trans h
    exact w_X12_rule_25 o hL hr hz hk0 hE hd h
  · have h := (if_neg z).symm.trans h
    refine g_iload o dX12_rule_12 5 rfl ?_
    refine g_i2l o dX12_rule_14 ?_
    refine g_lconst (v := (0 : Int64)) o dX12_rule_15 (by decide) ?_
    refine g_ldc2 (v := (7 : Int64)) o kc_X12_70 dX12_rule_16 ?_
    obtain ⟨x3, e4, h⟩ := ob h
    refine g_invS0 o ml_X12_62 kb_X12_isIn ks_X12_isIn (c_X12_isIn (cq X) (cD X) (cY X) (cB X) (d := d) (by omega) e4) rfl rfl (by simp [cat_i, cat_l, cat_rf]) dX12_rule_19 ?_
    refine g_if_ne (tgt := 30) o dX12_rule_22 (by decide) (fun z => ?_) (fun z => ?_)
    · have h := (if_neg z).symm.trans h
      refine g_aload_n o dX12_rule_30 0 rfl ?_
      refine g_iload_n o dX12_rule_31 1 rfl ?_
      refine g_iconst (v := (0 : Int32)) o dX12_rule_32 (by decide) ?_
      obtain ⟨x5, e6, h⟩ := ob h
      refine g_invV0 o (rc_self hk0) (by decide) ml_X12_119 kb_X12_why kv_X12_why rfl (c_X12_why (cq X) (cD X) (cY X) (cB X) (d := d) (by omega) (rc_at (rc_self hk0)).2 e6) rfl rfl (by simp [cat_i, cat_l, cat_rf]) dX12_rule_33 ?_
      exact w_X12_rule_36 o hL hr hz hk0 hE hd h
    · have h := (if_pos z).symm.trans h
      exact w_X12_rule_25 o hL hr hz hk0 hE hd h
theorem c_X12_rule (l : Launch) (D : va_G) (Y : Nat → ClassId) (B : Nat) {d : Nat} {n : Nat} {K L : Nat → Nat} {M : Mm} {a0 : Nat} {v1 : Int32} {v2 : Int32} {v3 : Int32} {v4 : Int32} {v5 : Int32} {r : (Int32 × Mm)} (hd : 3 ≤ d) (hk0 : K a0 = 12) (h : f_X12_rule K L a0 v1 v2 v3 v4 v5 M = some r) : mC l D Y B d yX12_rule cX12_rule 9 (some .int) [va_rf (some a0), .int v1, .int v2, .int v3, .int v4, .int v5] n K L M n K L r.2 (some (.int r.1)) 0 0 := by
  obtain ⟨d, rfl⟩ : ∃ e, d = e + 1 := ⟨d - 1, by omega⟩
  refine mk_met (by decide) (by simp [lgs_r, lgs_i, lgs_l, lgs_n]) (fun X e1 e2 e3 e4 o hL hr hnm hz hc hs hE => ?_)
  subst e1 e2 e3 e4
  rw [show lv_args 0 [va_rf (some a0), .int v1, .int v2, .int v3, .int v4, .int v5] = [(0, va_rf (some a0)), (1, .int v1), (2, .int v2), (3, .int v3), (4, .int v4), (5, .int v5)] by simp [lva_r, lva_i, lva_l, lva_n]]
  exact w_X12_rule_0 o hL hr hz hk0 hE hd h
def f_X12_unrule (K L : Nat → Nat) (a0 : Nat) (v1 : Int32) (M : Mm) : Option (Int32 × Mm) :=
  Option.bind (f_X12_why K L M a0 v1 (0 : Int32)) (fun x1 =>
  if x1 = 0 then
    Option.bind (f_X12_of K L M a0 v1 (3 : Int32)) (fun x3 =>
    if x3 = 0 then
      Option.bind (f_X12_no K L a0 (-2 : Int32) M) (fun x11 =>
      some (x11.1, x11.2))
    else
      Option.bind (f_X12_of K L M a0 v1 (3 : Int32)) (fun x5 =>
      Option.bind (f_X12_to K L a0 v1 (3 : Int32) (x5 - (1 : Int32)) M) (fun x7 =>
      Option.bind (f_X12_of K L x7 a0 v1 (3 : Int32)) (fun x9 =>
      some (x9, x7)))))
  else
    Option.bind (f_X12_no K L a0 x1 M) (fun x13 =>
    some (x13.1, x13.2)))
set_option maxHeartbeats 4000000 in
theorem w_X12_unrule_0 {X : Cx} {d n : Nat} {K L : Nat → Nat} {a0 : Nat} {r : (Int32 × Mm)} {v1 : Int32} {M : Mm} (o : cOk X cX12_unrule RX12 (d + 1)) (hL : cL X = 3) (hr : (ch X).sig.returnType = some .int) (hz : (cs X).heap.size + 0 = cB X + n) (hk0 : K a0 = 12) (hE : cE X n K L r.2 (some (.int r.1)) 0 0) (hd : 3 ≤ d + 1) (h : f_X12_unrule K L a0 v1 M = some r) : gW X 0 0 n K L M 0 [(0, va_rf (some a0)), (1, .int v1)] [] := by
  unfold f_X12_unrule at h
  refine g_aload_n o dX12_unrule_0 0 rfl ?_
  refine g_iload_n o dX12_unrule_1 1 rfl ?_
  refine g_iconst (v := (0 : Int32)) o dX12_unrule_2 (by decide) ?_
  obtain ⟨x1, e2, h⟩ := ob h
  refine g_invV0 o (rc_self hk0) (by decide) ml_X12_119 kb_X12_why kv_X12_why rfl (c_X12_why (cq X) (cD X) (cY X) (cB X) (d := d) (by omega) (rc_at (rc_self hk0)).2 e2) rfl rfl (by simp [cat_i, cat_l, cat_rf]) dX12_unrule_3 ?_
  refine g_istore_n (i := 2) (ls' := [(2, .int x1), (0, va_rf (some a0)), (1, .int v1)]) o dX12_unrule_6 rfl (ltL hL (by decide)) rfl ?_
  refine g_iload_n o dX12_unrule_7 0 rfl ?_
  refine g_if_eq (tgt := 17) o dX12_unrule_8 (by decide) (fun z => ?_) (fun z => ?_)
  · have h := (if_pos z).symm.trans h
    refine g_aload_n o dX12_unrule_17 1 rfl ?_
    refine g_iload_n o dX12_unrule_18 2 rfl ?_
    refine g_iconst (v := (3 : Int32)) o dX12_unrule_19 (by decide) ?_
    obtain ⟨x3, e4, h⟩ := ob h
    refine g_invV0 o (rc_self hk0) (by decide) ml_X12_43 kb_X12_of kv_X12_of rfl (c_X12_of (cq X) (cD X) (cY X) (cB X) (d := d) (by omega) (rc_at (rc_self hk0)).2 e4) rfl rfl (by simp [cat_i, cat_l, cat_rf]) dX12_unrule_20 ?_
    refine g_if_ne (tgt := 33) o dX12_unrule_23 (by decide) (fun z => ?_) (fun z => ?_)
    · have h := (if_neg z).symm.trans h
      refine g_aload_n o dX12_unrule_33 1 rfl ?_
      refine g_iload_n o dX12_unrule_34 2 rfl ?_
      refine g_iconst (v := (3 : Int32)) o dX12_unrule_35 (by decide) ?_
      refine g_aload_n o dX12_unrule_36 1 rfl ?_
      refine g_iload_n o dX12_unrule_37 2 rfl ?_
      refine g_iconst (v := (3 : Int32)) o dX12_unrule_38 (by decide) ?_
      obtain ⟨x5, e6, h⟩ := ob h
      refine g_invV0 o (rc_self hk0) (by decide) ml_X12_43 kb_X12_of kv_X12_of rfl (c_X12_of (cq X) (cD X) (cY X) (cB X) (d := d) (by omega) (rc_at (rc_self hk0)).2 e6) rfl rfl (by simp [cat_i, cat_l, cat_rf]) dX12_unrule_39 ?_
      refine g_iconst (v := (1 : Int32)) o dX12_unrule_42 (by decide) ?_
      refine g_isub o dX12_unrule_43 ?_
      obtain ⟨x7, e8, h⟩ := ob h
      refine g_invV0 o (rc_self hk0) (by decide) ml_X12_125 kb_X12_to kv_X12_to rfl (c_X12_to (cq X) (cD X) (cY X) (cB X) (d := d) (by omega) (rc_at (rc_self hk0)).2 e8) rfl rfl (by simp [cat_i, cat_l, cat_rf]) dX12_unrule_44 ?_
      refine g_aload_n o dX12_unrule_47 1 rfl ?_
      refine g_iload_n o dX12_unrule_48 2 rfl ?_
      refine g_iconst (v := (3 : Int32)) o dX12_unrule_49 (by decide) ?_
      obtain ⟨x9, e10, h⟩ := ob h
      refine g_invV0 o (rc_self hk0) (by decide) ml_X12_43 kb_X12_of kv_X12_of rfl (c_X12_of (cq X) (cD X) (cY X) (cB X) (d := d) (by omega) (rc_at (rc_self hk0)).2 e10) rfl rfl (by simp [cat_i, cat_l, cat_rf]) dX12_unrule_50 ?_
      cases h
      exact g_iret o hr hE dX12_unrule_53
    · have h := (if_pos z).symm.trans h
      refine g_aload_n o dX12_unrule_26 1 rfl ?_
      refine g_bipush (v := (-2 : Int32)) o dX12_unrule_27 (by decide) ?_
      obtain ⟨x11, e12, h⟩ := ob h
      refine g_invV0 o (rc_self hk0) (by decide) ml_X12_72 kb_X12_no kv_X12_no rfl (c_X12_no (cq X) (cD X) (cY X) (cB X) (d := d) (by omega) (rc_at (rc_self hk0)).2 e12) rfl rfl (by simp [cat_i, cat_l, cat_rf]) dX12_unrule_29 ?_
      cases h
      exact g_iret o hr hE dX12_unrule_32
  · have h := (if_neg z).symm.trans h
    refine g_aload_n o dX12_unrule_11 1 rfl ?_
    refine g_iload_n o dX12_unrule_12 0 rfl ?_
    obtain ⟨x13, e14, h⟩ := ob h
    refine g_invV0 o (rc_self hk0) (by decide) ml_X12_72 kb_X12_no kv_X12_no rfl (c_X12_no (cq X) (cD X) (cY X) (cB X) (d := d) (by omega) (rc_at (rc_self hk0)).2 e14) rfl rfl (by simp [cat_i, cat_l, cat_rf]) dX12_unrule_13 ?_
    cases h
    exact g_iret o hr hE dX12_unrule_16
theorem c_X12_unrule (l : Launch) (D : va_G) (Y : Nat → ClassId) (B : Nat) {d : Nat} {n : Nat} {K L : Nat → Nat} {M : Mm} {a0 : Nat} {v1 : Int32} {r : (Int32 × Mm)} (hd : 3 ≤ d) (hk0 : K a0 = 12) (h : f_X12_unrule K L a0 v1 M = some r) : mC l D Y B d yX12_unrule cX12_unrule 3 (some .int) [va_rf (some a0), .int v1] n K L M n K L r.2 (some (.int r.1)) 0 0 := by
  obtain ⟨d, rfl⟩ : ∃ e, d = e + 1 := ⟨d - 1, by omega⟩
  refine mk_met (by decide) (by simp [lgs_r, lgs_i, lgs_l, lgs_n]) (fun X e1 e2 e3 e4 o hL hr hnm hz hc hs hE => ?_)
  subst e1 e2 e3 e4
  rw [show lv_args 0 [va_rf (some a0), .int v1] = [(0, va_rf (some a0)), (1, .int v1)] by simp [lva_r, lva_i, lva_l, lva_n]]
  exact w_X12_unrule_0 o hL hr hz hk0 hE hd h
def f_X12_goesOver_3b (K L : Nat → Nat) (fu : Nat) (k3 : Int32 → Int32 → Int32 → Int32 → Int32 → Option Int32) (M : Mm) (a0 : Nat) (v1 : Int32) (v2 : Int32) (v3 : Int32) (v4 : Int32) (v5 : Int32) : Option Int32 :=
  if (8 : Int32) ≤ v5 then
    some (0 : Int32)
  else
    Option.bind (f_X12_of K L M a0 v1 ((28 : Int32) + v5)) (fun x1 =>
    if v5 = v2 then
      k3 v1 v2 v3 v4 (v5 + 1)
    else
      if v4 ≤ 0 then
        k3 v1 v2 v3 v4 (v5 + 1)
      else
        Option.bind (f_X12_of K L M a0 v1 ((36 : Int32) + v5)) (fun x3 =>
        if x3 ≤ 0 then
          k3 v1 v2 v3 v4 (v5 + 1)
        else
          Option.bind (f_X12_of K L M a0 v1 ((36 : Int32) + v5)) (fun x5 =>
          if (x1 + x5) ≤ v3 then
            k3 v1 v2 v3 v4 (v5 + 1)
          else
            if (v3 + v4) ≤ x1 then
              k3 v1 v2 v3 v4 (v5 + 1)
            else
              some (1 : Int32))))
def f_X12_goesOver_3 (K L : Nat → Nat) (fu : Nat) (M : Mm) (a0 : Nat) : Nat → Int32 → Int32 → Int32 → Int32 → Int32 → Option Int32
  | 0, _, _, _, _, _ => none
  | g + 1, v1, v2, v3, v4, v5 => f_X12_goesOver_3b K L fu (f_X12_goesOver_3 K L fu M a0 g) M a0 v1 v2 v3 v4 v5
set_option maxHeartbeats 4000000 in
theorem w_X12_goesOver_3b {X : Cx} {d n : Nat} {K L : Nat → Nat} {fu : Nat} {M : Mm} {a0 : Nat} {r : Int32} {k3 : Int32 → Int32 → Int32 → Int32 → Int32 → Option Int32} {v1 : Int32} {v2 : Int32} {v3 : Int32} {v4 : Int32} {v5 : Int32} (o : cOk X cX12_goesOver RX12 (d + 1)) (hL : cL X = 7) (hr : (ch X).sig.returnType = some .boolean) (hk0 : K a0 = 12) (hE : cE X n K L M (some (.int r)) 0 0) (hk3 : ∀ (v1 : Int32) (v2 : Int32) (v3 : Int32) (v4 : Int32) (v5 : Int32), k3 v1 v2 v3 v4 v5 = some r → gW X 0 0 n K L M 3 [(0, va_rf (some a0)), (1, .int v1), (2, .int v2), (3, .int v3), (4, .int v4), (5, .int v5)] []) (hd : 1 ≤ d + 1) (h : f_X12_goesOver_3b K L fu k3 M a0 v1 v2 v3 v4 v5 = some r) : gW X 0 0 n K L M 3 [(0, va_rf (some a0)), (1, .int v1), (2, .int v2), (3, .int v3), (4, .int v4), (5, .int v5)] [] := by
  unfold f_X12_goesOver_3b at h
  refine g_iload o dX12_goesOver_3 5 rfl ?_
  refine g_bipush (v := (8 : Int32)) o dX12_goesOver_5 (by decide) ?_
  refine g_icmp_ge (tgt := 80) o dX12_goesOver_7 (by decide) (fun z => ?_) (fun z => ?_)
  · have h := (if_pos z).symm.trans h
    refine g_iconst (v := (0 : Int32)) o dX12_goesOver_80 (by decide) ?_
    cases h
    exact g_zret o hr (by decide) hE dX12_goesOver_81
  · have h := (if_neg z).symm.trans h
    refine g_aload_n o dX12_goesOver_10 0 rfl ?_
    refine g_iload_n o dX12_goesOver_11 1 rfl ?_
    refine g_bipush (v := (28 : Int32)) o dX12_goesOver_12 (by decide) ?_
    refine g_iload o dX12_goesOver_14 5 rfl ?_
    refine g_iadd o dX12_goesOver_16 ?_
    obtain ⟨x1, e2, h⟩ := ob h
    refine g_invV0 o (rc_self hk0) (by decide) ml_X12_43 kb_X12_of kv_X12_of rfl (c_X12_of (cq X) (cD X) (cY X) (cB X) (d := d) (by omega) (rc_at (rc_self hk0)).2 e2) rfl rfl (by simp [cat_i, cat_l, cat_rf]) dX12_goesOver_17 ?_
    refine g_istore (i := 6) (ls' := [(6, .int x1), (0, va_rf (some a0)), (1, .int v1), (2, .int v2), (3, .int v3), (4, .int v4), (5, .int v5)]) o dX12_goesOver_20 (ltL hL (by decide)) rfl ?_
    refine g_iload o dX12_goesOver_22 6 rfl ?_
    refine g_iload_n o dX12_goesOver_24 3 rfl ?_
    refine g_icmp_eq (tgt := 74) o dX12_goesOver_25 (by decide) (fun z => ?_) (fun z => ?_)
    · have h := (if_pos z).symm.trans h
      refine g_iinc (i := 5) (v := v5 + 1) (ls' := [(5, .int (v5 + 1)), (6, .int x1), (0, va_rf (some a0)), (1, .int v1), (2, .int v2), (3, .int v3), (4, .int v4)]) o dX12_goesOver_74 6 rfl (by first | rfl | (congr 1)) (ltL hL (by decide)) rfl ?_
      refine g_goto (tgt := 3) o dX12_goesOver_77 (by decide) ?_
      refine gsub [2, 3, 4, 5, 6, 0] rfl ?_
      exact hk3 _ _ _ _ _ h
    · have h := (if_neg z).symm.trans h
      refine g_iload o dX12_goesOver_28 5 rfl ?_
      refine g_if_le (tgt := 74) o dX12_goesOver_30 (by decide) (fun z => ?_) (fun z => ?_)
      · have h := (if_pos z).symm.trans h
        refine g_iinc (i := 5) (v := v5 + 1) (ls' := [(5, .int (v5 + 1)), (6, .int x1), (0, va_rf (some a0)), (1, .int v1), (2, .int v2), (3, .int v3), (4, .int v4)]) o dX12_goesOver_74 6 rfl (by first | rfl | (congr 1)) (ltL hL (by decide)) rfl ?_
        refine g_goto (tgt := 3) o dX12_goesOver_77 (by decide) ?_
        refine gsub [2, 3, 4, 5, 6, 0] rfl ?_
        exact hk3 _ _ _ _ _ h
      · have h := (if_neg z).symm.trans h
        refine g_aload_n o dX12_goesOver_33 1 rfl ?_
        refine g_iload_n o dX12_goesOver_34 2 rfl ?_
        refine g_bipush (v := (36 : Int32)) o dX12_goesOver_35 (by decide) ?_
        refine g_iload o dX12_goesOver_37 6 rfl ?_
        refine g_iadd o dX12_goesOver_39 ?_
        obtain ⟨x3, e4, h⟩ := ob h
        refine g_invV0 o (rc_self hk0) (by decide) ml_X12_43 kb_X12_of kv_X12_of rfl (c_X12_of (cq X) (cD X) (cY X) (cB X) (d := d) (by omega) (rc_at (rc_self hk0)).2 e4) rfl rfl (by simp [cat_i, cat_l, cat_rf]) dX12_goesOver_40 ?_
        refine g_if_le (tgt := 74) o dX12_goesOver_43 (by decide) (fun z => ?_) (fun z => ?_)
        · have h := (if_pos z).symm.trans h
          refine g_iinc (i := 5) (v := v5 + 1) (ls' := [(5, .int (v5 + 1)), (6, .int x1), (0, va_rf (some a0)), (1, .int v1), (2, .int v2), (3, .int v3), (4, .int v4)]) o dX12_goesOver_74 6 rfl (by first | rfl | (congr 1)) (ltL hL (by decide)) rfl ?_
          refine g_goto (tgt := 3) o dX12_goesOver_77 (by decide) ?_
          refine gsub [2, 3, 4, 5, 6, 0] rfl ?_
          exact hk3 _ _ _ _ _ h
        · have h := (if_neg z).symm.trans h
          refine g_iload_n o dX12_goesOver_46 4 rfl ?_
          refine g_iload o dX12_goesOver_47 0 rfl ?_
          refine g_aload_n o dX12_goesOver_49 1 rfl ?_
          refine g_iload_n o dX12_goesOver_50 2 rfl ?_
          refine g_bipush (v := (36 : Int32)) o dX12_goesOver_51 (by decide) ?_
          refine g_iload o dX12_goesOver_53 6 rfl ?_
          refine g_iadd o dX12_goesOver_55 ?_
          obtain ⟨x5, e6, h⟩ := ob h
          refine g_invV0 o (rc_self hk0) (by decide) ml_X12_43 kb_X12_of kv_X12_of rfl (c_X12_of (cq X) (cD X) (cY X) (cB X) (d := d) (by omega) (rc_at (rc_self hk0)).2 e6) rfl rfl (by simp [cat_i, cat_l, cat_rf]) dX12_goesOver_56 ?_
          refine g_iadd o dX12_goesOver_59 ?_
          refine g_icmp_ge (tgt := 74) o dX12_goesOver_60 (by decide) (fun z => ?_) (fun z => ?_)
          · have h := (if_pos z).symm.trans h
            refine g_iinc (i := 5) (v := v5 + 1) (ls' := [(5, .int (v5 + 1)), (6, .int x1), (0, va_rf (some a0)), (1, .int v1), (2, .int v2), (3, .int v3), (4, .int v4)]) o dX12_goesOver_74 6 rfl (by first | rfl | (congr 1)) (ltL hL (by decide)) rfl ?_
            refine g_goto (tgt := 3) o dX12_goesOver_77 (by decide) ?_
            refine gsub [2, 3, 4, 5, 6, 0] rfl ?_
            exact hk3 _ _ _ _ _ h
          · have h := (if_neg z).symm.trans h
            refine g_iload o dX12_goesOver_63 0 rfl ?_
            refine g_iload_n o dX12_goesOver_65 4 rfl ?_
            refine g_iload o dX12_goesOver_66 5 rfl ?_
            refine g_iadd o dX12_goesOver_68 ?_
            refine g_icmp_ge (tgt := 74) o dX12_goesOver_69 (by decide) (fun z => ?_) (fun z => ?_)
            · have h := (if_pos z).symm.trans h
              refine g_iinc (i := 5) (v := v5 + 1) (ls' := [(5, .int (v5 + 1)), (6, .int x1), (0, va_rf (some a0)), (1, .int v1), (2, .int v2), (3, .int v3), (4, .int v4)]) o dX12_goesOver_74 6 rfl (by first | rfl | (congr 1)) (ltL hL (by decide)) rfl ?_
              refine g_goto (tgt := 3) o dX12_goesOver_77 (by decide) ?_
              refine gsub [2, 3, 4, 5, 6, 0] rfl ?_
              exact hk3 _ _ _ _ _ h
            · have h := (if_neg z).symm.trans h
              refine g_iconst (v := (1 : Int32)) o dX12_goesOver_72 (by decide) ?_
              cases h
              exact g_zret o hr (by decide) hE dX12_goesOver_73
theorem w_X12_goesOver_3_n {X : Cx} {d n : Nat} {K L : Nat → Nat} {fu : Nat} {M : Mm} {a0 : Nat} {r : Int32} (o : cOk X cX12_goesOver RX12 (d + 1)) (hL : cL X = 7) (hr : (ch X).sig.returnType = some .boolean) (hk0 : K a0 = 12) (hE : cE X n K L M (some (.int r)) 0 0) (hd : 1 ≤ d + 1) : ∀ (g : Nat) (v1 : Int32) (v2 : Int32) (v3 : Int32) (v4 : Int32) (v5 : Int32), f_X12_goesOver_3 K L fu M a0 g v1 v2 v3 v4 v5 = some r → gW X 0 0 n K L M 3 [(0, va_rf (some a0)), (1, .int v1), (2, .int v2), (3, .int v3), (4, .int v4), (5, .int v5)] []
  | 0, _, _, _, _, _, h => by cases h
  | g + 1, v1, v2, v3, v4, v5, h => w_X12_goesOver_3b o hL hr hk0 hE (w_X12_goesOver_3_n o hL hr hk0 hE hd g) hd h
theorem w_X12_goesOver_3 {X : Cx} {d n : Nat} {K L : Nat → Nat} {fu : Nat} {M : Mm} {a0 : Nat} {r : Int32} {v1 : Int32} {v2 : Int32} {v3 : Int32} {v4 : Int32} {v5 : Int32} (o : cOk X cX12_goesOver RX12 (d + 1)) (hL : cL X = 7) (hr : (ch X).sig.returnType = some .boolean) (hk0 : K a0 = 12) (hE : cE X n K L M (some (.int r)) 0 0) (hd : 1 ≤ d + 1) (h : f_X12_goesOver_3 K L fu M a0 fu v1 v2 v3 v4 v5 = some r) : gW X 0 0 n K L M 3 [(0, va_rf (some a0)), (1, .int v1), (2, .int v2), (3, .int v3), (4, .int v4), (5, .int v5)] [] := w_X12_goesOver_3_n o hL hr hk0 hE hd fu v1 v2 v3 v4 v5 h
def f_X12_goesOver (K L : Nat → Nat) (fu : Nat) (M : Mm) (a0 : Nat) (v1 : Int32) (v2 : Int32) (v3 : Int32) (v4 : Int32) : Option Int32 :=
  f_X12_goesOver_3 K L fu M a0 fu v1 v2 v3 v4 (1 : Int32)
set_option maxHeartbeats 4000000 in
theorem w_X12_goesOver_0 {X : Cx} {d n : Nat} {K L : Nat → Nat} {fu : Nat} {M : Mm} {a0 : Nat} {r : Int32} {v1 : Int32} {v2 : Int32} {v3 : Int32} {v4 : Int32} (o : cOk X cX12_goesOver RX12 (d + 1)) (hL : cL X = 7) (hr : (ch X).sig.returnType = some .boolean) (hk0 : K a0 = 12) (hE : cE X n K L M (some (.int r)) 0 0) (hd : 1 ≤ d + 1) (h : f_X12_goesOver K L fu M a0 v1 v2 v3 v4 = some r) : gW X 0 0 n K L M 0 [(0, va_rf (some a0)), (1, .int v1), (2, .int v2), (3, .int v3), (4, .int v4)] [] := by
  unfold f_X12_goesOver at h
  refine g_iconst (v := (1 : Int32)) o dX12_goesOver_0 (by decide) ?_
  refine g_istore (i := 5) (ls' := [(5, .int (1 : Int32)), (0, va_rf (some a0)), (1, .int v1), (2, .int v2), (3, .int v3), (4, .int v4)]) o dX12_goesOver_1 (ltL hL (by decide)) rfl ?_
  refine gsub [1, 2, 3, 4, 5, 0] rfl ?_
  exact w_X12_goesOver_3 o hL hr hk0 hE hd h
theorem c_X12_goesOver (l : Launch) (D : va_G) (Y : Nat → ClassId) (B : Nat) {d : Nat} {n : Nat} {K L : Nat → Nat} {fu : Nat} {M : Mm} {a0 : Nat} {v1 : Int32} {v2 : Int32} {v3 : Int32} {v4 : Int32} {r : Int32} (hd : 1 ≤ d) (hk0 : K a0 = 12) (h : f_X12_goesOver K L fu M a0 v1 v2 v3 v4 = some r) : mC l D Y B d yX12_goesOver cX12_goesOver 7 (some .boolean) [va_rf (some a0), .int v1, .int v2, .int v3, .int v4] n K L M n K L M (some (.int r)) 0 0 := by
  obtain ⟨d, rfl⟩ : ∃ e, d = e + 1 := ⟨d - 1, by omega⟩
  refine mk_met (by decide) (by simp [lgs_r, lgs_i, lgs_l, lgs_n]) (fun X e1 e2 e3 e4 o hL hr hnm hz hc hs hE => ?_)
  subst e1 e2 e3 e4
  rw [show lv_args 0 [va_rf (some a0), .int v1, .int v2, .int v3, .int v4] = [(0, va_rf (some a0)), (1, .int v1), (2, .int v2), (3, .int v3), (4, .int v4)] by simp [lva_r, lva_i, lva_l, lva_n]]
  exact w_X12_goesOver_0 o hL hr hk0 hE hd h
def f_X12_share_108 (K L : Nat → Nat) (fu : Nat) (a0 : Nat) (v1 : Int32) (v2 : Int32) (v3 : Int32) (v4 : Int32) (M : Mm) : Option (Int32 × Mm) :=
  Option.bind (f_X12_of K L M a0 v1 ((36 : Int32) + v2)) (fun x1 =>
  Option.bind (f_X12_to K L a0 v1 ((28 : Int32) + v2) v3 M) (fun x3 =>
  Option.bind (f_X12_to K L a0 v1 ((36 : Int32) + v2) v4 x3) (fun x5 =>
  some (x1, x5))))
set_option maxHeartbeats 4000000 in
theorem w_X12_share_108 {X : Cx} {d n : Nat} {K L : Nat → Nat} {fu : Nat} {a0 : Nat} {r : (Int32 × Mm)} {v1 : Int32} {v2 : Int32} {v3 : Int32} {v4 : Int32} {M : Mm} (o : cOk X cX12_share RX12 (d + 1)) (hL : cL X = 7) (hr : (ch X).sig.returnType = some .int) (hz : (cs X).heap.size + 0 = cB X + n) (hk0 : K a0 = 12) (hE : cE X n K L r.2 (some (.int r.1)) 0 0) (hd : 3 ≤ d + 1) (h : f_X12_share_108 K L fu a0 v1 v2 v3 v4 M = some r) : gW X 0 0 n K L M 108 [(0, va_rf (some a0)), (1, .int v1), (2, .int v2), (3, .int v3), (4, .int v4)] [] := by
  unfold f_X12_share_108 at h
  refine g_aload_n o dX12_share_108 0 rfl ?_
  refine g_iload_n o dX12_share_109 1 rfl ?_
  refine g_bipush (v := (36 : Int32)) o dX12_share_110 (by decide) ?_
  refine g_iload_n o dX12_share_112 2 rfl ?_
  refine g_iadd o dX12_share_113 ?_
  obtain ⟨x1, e2, h⟩ := ob h
  refine g_invV0 o (rc_self hk0) (by decide) ml_X12_43 kb_X12_of kv_X12_of rfl (c_X12_of (cq X) (cD X) (cY X) (cB X) (d := d) (by omega) (rc_at (rc_self hk0)).2 e2) rfl rfl (by simp [cat_i, cat_l, cat_rf]) dX12_share_114 ?_
  refine g_istore (i := 6) (ls' := [(6, .int x1), (0, va_rf (some a0)), (1, .int v1), (2, .int v2), (3, .int v3), (4, .int v4)]) o dX12_share_117 (ltL hL (by decide)) rfl ?_
  refine g_aload_n o dX12_share_119 1 rfl ?_
  refine g_iload_n o dX12_share_120 2 rfl ?_
  refine g_bipush (v := (28 : Int32)) o dX12_share_121 (by decide) ?_
  refine g_iload_n o dX12_share_123 3 rfl ?_
  refine g_iadd o dX12_share_124 ?_
  refine g_iload_n o dX12_share_125 4 rfl ?_
  obtain ⟨x3, e4, h⟩ := ob h
  refine g_invV0 o (rc_self hk0) (by decide) ml_X12_125 kb_X12_to kv_X12_to rfl (c_X12_to (cq X) (cD X) (cY X) (cB X) (d := d) (by omega) (rc_at (rc_self hk0)).2 e4) rfl rfl (by simp [cat_i, cat_l, cat_rf]) dX12_share_126 ?_
  refine g_aload_n o dX12_share_129 1 rfl ?_
  refine g_iload_n o dX12_share_130 2 rfl ?_
  refine g_bipush (v := (36 : Int32)) o dX12_share_131 (by decide) ?_
  refine g_iload_n o dX12_share_133 3 rfl ?_
  refine g_iadd o dX12_share_134 ?_
  refine g_iload o dX12_share_135 5 rfl ?_
  obtain ⟨x5, e6, h⟩ := ob h
  refine g_invV0 o (rc_self hk0) (by decide) ml_X12_125 kb_X12_to kv_X12_to rfl (c_X12_to (cq X) (cD X) (cY X) (cB X) (d := d) (by omega) (rc_at (rc_self hk0)).2 e6) rfl rfl (by simp [cat_i, cat_l, cat_rf]) dX12_share_137 ?_
  refine g_iload o dX12_share_140 0 rfl ?_
  cases h
  exact g_iret o hr hE dX12_share_142
def f_X12_share_101 (K L : Nat → Nat) (fu : Nat) (a0 : Nat) (M : Mm) : Option (Int32 × Mm) :=
  Option.bind (f_X12_no K L a0 (-12 : Int32) M) (fun x1 =>
  some (x1.1, x1.2))
set_option maxHeartbeats 4000000 in
theorem w_X12_share_101 {X : Cx} {d n : Nat} {K L : Nat → Nat} {fu : Nat} {a0 : Nat} {r : (Int32 × Mm)} {M : Mm} (o : cOk X cX12_share RX12 (d + 1)) (hL : cL X = 7) (hr : (ch X).sig.returnType = some .int) (hz : (cs X).heap.size + 0 = cB X + n) (hk0 : K a0 = 12) (hE : cE X n K L r.2 (some (.int r.1)) 0 0) (hd : 3 ≤ d + 1) (h : f_X12_share_101 K L fu a0  M = some r) : gW X 0 0 n K L M 101 [(0, va_rf (some a0))] [] := by
  unfold f_X12_share_101 at h
  refine g_aload_n o dX12_share_101 0 rfl ?_
  refine g_bipush (v := (-12 : Int32)) o dX12_share_102 (by decide) ?_
  obtain ⟨x1, e2, h⟩ := ob h
  refine g_invV0 o (rc_self hk0) (by decide) ml_X12_72 kb_X12_no kv_X12_no rfl (c_X12_no (cq X) (cD X) (cY X) (cB X) (d := d) (by omega) (rc_at (rc_self hk0)).2 e2) rfl rfl (by simp [cat_i, cat_l, cat_rf]) dX12_share_104 ?_
  cases h
  exact g_iret o hr hE dX12_share_107
def f_X12_share_23 (K L : Nat → Nat) (fu : Nat) (a0 : Nat) (v1 : Int32) (v2 : Int32) (v3 : Int32) (v4 : Int32) (s0 : Int32) (M : Mm) : Option (Int32 × Mm) :=
  if s0 = 0 then
    if 0 ≤ v4 then
      Option.bind (f_X12_isIn (v3.toInt64) (0 : Int64) (9999 : Int64)) (fun x1 =>
      if x1 = 0 then
        f_X12_share_101 K L fu a0 M
      else
        if 0 < (lg_cmp ((v3.toInt64) + (v4.toInt64)) (10000 : Int64)) then
          f_X12_share_101 K L fu a0 M
        else
          Option.bind (f_X12_goesOver K L fu M a0 v1 v2 v3 v4) (fun x3 =>
          if x3 = 0 then
            if v2 = (1 : Int32) then
              Option.bind (f_X12_of K L M a0 v1 (69 : Int32)) (fun x5 =>
              if x5 < 0 then
                f_X12_share_108 K L fu a0 v1 v2 v3 v4 M
              else
                f_X12_share_101 K L fu a0 M)
            else
              f_X12_share_108 K L fu a0 v1 v2 v3 v4 M
          else
            f_X12_share_101 K L fu a0 M))
    else
      Option.bind (f_X12_no K L a0 (-4 : Int32) M) (fun x7 =>
      some (x7.1, x7.2))
  else
    Option.bind (f_X12_no K L a0 s0 M) (fun x9 =>
    some (x9.1, x9.2))
set_option maxHeartbeats 4000000 in
theorem w_X12_share_23 {X : Cx} {d n : Nat} {K L : Nat → Nat} {fu : Nat} {a0 : Nat} {r : (Int32 × Mm)} {v1 : Int32} {v2 : Int32} {v3 : Int32} {v4 : Int32} {s0 : Int32} {M : Mm} (o : cOk X cX12_share RX12 (d + 1)) (hL : cL X = 7) (hr : (ch X).sig.returnType = some .int) (hz : (cs X).heap.size + 0 = cB X + n) (hk0 : K a0 = 12) (hE : cE X n K L r.2 (some (.int r.1)) 0 0) (hd : 3 ≤ d + 1) (h : f_X12_share_23 K L fu a0 v1 v2 v3 v4 s0 M = some r) : gW X 0 0 n K L M 23 [(0, va_rf (some a0)), (1, .int v1), (2, .int v2), (3, .int v3), (4, .int v4)] [.int s0] := by
  unfold f_X12_share_23 at h
  refine g_istore (i := 5) (ls' := [(5, .int s0), (0, va_rf (some a0)), (1, .int v1), (2, .int v2), (3, .int v3), (4, .int v4)]) o dX12_share_23 (ltL hL (by decide)) rfl ?_
  refine g_iload o dX12_share_25 0 rfl ?_
  refine g_if_eq (tgt := 37) o dX12_share_27 (by decide) (fun z => ?_) (fun z => ?_)
  · have h := (if_pos z).symm.trans h
    refine g_iload o dX12_share_37 5 rfl ?_
    refine g_if_ge (tgt := 49) o dX12_share_39 (by decide) (fun z => ?_) (fun z => ?_)
    · have h := (if_pos z).symm.trans h
      refine g_iload_n o dX12_share_49 4 rfl ?_
      refine g_i2l o dX12_share_50 ?_
      refine g_lconst (v := (0 : Int64)) o dX12_share_51 (by decide) ?_
      refine g_ldc2 (v := (9999 : Int64)) o kc_X12_131 dX12_share_52 ?_
      obtain ⟨x1, e2, h⟩ := ob h
      refine g_invS0 o ml_X12_62 kb_X12_isIn ks_X12_isIn (c_X12_isIn (cq X) (cD X) (cY X) (cB X) (d := d) (by omega) e2) rfl rfl (by simp [cat_i, cat_l, cat_rf]) dX12_share_55 ?_
      refine g_if_eq (tgt := 101) o dX12_share_58 (by decide) (fun z => ?_) (fun z => ?_)
      · have h := (if_pos z).symm.trans h
        refine gsub [1] rfl ?_
        exact w_X12_share_101 o hL hr hz hk0 hE hd h
      · have h := (if_neg z).symm.trans h
        refine g_iload_n o dX12_share_61 4 rfl ?_
        refine g_i2l o dX12_share_62 ?_
        refine g_iload o dX12_share_63 5 rfl ?_
        refine g_i2l o dX12_share_65 ?_
        refine g_ladd o dX12_share_66 ?_
        refine g_ldc2 (v := (10000 : Int64)) o kc_X12_89 dX12_share_67 ?_
        refine g_lcmp o dX12_share_70 ?_
        refine g_if_gt (tgt := 101) o dX12_share_71 (by decide) (fun z => ?_) (fun z => ?_)
        · have h := (if_pos z).symm.trans h
          refine gsub [1] rfl ?_
          exact w_X12_share_101 o hL hr hz hk0 hE hd h
        · have h := (if_neg z).symm.trans h
          refine g_aload_n o dX12_share_74 1 rfl ?_
          refine g_iload_n o dX12_share_75 2 rfl ?_
          refine g_iload_n o dX12_share_76 3 rfl ?_
          refine g_iload_n o dX12_share_77 4 rfl ?_
          refine g_iload o dX12_share_78 5 rfl ?_
          obtain ⟨x3, e4, h⟩ := ob h
          refine g_invV0 o (rc_self hk0) (by decide) ml_X12_139 kb_X12_goesOver kv_X12_goesOver rfl (c_X12_goesOver (cq X) (cD X) (cY X) (cB X) (d := d) (by omega) (rc_at (rc_self hk0)).2 e4) rfl rfl (by simp [cat_i, cat_l, cat_rf]) dX12_share_80 ?_
          refine g_if_ne (tgt := 101) o dX12_share_83 (by decide) (fun z => ?_) (fun z => ?_)
          · have h := (if_neg z).symm.trans h
            refine gsub [1] rfl ?_
            exact w_X12_share_101 o hL hr hz hk0 hE hd h
          · have h := (if_pos z).symm.trans h
            refine g_iload_n o dX12_share_86 3 rfl ?_
            refine g_iconst (v := (1 : Int32)) o dX12_share_87 (by decide) ?_
            refine g_icmp_ne (tgt := 108) o dX12_share_88 (by decide) (fun z => ?_) (fun z => ?_)
            · have h := (if_neg z).symm.trans h
              refine gsub [1, 2, 3, 4, 5] rfl ?_
              exact w_X12_share_108 o hL hr hz hk0 hE hd h
            · have h := (if_pos z).symm.trans h
              refine g_aload_n o dX12_share_91 1 rfl ?_
              refine g_iload_n o dX12_share_92 2 rfl ?_
              refine g_bipush (v := (69 : Int32)) o dX12_share_93 (by decide) ?_
              obtain ⟨x5, e6, h⟩ := ob h
              refine g_invV0 o (rc_self hk0) (by decide) ml_X12_43 kb_X12_of kv_X12_of rfl (c_X12_of (cq X) (cD X) (cY X) (cB X) (d := d) (by omega) (rc_at (rc_self hk0)).2 e6) rfl rfl (by simp [cat_i, cat_l, cat_rf]) dX12_share_95 ?_
              refine g_if_lt (tgt := 108) o dX12_share_98 (by decide) (fun z => ?_) (fun z => ?_)
              · have h := (if_pos z).symm.trans h
                refine gsub [1, 2, 3, 4, 5] rfl ?_
                exact w_X12_share_108 o hL hr hz hk0 hE hd h
              · have h := (if_neg z).symm.trans h
                refine gsub [1] rfl ?_
                exact w_X12_share_101 o hL hr hz hk0 hE hd h
    · have h := (if_neg z).symm.trans h
      refine g_aload_n o dX12_share_42 1 rfl ?_
      refine g_bipush (v := (-4 : Int32)) o dX12_share_43 (by decide) ?_
      obtain ⟨x7, e8, h⟩ := ob h
      refine g_invV0 o (rc_self hk0) (by decide) ml_X12_72 kb_X12_no kv_X12_no rfl (c_X12_no (cq X) (cD X) (cY X) (cB X) (d := d) (by omega) (rc_at (rc_self hk0)).2 e8) rfl rfl (by simp [cat_i, cat_l, cat_rf]) dX12_share_45 ?_
      cases h
      exact g_iret o hr hE dX12_share_48
  · have h := (if_neg z).symm.trans h
    refine g_aload_n o dX12_share_30 1 rfl ?_
    refine g_iload o dX12_share_31 0 rfl ?_
    obtain ⟨x9, e10, h⟩ := ob h
    refine g_invV0 o (rc_self hk0) (by decide) ml_X12_72 kb_X12_no kv_X12_no rfl (c_X12_no (cq X) (cD X) (cY X) (cB X) (d := d) (by omega) (rc_at (rc_self hk0)).2 e10) rfl rfl (by simp [cat_i, cat_l, cat_rf]) dX12_share_33 ?_
    cases h
    exact g_iret o hr hE dX12_share_36
def f_X12_share (K L : Nat → Nat) (fu : Nat) (a0 : Nat) (v1 : Int32) (v2 : Int32) (v3 : Int32) (v4 : Int32) (M : Mm) : Option (Int32 × Mm) :=
  Option.bind (f_X12_isIn (v2.toInt64) (1 : Int64) (7 : Int64)) (fun x1 =>
  if x1 = 0 then
    f_X12_share_23 K L fu a0 v1 v2 v3 v4 (-3 : Int32) M
  else
    Option.bind (f_X12_why K L M a0 v1 (0 : Int32)) (fun x3 =>
    f_X12_share_23 K L fu a0 v1 v2 v3 v4 x3 M))
set_option maxHeartbeats 4000000 in
theorem w_X12_share_0 {X : Cx} {d n : Nat} {K L : Nat → Nat} {fu : Nat} {a0 : Nat} {r : (Int32 × Mm)} {v1 : Int32} {v2 : Int32} {v3 : Int32} {v4 : Int32} {M : Mm} (o : cOk X cX12_share RX12 (d + 1)) (hL : cL X = 7) (hr : (ch X).sig.returnType = some .int) (hz : (cs X).heap.size + 0 = cB X + n) (hk0 : K a0 = 12) (hE : cE X n K L r.2 (some (.int r.1)) 0 0) (hd : 3 ≤ d + 1) (h : f_X12_share K L fu a0 v1 v2 v3 v4 M = some r) : gW X 0 0 n K L M 0 [(0, va_rf (some a0)), (1, .int v1), (2, .int v2), (3, .int v3), (4, .int v4)] [] := by
  unfold f_X12_share at h
  refine g_iload_n o dX12_share_0 2 rfl ?_
  refine g_i2l o dX12_share_1 ?_
  refine g_lconst (v := (1 : Int64)) o dX12_share_2 (by decide) ?_
  refine g_ldc2 (v := (7 : Int64)) o kc_X12_70 dX12_share_3 ?_
  obtain ⟨x1, e2, h⟩ := ob h
  refine g_invS0 o ml_X12_62 kb_X12_isIn ks_X12_isIn (c_X12_isIn (cq X) (cD X) (cY X) (cB X) (d := d) (by omega) e2) rfl rfl (by simp [cat_i, cat_l, cat_rf]) dX12_share_6 ?_
  refine g_if_ne (tgt := 17) o dX12_share_9 (by decide) (fun z => ?_) (fun z => ?_)
  · have h := (if_neg z).symm.trans h
    refine g_aload_n o dX12_share_17 0 rfl ?_
    refine g_iload_n o dX12_share_18 1 rfl ?_
    refine g_iconst (v := (0 : Int32)) o dX12_share_19 (by decide) ?_
    obtain ⟨x3, e4, h⟩ := ob h
    refine g_invV0 o (rc_self hk0) (by decide) ml_X12_119 kb_X12_why kv_X12_why rfl (c_X12_why (cq X) (cD X) (cY X) (cB X) (d := d) (by omega) (rc_at (rc_self hk0)).2 e4) rfl rfl (by simp [cat_i, cat_l, cat_rf]) dX12_share_20 ?_
    exact w_X12_share_23 o hL hr hz hk0 hE hd h
  · have h := (if_pos z).symm.trans h
    refine g_bipush (v := (-3 : Int32)) o dX12_share_12 (by decide) ?_
    refine g_goto (tgt := 23) o dX12_share_14 (by decide) ?_
    exact w_X12_share_23 o hL hr hz hk0 hE hd h
theorem c_X12_share (l : Launch) (D : va_G) (Y : Nat → ClassId) (B : Nat) {d : Nat} {n : Nat} {K L : Nat → Nat} {fu : Nat} {M : Mm} {a0 : Nat} {v1 : Int32} {v2 : Int32} {v3 : Int32} {v4 : Int32} {r : (Int32 × Mm)} (hd : 3 ≤ d) (hk0 : K a0 = 12) (h : f_X12_share K L fu a0 v1 v2 v3 v4 M = some r) : mC l D Y B d yX12_share cX12_share 7 (some .int) [va_rf (some a0), .int v1, .int v2, .int v3, .int v4] n K L M n K L r.2 (some (.int r.1)) 0 0 := by
  obtain ⟨d, rfl⟩ : ∃ e, d = e + 1 := ⟨d - 1, by omega⟩
  refine mk_met (by decide) (by simp [lgs_r, lgs_i, lgs_l, lgs_n]) (fun X e1 e2 e3 e4 o hL hr hnm hz hc hs hE => ?_)
  subst e1 e2 e3 e4
  rw [show lv_args 0 [va_rf (some a0), .int v1, .int v2, .int v3, .int v4] = [(0, va_rf (some a0)), (1, .int v1), (2, .int v2), (3, .int v3), (4, .int v4)] by simp [lva_r, lva_i, lva_l, lva_n]]
  exact w_X12_share_0 o hL hr hz hk0 hE hd h
def f_X12_shares_60 (K L : Nat → Nat) (a0 : Nat) (v2 : Int32) (s0 : Int32) (s1 : Int32) (s2 : (Option Nat)) (M : Mm) : Option (Int32 × Mm) :=
  Option.bind (rc K s2 12) (fun a1 =>
  Option.bind (f_X12_of K L M a1 s1 (s0 + v2)) (fun x3 =>
  some (x3, M)))
set_option maxHeartbeats 4000000 in
theorem w_X12_shares_60 {X : Cx} {d n : Nat} {K L : Nat → Nat} {a0 : Nat} {r : (Int32 × Mm)} {v2 : Int32} {s0 : Int32} {s1 : Int32} {s2 : (Option Nat)} {M : Mm} (o : cOk X cX12_shares RX12 (d + 1)) (hL : cL X = 5) (hr : (ch X).sig.returnType = some .int) (hz : (cs X).heap.size + 0 = cB X + n) (hk0 : K a0 = 12) (hE : cE X n K L r.2 (some (.int r.1)) 0 0) (hd : 3 ≤ d + 1) (h : f_X12_shares_60 K L a0 v2 s0 s1 s2 M = some r) : gW X 0 0 n K L M 60 [(0, va_rf (some a0)), (2, .int v2)] [.int s0, .int s1, va_rf s2] := by
  unfold f_X12_shares_60 at h
  refine g_iload_n o dX12_shares_60 1 rfl ?_
  refine g_iadd o dX12_shares_61 ?_
  obtain ⟨a1, e2, h⟩ := ob h
  obtain ⟨x3, e4, h⟩ := ob h
  refine g_invV0 o e2 (by decide) ml_X12_43 kb_X12_of kv_X12_of rfl (c_X12_of (cq X) (cD X) (cY X) (cB X) (d := d) (by omega) (rc_at e2).2 e4) rfl rfl (by simp [cat_i, cat_l, cat_rf]) dX12_shares_62 ?_
  refine g_goto (tgt := 74) o dX12_shares_65 (by decide) ?_
  cases h
  exact g_iret o hr hE dX12_shares_74
def f_X12_shares_23 (K L : Nat → Nat) (a0 : Nat) (v1 : Int32) (v2 : Int32) (v3 : Int32) (s0 : Int32) (M : Mm) : Option (Int32 × Mm) :=
  if s0 = 0 then
    Option.bind (f_X12_isIn (v3.toInt64) (0 : Int64) (1 : Int64)) (fun x1 =>
    if x1 = 0 then
      Option.bind (f_X12_no K L a0 (-12 : Int32) M) (fun x3 =>
      some (x3.1, x3.2))
    else
      if v3 = 0 then
        f_X12_shares_60 K L a0 v2 (28 : Int32) v1 (some a0) M
      else
        f_X12_shares_60 K L a0 v2 (36 : Int32) v1 (some a0) M)
  else
    Option.bind (f_X12_no K L a0 s0 M) (fun x5 =>
    some (x5.1, x5.2))
set_option maxHeartbeats 4000000 in
theorem w_X12_shares_23 {X : Cx} {d n : Nat} {K L : Nat → Nat} {a0 : Nat} {r : (Int32 × Mm)} {v1 : Int32} {v2 : Int32} {v3 : Int32} {s0 : Int32} {M : Mm} (o : cOk X cX12_shares RX12 (d + 1)) (hL : cL X = 5) (hr : (ch X).sig.returnType = some .int) (hz : (cs X).heap.size + 0 = cB X + n) (hk0 : K a0 = 12) (hE : cE X n K L r.2 (some (.int r.1)) 0 0) (hd : 3 ≤ d + 1) (h : f_X12_shares_23 K L a0 v1 v2 v3 s0 M = some r) : gW X 0 0 n K L M 23 [(0, va_rf (some a0)), (1, .int v1), (2, .int v2), (3, .int v3)] [.int s0] := by
  unfold f_X12_shares_23 at h
  refine g_istore (i := 4) (ls' := [(4, .int s0), (0, va_rf (some a0)), (1, .int v1), (2, .int v2), (3, .int v3)]) o dX12_shares_23 (ltL hL (by decide)) rfl ?_
  refine g_iload o dX12_shares_25 0 rfl ?_
  refine g_if_eq (tgt := 37) o dX12_shares_27 (by decide) (fun z => ?_) (fun z => ?_)
  · have h := (if_pos z).symm.trans h
    refine g_iload_n o dX12_shares_37 4 rfl ?_
    refine g_i2l o dX12_shares_38 ?_
    refine g_lconst (v := (0 : Int64)) o dX12_shares_39 (by decide) ?_
    refine g_lconst (v := (1 : Int64)) o dX12_shares_40 (by decide) ?_
    obtain ⟨x1, e2, h⟩ := ob h
    refine g_invS0 o ml_X12_62 kb_X12_isIn ks_X12_isIn (c_X12_isIn (cq X) (cD X) (cY X) (cB X) (d := d) (by omega) e2) rfl rfl (by simp [cat_i, cat_l, cat_rf]) dX12_shares_41 ?_
    refine g_if_eq (tgt := 68) o dX12_shares_44 (by decide) (fun z => ?_) (fun z => ?_)
    · have h := (if_pos z).symm.trans h
      refine g_aload_n o dX12_shares_68 1 rfl ?_
      refine g_bipush (v := (-12 : Int32)) o dX12_shares_69 (by decide) ?_
      obtain ⟨x3, e4, h⟩ := ob h
      refine g_invV0 o (rc_self hk0) (by decide) ml_X12_72 kb_X12_no kv_X12_no rfl (c_X12_no (cq X) (cD X) (cY X) (cB X) (d := d) (by omega) (rc_at (rc_self hk0)).2 e4) rfl rfl (by simp [cat_i, cat_l, cat_rf]) dX12_shares_71 ?_
      cases h
      exact g_iret o hr hE dX12_shares_74
    · have h := (if_neg z).symm.trans h
      refine g_aload_n o dX12_shares_47 1 rfl ?_
      refine g_iload_n o dX12_shares_48 2 rfl ?_
      refine g_iload_n o dX12_shares_49 4 rfl ?_
      refine g_if_ne (tgt := 58) o dX12_shares_50 (by decide) (fun z => ?_) (fun z => ?_)
      · have h := (if_neg z).symm.trans h
        refine g_bipush (v := (36 : Int32)) o dX12_shares_58 (by decide) ?_
        refine gsub [1, 3] rfl ?_
        exact w_X12_shares_60 o hL hr hz hk0 hE hd h
      · have h := (if_pos z).symm.trans h
        refine g_bipush (v := (28 : Int32)) o dX12_shares_53 (by decide) ?_
        refine g_goto (tgt := 60) o dX12_shares_55 (by decide) ?_
        refine gsub [1, 3] rfl ?_
        exact w_X12_shares_60 o hL hr hz hk0 hE hd h
  · have h := (if_neg z).symm.trans h
    refine g_aload_n o dX12_shares_30 1 rfl ?_
    refine g_iload o dX12_shares_31 0 rfl ?_
    obtain ⟨x5, e6, h⟩ := ob h
    refine g_invV0 o (rc_self hk0) (by decide) ml_X12_72 kb_X12_no kv_X12_no rfl (c_X12_no (cq X) (cD X) (cY X) (cB X) (d := d) (by omega) (rc_at (rc_self hk0)).2 e6) rfl rfl (by simp [cat_i, cat_l, cat_rf]) dX12_shares_33 ?_
    cases h
    exact g_iret o hr hE dX12_shares_36
def f_X12_shares (K L : Nat → Nat) (a0 : Nat) (v1 : Int32) (v2 : Int32) (v3 : Int32) (M : Mm) : Option (Int32 × Mm) :=
  Option.bind (f_X12_isIn (v2.toInt64) (1 : Int64) (7 : Int64)) (fun x1 =>
  if x1 = 0 then
    f_X12_shares_23 K L a0 v1 v2 v3 (-3 : Int32) M
  else
    Option.bind (f_X12_why K L M a0 v1 (0 : Int32)) (fun x3 =>
    f_X12_shares_23 K L a0 v1 v2 v3 x3 M))
set_option maxHeartbeats 4000000 in
theorem w_X12_shares_0 {X : Cx} {d n : Nat} {K L : Nat → Nat} {a0 : Nat} {r : (Int32 × Mm)} {v1 : Int32} {v2 : Int32} {v3 : Int32} {M : Mm} (o : cOk X cX12_shares RX12 (d + 1)) (hL : cL X = 5) (hr : (ch X).sig.returnType = some .int) (hz : (cs X).heap.size + 0 = cB X + n) (hk0 : K a0 = 12) (hE : cE X n K L r.2 (some (.int r.1)) 0 0) (hd : 3 ≤ d + 1) (h : f_X12_shares K L a0 v1 v2 v3 M = some r) : gW X 0 0 n K L M 0 [(0, va_rf (some a0)), (1, .int v1), (2, .int v2), (3, .int v3)] [] := by
  unfold f_X12_shares at h
  refine g_iload_n o dX12_shares_0 2 rfl ?_
  refine g_i2l o dX12_shares_1 ?_
  refine g_lconst (v := (1 : Int64)) o dX12_shares_2 (by decide) ?_
  refine g_ldc2 (v := (7 : Int64)) o kc_X12_70 dX12_shares_3 ?_
  obtain ⟨x1, e2, h⟩ := ob h
  refine g_invS0 o ml_X12_62 kb_X12_isIn ks_X12_isIn (c_X12_isIn (cq X) (cD X) (cY X) (cB X) (d := d) (by omega) e2) rfl rfl (by simp [cat_i, cat_l, cat_rf]) dX12_shares_6 ?_
  refine g_if_ne (tgt := 17) o dX12_shares_9 (by decide) (fun z => ?_) (fun z => ?_)
  · have h := (if_neg z).symm.trans h
    refine g_aload_n o dX12_shares_17 0 rfl ?_
    refine g_iload_n o dX12_shares_18 1 rfl ?_
    refine g_iconst (v := (0 : Int32)) o dX12_shares_19 (by decide) ?_
    obtain ⟨x3, e4, h⟩ := ob h
    refine g_invV0 o (rc_self hk0) (by decide) ml_X12_119 kb_X12_why kv_X12_why rfl (c_X12_why (cq X) (cD X) (cY X) (cB X) (d := d) (by omega) (rc_at (rc_self hk0)).2 e4) rfl rfl (by simp [cat_i, cat_l, cat_rf]) dX12_shares_20 ?_
    exact w_X12_shares_23 o hL hr hz hk0 hE hd h
  · have h := (if_pos z).symm.trans h
    refine g_bipush (v := (-3 : Int32)) o dX12_shares_12 (by decide) ?_
    refine g_goto (tgt := 23) o dX12_shares_14 (by decide) ?_
    exact w_X12_shares_23 o hL hr hz hk0 hE hd h
theorem c_X12_shares (l : Launch) (D : va_G) (Y : Nat → ClassId) (B : Nat) {d : Nat} {n : Nat} {K L : Nat → Nat} {M : Mm} {a0 : Nat} {v1 : Int32} {v2 : Int32} {v3 : Int32} {r : (Int32 × Mm)} (hd : 3 ≤ d) (hk0 : K a0 = 12) (h : f_X12_shares K L a0 v1 v2 v3 M = some r) : mC l D Y B d yX12_shares cX12_shares 5 (some .int) [va_rf (some a0), .int v1, .int v2, .int v3] n K L M n K L r.2 (some (.int r.1)) 0 0 := by
  obtain ⟨d, rfl⟩ : ∃ e, d = e + 1 := ⟨d - 1, by omega⟩
  refine mk_met (by decide) (by simp [lgs_r, lgs_i, lgs_l, lgs_n]) (fun X e1 e2 e3 e4 o hL hr hnm hz hc hs hE => ?_)
  subst e1 e2 e3 e4
  rw [show lv_args 0 [va_rf (some a0), .int v1, .int v2, .int v3] = [(0, va_rf (some a0)), (1, .int v1), (2, .int v2), (3, .int v3)] by simp [lva_r, lva_i, lva_l, lva_n]]
  exact w_X12_shares_0 o hL hr hz hk0 hE hd h
def f_X12_asks_82 (K L : Nat → Nat) (fu : Nat) (k28 : Int32 → Int32 → Int32 → Int32 → Option Int32) (M : Mm) (a0 : Nat) (v1 : Int32) (v2 : Int32) (v4 : Int32) : Option Int32 :=
  k28 v1 v2 (0 : Int32) (v4 + 1)
set_option maxHeartbeats 4000000 in
theorem w_X12_asks_82 {X : Cx} {d n : Nat} {K L : Nat → Nat} {fu : Nat} {M : Mm} {a0 : Nat} {r : Int32} {k28 : Int32 → Int32 → Int32 → Int32 → Option Int32} {v1 : Int32} {v2 : Int32} {v4 : Int32} (o : cOk X cX12_asks RX12 (d + 1)) (hL : cL X = 5) (hr : (ch X).sig.returnType = some .boolean) (hk0 : K a0 = 12) (hE : cE X n K L M (some (.int r)) 0 0) (hk28 : ∀ (v1 : Int32) (v2 : Int32) (v3 : Int32) (v4 : Int32), k28 v1 v2 v3 v4 = some r → gW X 0 0 n K L M 28 [(0, va_rf (some a0)), (1, .int v1), (2, .int v2), (3, .int v3), (4, .int v4)] []) (hd : 2 ≤ d + 1) (h : f_X12_asks_82 K L fu k28 M a0 v1 v2 v4 = some r) : gW X 0 0 n K L M 82 [(0, va_rf (some a0)), (1, .int v1), (2, .int v2), (4, .int v4)] [] := by
  unfold f_X12_asks_82 at h
  refine g_iconst (v := (0 : Int32)) o dX12_asks_82 (by decide) ?_
  refine g_istore_n (i := 3) (ls' := [(3, .int (0 : Int32)), (0, va_rf (some a0)), (1, .int v1), (2, .int v2), (4, .int v4)]) o dX12_asks_83 rfl (ltL hL (by decide)) rfl ?_
  refine g_iinc (i := 4) (v := v4 + 1) (ls' := [(4, .int (v4 + 1)), (3, .int (0 : Int32)), (0, va_rf (some a0)), (1, .int v1), (2, .int v2)]) o dX12_asks_84 4 rfl (by first | rfl | (congr 1)) (ltL hL (by decide)) rfl ?_
  refine g_goto (tgt := 28) o dX12_asks_87 (by decide) ?_
  refine gsub [2, 3, 4, 1, 0] rfl ?_
  exact hk28 _ _ _ _ h
def f_X12_asks_78 (K L : Nat → Nat) (fu : Nat) (k28 : Int32 → Int32 → Int32 → Int32 → Option Int32) (M : Mm) (a0 : Nat) (v1 : Int32) (v2 : Int32) (v4 : Int32) : Option Int32 :=
  k28 v1 v2 (1 : Int32) (v4 + 1)
set_option maxHeartbeats 4000000 in
theorem w_X12_asks_78 {X : Cx} {d n : Nat} {K L : Nat → Nat} {fu : Nat} {M : Mm} {a0 : Nat} {r : Int32} {k28 : Int32 → Int32 → Int32 → Int32 → Option Int32} {v1 : Int32} {v2 : Int32} {v4 : Int32} (o : cOk X cX12_asks RX12 (d + 1)) (hL : cL X = 5) (hr : (ch X).sig.returnType = some .boolean) (hk0 : K a0 = 12) (hE : cE X n K L M (some (.int r)) 0 0) (hk28 : ∀ (v1 : Int32) (v2 : Int32) (v3 : Int32) (v4 : Int32), k28 v1 v2 v3 v4 = some r → gW X 0 0 n K L M 28 [(0, va_rf (some a0)), (1, .int v1), (2, .int v2), (3, .int v3), (4, .int v4)] []) (hd : 2 ≤ d + 1) (h : f_X12_asks_78 K L fu k28 M a0 v1 v2 v4 = some r) : gW X 0 0 n K L M 78 [(0, va_rf (some a0)), (1, .int v1), (2, .int v2), (4, .int v4)] [] := by
  unfold f_X12_asks_78 at h
  refine g_iconst (v := (1 : Int32)) o dX12_asks_78 (by decide) ?_
  refine g_goto (tgt := 83) o dX12_asks_79 (by decide) ?_
  refine g_istore_n (i := 3) (ls' := [(3, .int (1 : Int32)), (0, va_rf (some a0)), (1, .int v1), (2, .int v2), (4, .int v4)]) o dX12_asks_83 rfl (ltL hL (by decide)) rfl ?_
  refine g_iinc (i := 4) (v := v4 + 1) (ls' := [(4, .int (v4 + 1)), (3, .int (1 : Int32)), (0, va_rf (some a0)), (1, .int v1), (2, .int v2)]) o dX12_asks_84 4 rfl (by first | rfl | (congr 1)) (ltL hL (by decide)) rfl ?_
  refine g_goto (tgt := 28) o dX12_asks_87 (by decide) ?_
  refine gsub [2, 3, 4, 1, 0] rfl ?_
  exact hk28 _ _ _ _ h
def f_X12_asks_28b (K L : Nat → Nat) (fu : Nat) (k28 : Int32 → Int32 → Int32 → Int32 → Option Int32) (M : Mm) (a0 : Nat) (v1 : Int32) (v2 : Int32) (v3 : Int32) (v4 : Int32) : Option Int32 :=
  if (16 : Int32) ≤ v4 then
    Option.bind (zb v3) (fun u2 =>
    some v3)
  else
    if v3 = 0 then
      Option.bind (f_X12_of K L M a0 v4 (0 : Int32)) (fun x3 =>
      if x3 = (5 : Int32) then
        Option.bind (f_X12_of K L M a0 v4 (46 : Int32)) (fun x5 =>
        if ((x5 >>> (v1 &&& 31)) &&& (1 : Int32)) = (1 : Int32) then
          Option.bind (f_X12_of K L M a0 v4 (44 : Int32)) (fun x7 =>
          if x7 = v2 then
            f_X12_asks_78 K L fu k28 M a0 v1 v2 v4
          else
            f_X12_asks_82 K L fu k28 M a0 v1 v2 v4)
        else
          f_X12_asks_82 K L fu k28 M a0 v1 v2 v4)
      else
        f_X12_asks_82 K L fu k28 M a0 v1 v2 v4)
    else
      f_X12_asks_78 K L fu k28 M a0 v1 v2 v4
def f_X12_asks_28 (K L : Nat → Nat) (fu : Nat) (M : Mm) (a0 : Nat) : Nat → Int32 → Int32 → Int32 → Int32 → Option Int32
  | 0, _, _, _, _ => none
  | g + 1, v1, v2, v3, v4 => f_X12_asks_28b K L fu (f_X12_asks_28 K L fu M a0 g) M a0 v1 v2 v3 v4
set_option maxHeartbeats 4000000 in
theorem w_X12_asks_28b {X : Cx} {d n : Nat} {K L : Nat → Nat} {fu : Nat} {M : Mm} {a0 : Nat} {r : Int32} {k28 : Int32 → Int32 → Int32 → Int32 → Option Int32} {v1 : Int32} {v2 : Int32} {v3 : Int32} {v4 : Int32} (o : cOk X cX12_asks RX12 (d + 1)) (hL : cL X = 5) (hr : (ch X).sig.returnType = some .boolean) (hk0 : K a0 = 12) (hE : cE X n K L M (some (.int r)) 0 0) (hk28 : ∀ (v1 : Int32) (v2 : Int32) (v3 : Int32) (v4 : Int32), k28 v1 v2 v3 v4 = some r → gW X 0 0 n K L M 28 [(0, va_rf (some a0)), (1, .int v1), (2, .int v2), (3, .int v3), (4, .int v4)] []) (hd : 2 ≤ d + 1) (h : f_X12_asks_28b K L fu k28 M a0 v1 v2 v3 v4 = some r) : gW X 0 0 n K L M 28 [(0, va_rf (some a0)), (1, .int v1), (2, .int v2), (3, .int v3), (4, .int v4)] [] := by
  unfold f_X12_asks_28b at h
  refine g_iload o dX12_asks_28 4 rfl ?_
  refine g_bipush (v := (16 : Int32)) o dX12_asks_30 (by decide) ?_
  refine g_icmp_ge (tgt := 90) o dX12_asks_32 (by decide) (fun z => ?_) (fun z => ?_)
  · have h := (if_pos z).symm.trans h
    refine g_iload_n o dX12_asks_90 3 rfl ?_
    obtain ⟨u2, e1, h⟩ := ob h
    cases h
    exact g_zret o hr (zb_at e1) hE dX12_asks_91
  · have h := (if_neg z).symm.trans h
    refine g_iload_n o dX12_asks_35 3 rfl ?_
    refine g_if_ne (tgt := 78) o dX12_asks_36 (by decide) (fun z => ?_) (fun z => ?_)
    · have h := (if_neg z).symm.trans h
      refine gsub [0, 1, 2, 4] rfl ?_
      exact w_X12_asks_78 o hL hr hk0 hE hk28 hd h
    · have h := (if_pos z).symm.trans h
      refine g_aload_n o dX12_asks_39 0 rfl ?_
      refine g_iload o dX12_asks_40 4 rfl ?_
      refine g_iconst (v := (0 : Int32)) o dX12_asks_42 (by decide) ?_
      obtain ⟨x3, e4, h⟩ := ob h
      refine g_invV0 o (rc_self hk0) (by decide) ml_X12_43 kb_X12_of kv_X12_of rfl (c_X12_of (cq X) (cD X) (cY X) (cB X) (d := d) (by omega) (rc_at (rc_self hk0)).2 e4) rfl rfl (by simp [cat_i, cat_l, cat_rf]) dX12_asks_43 ?_
      refine g_iconst (v := (5 : Int32)) o dX12_asks_46 (by decide) ?_
      refine g_icmp_ne (tgt := 82) o dX12_asks_47 (by decide) (fun z => ?_) (fun z => ?_)
      · have h := (if_neg z).symm.trans h
        refine gsub [0, 1, 2, 4] rfl ?_
        exact w_X12_asks_82 o hL hr hk0 hE hk28 hd h
      · have h := (if_pos z).symm.trans h
        refine g_aload_n o dX12_asks_50 0 rfl ?_
        refine g_iload o dX12_asks_51 4 rfl ?_
        refine g_bipush (v := (46 : Int32)) o dX12_asks_53 (by decide) ?_
        obtain ⟨x5, e6, h⟩ := ob h
        refine g_invV0 o (rc_self hk0) (by decide) ml_X12_43 kb_X12_of kv_X12_of rfl (c_X12_of (cq X) (cD X) (cY X) (cB X) (d := d) (by omega) (rc_at (rc_self hk0)).2 e6) rfl rfl (by simp [cat_i, cat_l, cat_rf]) dX12_asks_55 ?_
        refine g_iload_n o dX12_asks_58 1 rfl ?_
        refine g_ishr o dX12_asks_59 ?_
        refine g_iconst (v := (1 : Int32)) o dX12_asks_60 (by decide) ?_
        refine g_iand o dX12_asks_61 ?_
        refine g_iconst (v := (1 : Int32)) o dX12_asks_62 (by decide) ?_
        refine g_icmp_ne (tgt := 82) o dX12_asks_63 (by decide) (fun z => ?_) (fun z => ?_)
        · have h := (if_neg z).symm.trans h
          refine gsub [0, 1, 2, 4] rfl ?_
          exact w_X12_asks_82 o hL hr hk0 hE hk28 hd h
        · have h := (if_pos z).symm.trans h
          refine g_aload_n o dX12_asks_66 0 rfl ?_
          refine g_iload o dX12_asks_67 4 rfl ?_
          refine g_bipush (v := (44 : Int32)) o dX12_asks_69 (by decide) ?_
          obtain ⟨x7, e8, h⟩ := ob h
          refine g_invV0 o (rc_self hk0) (by decide) ml_X12_43 kb_X12_of kv_X12_of rfl (c_X12_of (cq X) (cD X) (cY X) (cB X) (d := d) (by omega) (rc_at (rc_self hk0)).2 e8) rfl rfl (by simp [cat_i, cat_l, cat_rf]) dX12_asks_71 ?_
          refine g_iload_n o dX12_asks_74 2 rfl ?_
          refine g_icmp_ne (tgt := 82) o dX12_asks_75 (by decide) (fun z => ?_) (fun z => ?_)
          · have h := (if_neg z).symm.trans h
            refine gsub [0, 1, 2, 4] rfl ?_
            exact w_X12_asks_82 o hL hr hk0 hE hk28 hd h
          · have h := (if_pos z).symm.trans h
            refine gsub [0, 1, 2, 4] rfl ?_
            exact w_X12_asks_78 o hL hr hk0 hE hk28 hd h
theorem w_X12_asks_28_n {X : Cx} {d n : Nat} {K L : Nat → Nat} {fu : Nat} {M : Mm} {a0 : Nat} {r : Int32} (o : cOk X cX12_asks RX12 (d + 1)) (hL : cL X = 5) (hr : (ch X).sig.returnType = some .boolean) (hk0 : K a0 = 12) (hE : cE X n K L M (some (.int r)) 0 0) (hd : 2 ≤ d + 1) : ∀ (g : Nat) (v1 : Int32) (v2 : Int32) (v3 : Int32) (v4 : Int32), f_X12_asks_28 K L fu M a0 g v1 v2 v3 v4 = some r → gW X 0 0 n K L M 28 [(0, va_rf (some a0)), (1, .int v1), (2, .int v2), (3, .int v3), (4, .int v4)] []
  | 0, _, _, _, _, h => by cases h
  | g + 1, v1, v2, v3, v4, h => w_X12_asks_28b o hL hr hk0 hE (w_X12_asks_28_n o hL hr hk0 hE hd g) hd h
theorem w_X12_asks_28 {X : Cx} {d n : Nat} {K L : Nat → Nat} {fu : Nat} {M : Mm} {a0 : Nat} {r : Int32} {v1 : Int32} {v2 : Int32} {v3 : Int32} {v4 : Int32} (o : cOk X cX12_asks RX12 (d + 1)) (hL : cL X = 5) (hr : (ch X).sig.returnType = some .boolean) (hk0 : K a0 = 12) (hE : cE X n K L M (some (.int r)) 0 0) (hd : 2 ≤ d + 1) (h : f_X12_asks_28 K L fu M a0 fu v1 v2 v3 v4 = some r) : gW X 0 0 n K L M 28 [(0, va_rf (some a0)), (1, .int v1), (2, .int v2), (3, .int v3), (4, .int v4)] [] := w_X12_asks_28_n o hL hr hk0 hE hd fu v1 v2 v3 v4 h
def f_X12_asks_24 (K L : Nat → Nat) (fu : Nat) (M : Mm) (a0 : Nat) (v1 : Int32) (v2 : Int32) (s0 : Int32) : Option Int32 :=
  f_X12_asks_28 K L fu M a0 fu v1 v2 s0 (0 : Int32)
set_option maxHeartbeats 4000000 in
theorem w_X12_asks_24 {X : Cx} {d n : Nat} {K L : Nat → Nat} {fu : Nat} {M : Mm} {a0 : Nat} {r : Int32} {v1 : Int32} {v2 : Int32} {s0 : Int32} (o : cOk X cX12_asks RX12 (d + 1)) (hL : cL X = 5) (hr : (ch X).sig.returnType = some .boolean) (hk0 : K a0 = 12) (hE : cE X n K L M (some (.int r)) 0 0) (hd : 2 ≤ d + 1) (h : f_X12_asks_24 K L fu M a0 v1 v2 s0 = some r) : gW X 0 0 n K L M 24 [(0, va_rf (some a0)), (1, .int v1), (2, .int v2)] [.int s0] := by
  unfold f_X12_asks_24 at h
  refine g_istore_n (i := 3) (ls' := [(3, .int s0), (0, va_rf (some a0)), (1, .int v1), (2, .int v2)]) o dX12_asks_24 rfl (ltL hL (by decide)) rfl ?_
  refine g_iconst (v := (0 : Int32)) o dX12_asks_25 (by decide) ?_
  refine g_istore (i := 4) (ls' := [(4, .int (0 : Int32)), (3, .int s0), (0, va_rf (some a0)), (1, .int v1), (2, .int v2)]) o dX12_asks_26 (ltL hL (by decide)) rfl ?_
  refine gsub [2, 3, 4, 1, 0] rfl ?_
  exact w_X12_asks_28 o hL hr hk0 hE hd h
def f_X12_asks_23 (K L : Nat → Nat) (fu : Nat) (M : Mm) (a0 : Nat) (v1 : Int32) (v2 : Int32) : Option Int32 :=
  f_X12_asks_24 K L fu M a0 v1 v2 (0 : Int32)
set_option maxHeartbeats 4000000 in
theorem w_X12_asks_23 {X : Cx} {d n : Nat} {K L : Nat → Nat} {fu : Nat} {M : Mm} {a0 : Nat} {r : Int32} {v1 : Int32} {v2 : Int32} (o : cOk X cX12_asks RX12 (d + 1)) (hL : cL X = 5) (hr : (ch X).sig.returnType = some .boolean) (hk0 : K a0 = 12) (hE : cE X n K L M (some (.int r)) 0 0) (hd : 2 ≤ d + 1) (h : f_X12_asks_23 K L fu M a0 v1 v2 = some r) : gW X 0 0 n K L M 23 [(0, va_rf (some a0)), (1, .int v1), (2, .int v2)] [] := by
  unfold f_X12_asks_23 at h
  refine g_iconst (v := (0 : Int32)) o dX12_asks_23 (by decide) ?_
  exact w_X12_asks_24 o hL hr hk0 hE hd h
def f_X12_asks (K L : Nat → Nat) (fu : Nat) (M : Mm) (a0 : Nat) (v1 : Int32) (v2 : Int32) : Option Int32 :=
  Option.bind (f_X12_hangs K L M a0 v1) (fun x1 =>
  if x1 = 0 then
    f_X12_asks_23 K L fu M a0 v1 v2
  else
    Option.bind (f_X12_of K L M a0 v1 (44 : Int32)) (fun x3 =>
    if x3 = v2 then
      f_X12_asks_24 K L fu M a0 v1 v2 (1 : Int32)
    else
      f_X12_asks_23 K L fu M a0 v1 v2))
set_option maxHeartbeats 4000000 in
theorem w_X12_asks_0 {X : Cx} {d n : Nat} {K L : Nat → Nat} {fu : Nat} {M : Mm} {a0 : Nat} {r : Int32} {v1 : Int32} {v2 : Int32} (o : cOk X cX12_asks RX12 (d + 1)) (hL : cL X = 5) (hr : (ch X).sig.returnType = some .boolean) (hk0 : K a0 = 12) (hE : cE X n K L M (some (.int r)) 0 0) (hd : 2 ≤ d + 1) (h : f_X12_asks K L fu M a0 v1 v2 = some r) : gW X 0 0 n K L M 0 [(0, va_rf (some a0)), (1, .int v1), (2, .int v2)] [] := by
  unfold f_X12_asks at h
  refine g_aload_n o dX12_asks_0 0 rfl ?_
  refine g_iload_n o dX12_asks_1 1 rfl ?_
  obtain ⟨x1, e2, h⟩ := ob h
  refine g_invV0 o (rc_self hk0) (by decide) ml_X12_57 kb_X12_hangs kv_X12_hangs rfl (c_X12_hangs (cq X) (cD X) (cY X) (cB X) (d := d) (by omega) (rc_at (rc_self hk0)).2 e2) rfl rfl (by simp [cat_i, cat_l, cat_rf]) dX12_asks_2 ?_
  refine g_if_eq (tgt := 23) o dX12_asks_5 (by decide) (fun z => ?_) (fun z => ?_)
  · have h := (if_pos z).symm.trans h
    exact w_X12_asks_23 o hL hr hk0 hE hd h
  · have h := (if_neg z).symm.trans h
    refine g_aload_n o dX12_asks_8 0 rfl ?_
    refine g_iload_n o dX12_asks_9 1 rfl ?_
    refine g_bipush (v := (44 : Int32)) o dX12_asks_10 (by decide) ?_
    obtain ⟨x3, e4, h⟩ := ob h
    refine g_invV0 o (rc_self hk0) (by decide) ml_X12_43 kb_X12_of kv_X12_of rfl (c_X12_of (cq X) (cD X) (cY X) (cB X) (d := d) (by omega) (rc_at (rc_self hk0)).2 e4) rfl rfl (by simp [cat_i, cat_l, cat_rf]) dX12_asks_12 ?_
    refine g_iload_n o dX12_asks_15 2 rfl ?_
    refine g_icmp_ne (tgt := 23) o dX12_asks_16 (by decide) (fun z => ?_) (fun z => ?_)
    · have h := (if_neg z).symm.trans h
      exact w_X12_asks_23 o hL hr hk0 hE hd h
    · have h := (if_pos z).symm.trans h
      refine g_iconst (v := (1 : Int32)) o dX12_asks_19 (by decide) ?_
      refine g_goto (tgt := 24) o dX12_asks_20 (by decide) ?_
      exact w_X12_asks_24 o hL hr hk0 hE hd h
theorem c_X12_asks (l : Launch) (D : va_G) (Y : Nat → ClassId) (B : Nat) {d : Nat} {n : Nat} {K L : Nat → Nat} {fu : Nat} {M : Mm} {a0 : Nat} {v1 : Int32} {v2 : Int32} {r : Int32} (hd : 2 ≤ d) (hk0 : K a0 = 12) (h : f_X12_asks K L fu M a0 v1 v2 = some r) : mC l D Y B d yX12_asks cX12_asks 5 (some .boolean) [va_rf (some a0), .int v1, .int v2] n K L M n K L M (some (.int r)) 0 0 := by
  obtain ⟨d, rfl⟩ : ∃ e, d = e + 1 := ⟨d - 1, by omega⟩
  refine mk_met (by decide) (by simp [lgs_r, lgs_i, lgs_l, lgs_n]) (fun X e1 e2 e3 e4 o hL hr hnm hz hc hs hE => ?_)
  subst e1 e2 e3 e4
  rw [show lv_args 0 [va_rf (some a0), .int v1, .int v2] = [(0, va_rf (some a0)), (1, .int v1), (2, .int v2)] by simp [lva_r, lva_i, lva_l, lva_n]]
  exact w_X12_asks_0 o hL hr hk0 hE hd h
def f_X12_findFar_54b (K L : Nat → Nat) (fu : Nat) (k37 : Int32 → Mm → Option Mm) (k45 : Int32 → Int32 → Mm → Option Mm) (k54 : Int32 → Int32 → Int32 → Mm → Option Mm) (a0 : Nat) (v2 : Int32) (v3 : Int32) (v4 : Int32) (M : Mm) : Option Mm :=
  if (16 : Int32) ≤ v4 then
    k45 v2 (v3 + 1) M
  else
    Option.bind (rx K L (mm_R M (32 * 12 + 14) a0) 13 v4) (fun a1 =>
    Option.bind (rx K L (mm_R M (32 * 12 + 14) a0) 13 v3) (fun a3 =>
    if (mm_A M a3 v3.toNatClampNeg) ≤ ((mm_A M a1 v4.toNatClampNeg) + (1 : Int32)) then
      k54 v2 v3 (v4 + 1) M
    else
      Option.bind (f_X12_asks K L fu M a0 v3 v4) (fun x5 =>
      if x5 = 0 then
        k54 v2 v3 (v4 + 1) M
      else
        bn (ms_A M a3 (upd (mm_A M a3) v3.toNatClampNeg ((mm_A M a1 v4.toNatClampNeg) + (1 : Int32)))) (fun M7 =>
        k54 v2 v3 (v4 + 1) M7))))
def f_X12_findFar_54 (K L : Nat → Nat) (fu : Nat) (k37 : Int32 → Mm → Option Mm) (k45 : Int32 → Int32 → Mm → Option Mm) (a0 : Nat) : Nat → Int32 → Int32 → Int32 → Mm → Option Mm
  | 0, _, _, _, _ => none
  | g + 1, v2, v3, v4, M => f_X12_findFar_54b K L fu k37 k45 (f_X12_findFar_54 K L fu k37 k45 a0 g) a0 v2 v3 v4 M
set_option maxHeartbeats 4000000 in
theorem w_X12_findFar_54b {X : Cx} {d n : Nat} {K L : Nat → Nat} {fu : Nat} {a0 : Nat} {r : Mm} {k37 : Int32 → Mm → Option Mm} {k45 : Int32 → Int32 → Mm → Option Mm} {k54 : Int32 → Int32 → Int32 → Mm → Option Mm} {v2 : Int32} {v3 : Int32} {v4 : Int32} {M : Mm} (o : cOk X cX12_findFar RX12 (d + 1)) (hL : cL X = 5) (hr : (ch X).sig.returnType = none) (hz : (cs X).heap.size + 0 = cB X + n) (hk0 : K a0 = 12) (hE : cE X n K L r none 0 0) (hk37 : ∀ (v2 : Int32) (M : Mm), k37 v2 M = some r → gW X 0 0 n K L M 37 [(0, va_rf (some a0)), (2, .int v2)] []) (hk45 : ∀ (v2 : Int32) (v3 : Int32) (M : Mm), k45 v2 v3 M = some r → gW X 0 0 n K L M 45 [(0, va_rf (some a0)), (2, .int v2), (3, .int v3)] []) (hk54 : ∀ (v2 : Int32) (v3 : Int32) (v4 : Int32) (M : Mm), k54 v2 v3 v4 M = some r → gW X 0 0 n K L M 54 [(0, va_rf (some a0)), (2, .int v2), (3, .int v3), (4, .int v4)] []) (hd : 3 ≤ d + 1) (h : f_X12_findFar_54b K L fu k37 k45 k54 a0 v2 v3 v4 M = some r) : gW X 0 0 n K L M 54 [(0, va_rf (some a0)), (2, .int v2), (3, .int v3), (4, .int v4)] [] := by
  unfold f_X12_findFar_54b at h
  refine g_iload o dX12_findFar_54 3 rfl ?_
  refine g_bipush (v := (16 : Int32)) o dX12_findFar_56 (by decide) ?_
  refine g_icmp_ge (tgt := 110) o dX12_findFar_58 (by decide) (fun z => ?_) (fun z => ?_)
  · have h := (if_pos z).symm.trans h
    refine g_iinc (i := 3) (v := v3 + 1) (ls' := [(3, .int (v3 + 1)), (0, va_rf (some a0)), (2, .int v2), (4, .int v4)]) o dX12_findFar_110 2 rfl (by first | rfl | (congr 1)) (ltL hL (by decide)) rfl ?_
    refine g_goto (tgt := 45) o dX12_findFar_113 (by decide) ?_
    refine gsub [1, 2, 0] rfl ?_
    exact hk45 _ _ _ h
  · have h := (if_neg z).symm.trans h
    refine g_aload_n o dX12_findFar_61 0 rfl ?_
    refine g_getR o fl_X12_37 (rc_self hk0) (by decide) rfl dX12_findFar_62 ?_
    refine g_iload o dX12_findFar_65 3 rfl ?_
    obtain ⟨a1, e2, h⟩ := ob h
    refine g_iald o e2 dX12_findFar_67 ?_
    refine g_iconst (v := (1 : Int32)) o dX12_findFar_68 (by decide) ?_
    refine g_iadd o dX12_findFar_69 ?_
    refine g_aload_n o dX12_findFar_70 0 rfl ?_
    refine g_getR o fl_X12_37 (rc_self hk0) (by decide) rfl dX12_findFar_71 ?_
    refine g_iload_n o dX12_findFar_74 2 rfl ?_
    obtain ⟨a3, e4, h⟩ := ob h
    refine g_iald o e4 dX12_findFar_75 ?_
    refine g_icmp_ge (tgt := 104) o dX12_findFar_76 (by decide) (fun z => ?_) (fun z => ?_)
    · have h := (if_pos z).symm.trans h
      refine g_iinc (i := 4) (v := v4 + 1) (ls' := [(4, .int (v4 + 1)), (0, va_rf (some a0)), (2, .int v2), (3, .int v3)]) o dX12_findFar_104 3 rfl (by first | rfl | (congr 1)) (ltL hL (by decide)) rfl ?_
      refine g_goto (tgt := 54) o dX12_findFar_107 (by decide) ?_
      refine gsub [1, 2, 3, 0] rfl ?_
      exact hk54 _ _ _ _ h
    · have h := (if_neg z).symm.trans h
      refine g_aload_n o dX12_findFar_79 0 rfl ?_
      refine g_iload_n o dX12_findFar_80 2 rfl ?_
      refine g_iload o dX12_findFar_81 3 rfl ?_
      obtain ⟨x5, e6, h⟩ := ob h
      refine g_invV0 o (rc_self hk0) (by decide) ml_X12_143 kb_X12_asks kv_X12_asks rfl (c_X12_asks (cq X) (cD X) (cY X) (cB X) (d := d) (by omega) (rc_at (rc_self hk0)).2 e6) rfl rfl (by simp [cat_i, cat_l, cat_rf]) dX12_findFar_83 ?_
      refine g_if_eq (tgt := 104) o dX12_findFar_86 (by decide) (fun z => ?_) (fun z => ?_)
      · have h := (if_pos z).symm.trans h
        refine g_iinc (i := 4) (v := v4 + 1) (ls' := [(4, .int (v4 + 1)), (0, va_rf (some a0)), (2, .int v2), (3, .int v3)]) o dX12_findFar_104 3 rfl (by first | rfl | (congr 1)) (ltL hL (by decide)) rfl ?_
        refine g_goto (tgt := 54) o dX12_findFar_107 (by decide) ?_
        refine gsub [1, 2, 3, 0] rfl ?_
        exact hk54 _ _ _ _ h
      · have h := (if_neg z).symm.trans h
        refine g_aload_n o dX12_findFar_89 0 rfl ?_
        refine g_getR o fl_X12_37 (rc_self hk0) (by decide) rfl dX12_findFar_90 ?_
        refine g_iload_n o dX12_findFar_93 2 rfl ?_
        refine g_aload_n o dX12_findFar_94 0 rfl ?_
        refine g_getR o fl_X12_37 (rc_self hk0) (by decide) rfl dX12_findFar_95 ?_
        refine g_iload o dX12_findFar_98 3 rfl ?_
        refine g_iald o e2 dX12_findFar_100 ?_
        refine g_iconst (v := (1 : Int32)) o dX12_findFar_101 (by decide) ?_
        refine g_iadd o dX12_findFar_102 ?_
        refine g_iast o hz e4  dX12_findFar_103 ?_
        obtain ⟨M7, e8, h⟩ := bn_at h
        refine g_mem e8 ?_
        refine g_iinc (i := 4) (v := v4 + 1) (ls' := [(4, .int (v4 + 1)), (0, va_rf (some a0)), (2, .int v2), (3, .int v3)]) o dX12_findFar_104 3 rfl (by first | rfl | (congr 1)) (ltL hL (by decide)) rfl ?_
        refine g_goto (tgt := 54) o dX12_findFar_107 (by decide) ?_
        refine gsub [1, 2, 3, 0] rfl ?_
        exact hk54 _ _ _ _ h
theorem w_X12_findFar_54_n {X : Cx} {d n : Nat} {K L : Nat → Nat} {fu : Nat} {a0 : Nat} {r : Mm} {k37 : Int32 → Mm → Option Mm} {k45 : Int32 → Int32 → Mm → Option Mm} (o : cOk X cX12_findFar RX12 (d + 1)) (hL : cL X = 5) (hr : (ch X).sig.returnType = none) (hz : (cs X).heap.size + 0 = cB X + n) (hk0 : K a0 = 12) (hE : cE X n K L r none 0 0) (hk37 : ∀ (v2 : Int32) (M : Mm), k37 v2 M = some r → gW X 0 0 n K L M 37 [(0, va_rf (some a0)), (2, .int v2)] []) (hk45 : ∀ (v2 : Int32) (v3 : Int32) (M : Mm), k45 v2 v3 M = some r → gW X 0 0 n K L M 45 [(0, va_rf (some a0)), (2, .int v2), (3, .int v3)] []) (hd : 3 ≤ d + 1) : ∀ (g : Nat) (v2 : Int32) (v3 : Int32) (v4 : Int32) (M : Mm), f_X12_findFar_54 K L fu k37 k45 a0 g v2 v3 v4 M = some r → gW X 0 0 n K L M 54 [(0, va_rf (some a0)), (2, .int v2), (3, .int v3), (4, .int v4)] []
  | 0, _, _, _, _, h => by cases h
  | g + 1, v2, v3, v4, M, h => w_X12_findFar_54b o hL hr hz hk0 hE hk37 hk45 (w_X12_findFar_54_n o hL hr hz hk0 hE hk37 hk45 hd g) hd h
theorem w_X12_findFar_54 {X : Cx} {d n : Nat} {K L : Nat → Nat} {fu : Nat} {a0 : Nat} {r : Mm} {k37 : Int32 → Mm → Option Mm} {k45 : Int32 → Int32 → Mm → Option Mm} {v2 : Int32} {v3 : Int32} {v4 : Int32} {M : Mm} (o : cOk X cX12_findFar RX12 (d + 1)) (hL : cL X = 5) (hr : (ch X).sig.returnType = none) (hz : (cs X).heap.size + 0 = cB X + n) (hk0 : K a0 = 12) (hE : cE X n K L r none 0 0) (hk37 : ∀ (v2 : Int32) (M : Mm), k37 v2 M = some r → gW X 0 0 n K L M 37 [(0, va_rf (some a0)), (2, .int v2)] []) (hk45 : ∀ (v2 : Int32) (v3 : Int32) (M : Mm), k45 v2 v3 M = some r → gW X 0 0 n K L M 45 [(0, va_rf (some a0)), (2, .int v2), (3, .int v3)] []) (hd : 3 ≤ d + 1) (h : f_X12_findFar_54 K L fu k37 k45 a0 fu v2 v3 v4 M = some r) : gW X 0 0 n K L M 54 [(0, va_rf (some a0)), (2, .int v2), (3, .int v3), (4, .int v4)] [] := w_X12_findFar_54_n o hL hr hz hk0 hE hk37 hk45 hd fu v2 v3 v4 M h
def f_X12_findFar_45b (K L : Nat → Nat) (fu : Nat) (k37 : Int32 → Mm → Option Mm) (k45 : Int32 → Int32 → Mm → Option Mm) (a0 : Nat) (v2 : Int32) (v3 : Int32) (M : Mm) : Option Mm :=
  if (16 : Int32) ≤ v3 then
    k37 (v2 + 1) M
  else
    f_X12_findFar_54 K L fu k37 k45 a0 fu v2 v3 (0 : Int32) M
def f_X12_findFar_45 (K L : Nat → Nat) (fu : Nat) (k37 : Int32 → Mm → Option Mm) (a0 : Nat) : Nat → Int32 → Int32 → Mm → Option Mm
  | 0, _, _, _ => none
  | g + 1, v2, v3, M => f_X12_findFar_45b K L fu k37 (f_X12_findFar_45 K L fu k37 a0 g) a0 v2 v3 M
set_option maxHeartbeats 4000000 in
theorem w_X12_findFar_45b {X : Cx} {d n : Nat} {K L : Nat → Nat} {fu : Nat} {a0 : Nat} {r : Mm} {k37 : Int32 → Mm → Option Mm} {k45 : Int32 → Int32 → Mm → Option Mm} {v2 : Int32} {v3 : Int32} {M : Mm} (o : cOk X cX12_findFar RX12 (d + 1)) (hL : cL X = 5) (hr : (ch X).sig.returnType = none) (hz : (cs X).heap.size + 0 = cB X + n) (hk0 : K a0 = 12) (hE : cE X n K L r none 0 0) (hk37 : ∀ (v2 : Int32) (M : Mm), k37 v2 M = some r → gW X 0 0 n K L M 37 [(0, va_rf (some a0)), (2, .int v2)] []) (hk45 : ∀ (v2 : Int32) (v3 : Int32) (M : Mm), k45 v2 v3 M = some r → gW X 0 0 n K L M 45 [(0, va_rf (some a0)), (2, .int v2), (3, .int v3)] []) (hd : 3 ≤ d + 1) (h : f_X12_findFar_45b K L fu k37 k45 a0 v2 v3 M = some r) : gW X 0 0 n K L M 45 [(0, va_rf (some a0)), (2, .int v2), (3, .int v3)] [] := by
  unfold f_X12_findFar_45b at h
  refine g_iload_n o dX12_findFar_45 2 rfl ?_
  refine g_bipush (v := (16 : Int32)) o dX12_findFar_46 (by decide) ?_
  refine g_icmp_ge (tgt := 116) o dX12_findFar_48 (by decide) (fun z => ?_) (fun z => ?_)
  · have h := (if_pos z).symm.trans h
    refine g_iinc (i := 2) (v := v2 + 1) (ls' := [(2, .int (v2 + 1)), (0, va_rf (some a0)), (3, .int v3)]) o dX12_findFar_116 1 rfl (by first | rfl | (congr 1)) (ltL hL (by decide)) rfl ?_
    refine g_goto (tgt := 37) o dX12_findFar_119 (by decide) ?_
    refine gsub [1, 0] rfl ?_
    exact hk37 _ _ h
  · have h := (if_neg z).symm.trans h
    refine g_iconst (v := (0 : Int32)) o dX12_findFar_51 (by decide) ?_
    refine g_istore (i := 4) (ls' := [(4, .int (0 : Int32)), (0, va_rf (some a0)), (2, .int v2), (3, .int v3)]) o dX12_findFar_52 (ltL hL (by decide)) rfl ?_
    refine gsub [1, 2, 3, 0] rfl ?_
    exact w_X12_findFar_54 o hL hr hz hk0 hE hk37 hk45 hd h
theorem w_X12_findFar_45_n {X : Cx} {d n : Nat} {K L : Nat → Nat} {fu : Nat} {a0 : Nat} {r : Mm} {k37 : Int32 → Mm → Option Mm} (o : cOk X cX12_findFar RX12 (d + 1)) (hL : cL X = 5) (hr : (ch X).sig.returnType = none) (hz : (cs X).heap.size + 0 = cB X + n) (hk0 : K a0 = 12) (hE : cE X n K L r none 0 0) (hk37 : ∀ (v2 : Int32) (M : Mm), k37 v2 M = some r → gW X 0 0 n K L M 37 [(0, va_rf (some a0)), (2, .int v2)] []) (hd : 3 ≤ d + 1) : ∀ (g : Nat) (v2 : Int32) (v3 : Int32) (M : Mm), f_X12_findFar_45 K L fu k37 a0 g v2 v3 M = some r → gW X 0 0 n K L M 45 [(0, va_rf (some a0)), (2, .int v2), (3, .int v3)] []
  | 0, _, _, _, h => by cases h
  | g + 1, v2, v3, M, h => w_X12_findFar_45b o hL hr hz hk0 hE hk37 (w_X12_findFar_45_n o hL hr hz hk0 hE hk37 hd g) hd h
theorem w_X12_findFar_45 {X : Cx} {d n : Nat} {K L : Nat → Nat} {fu : Nat} {a0 : Nat} {r : Mm} {k37 : Int32 → Mm → Option Mm} {v2 : Int32} {v3 : Int32} {M : Mm} (o : cOk X cX12_findFar RX12 (d + 1)) (hL : cL X = 5) (hr : (ch X).sig.returnType = none) (hz : (cs X).heap.size + 0 = cB X + n) (hk0 : K a0 = 12) (hE : cE X n K L r none 0 0) (hk37 : ∀ (v2 : Int32) (M : Mm), k37 v2 M = some r → gW X 0 0 n K L M 37 [(0, va_rf (some a0)), (2, .int v2)] []) (hd : 3 ≤ d + 1) (h : f_X12_findFar_45 K L fu k37 a0 fu v2 v3 M = some r) : gW X 0 0 n K L M 45 [(0, va_rf (some a0)), (2, .int v2), (3, .int v3)] [] := w_X12_findFar_45_n o hL hr hz hk0 hE hk37 hd fu v2 v3 M h
def f_X12_findFar_37b (K L : Nat → Nat) (fu : Nat) (k37 : Int32 → Mm → Option Mm) (a0 : Nat) (v2 : Int32) (M : Mm) : Option Mm :=
  if (16 : Int32) ≤ v2 then
    some M
  else
    f_X12_findFar_45 K L fu k37 a0 fu v2 (0 : Int32) M
def f_X12_findFar_37 (K L : Nat → Nat) (fu : Nat) (a0 : Nat) : Nat → Int32 → Mm → Option Mm
  | 0, _, _ => none
  | g + 1, v2, M => f_X12_findFar_37b K L fu (f_X12_findFar_37 K L fu a0 g) a0 v2 M
set_option maxHeartbeats 4000000 in
theorem w_X12_findFar_37b {X : Cx} {d n : Nat} {K L : Nat → Nat} {fu : Nat} {a0 : Nat} {r : Mm} {k37 : Int32 → Mm → Option Mm} {v2 : Int32} {M : Mm} (o : cOk X cX12_findFar RX12 (d + 1)) (hL : cL X = 5) (hr : (ch X).sig.returnType = none) (hz : (cs X).heap.size + 0 = cB X + n) (hk0 : K a0 = 12) (hE : cE X n K L r none 0 0) (hk37 : ∀ (v2 : Int32) (M : Mm), k37 v2 M = some r → gW X 0 0 n K L M 37 [(0, va_rf (some a0)), (2, .int v2)] []) (hd : 3 ≤ d + 1) (h : f_X12_findFar_37b K L fu k37 a0 v2 M = some r) : gW X 0 0 n K L M 37 [(0, va_rf (some a0)), (2, .int v2)] [] := by
  unfold f_X12_findFar_37b at h
  refine g_iload_n o dX12_findFar_37 1 rfl ?_
  refine g_bipush (v := (16 : Int32)) o dX12_findFar_38 (by decide) ?_
  refine g_icmp_ge (tgt := 122) o dX12_findFar_40 (by decide) (fun z => ?_) (fun z => ?_)
  · have h := (if_pos z).symm.trans h
    cases h
    exact g_vret o hr hE dX12_findFar_122
  · have h := (if_neg z).symm.trans h
    refine g_iconst (v := (0 : Int32)) o dX12_findFar_43 (by decide) ?_
    refine g_istore_n (i := 3) (ls' := [(3, .int (0 : Int32)), (0, va_rf (some a0)), (2, .int v2)]) o dX12_findFar_44 rfl (ltL hL (by decide)) rfl ?_
    refine gsub [1, 2, 0] rfl ?_
    exact w_X12_findFar_45 o hL hr hz hk0 hE hk37 hd h
theorem w_X12_findFar_37_n {X : Cx} {d n : Nat} {K L : Nat → Nat} {fu : Nat} {a0 : Nat} {r : Mm} (o : cOk X cX12_findFar RX12 (d + 1)) (hL : cL X = 5) (hr : (ch X).sig.returnType = none) (hz : (cs X).heap.size + 0 = cB X + n) (hk0 : K a0 = 12) (hE : cE X n K L r none 0 0) (hd : 3 ≤ d + 1) : ∀ (g : Nat) (v2 : Int32) (M : Mm), f_X12_findFar_37 K L fu a0 g v2 M = some r → gW X 0 0 n K L M 37 [(0, va_rf (some a0)), (2, .int v2)] []
  | 0, _, _, h => by cases h
  | g + 1, v2, M, h => w_X12_findFar_37b o hL hr hz hk0 hE (w_X12_findFar_37_n o hL hr hz hk0 hE hd g) hd h
theorem w_X12_findFar_37 {X : Cx} {d n : Nat} {K L : Nat → Nat} {fu : Nat} {a0 : Nat} {r : Mm} {v2 : Int32} {M : Mm} (o : cOk X cX12_findFar RX12 (d + 1)) (hL : cL X = 5) (hr : (ch X).sig.returnType = none) (hz : (cs X).heap.size + 0 = cB X + n) (hk0 : K a0 = 12) (hE : cE X n K L r none 0 0) (hd : 3 ≤ d + 1) (h : f_X12_findFar_37 K L fu a0 fu v2 M = some r) : gW X 0 0 n K L M 37 [(0, va_rf (some a0)), (2, .int v2)] [] := w_X12_findFar_37_n o hL hr hz hk0 hE hd fu v2 M h
def f_X12_findFar_2b (K L : Nat → Nat) (fu : Nat) (k2 : Int32 → Int32 → Mm → Option Mm) (a0 : Nat) (v1 : Int32) (v2 : Int32) (M : Mm) : Option Mm :=
  if (16 : Int32) ≤ v2 then
    f_X12_findFar_37 K L fu a0 fu (0 : Int32) M
  else
    Option.bind (f_X12_asks K L fu M a0 v2 v1) (fun x1 =>
    if x1 = 0 then
      Option.bind (rx K L (mm_R M (32 * 12 + 14) a0) 13 v2) (fun a3 =>
      bn (ms_A M a3 (upd (mm_A M a3) v2.toNatClampNeg (100 : Int32))) (fun M5 =>
      k2 v1 (v2 + 1) M5))
    else
      Option.bind (rx K L (mm_R M (32 * 12 + 14) a0) 13 v2) (fun a7 =>
      bn (ms_A M a7 (upd (mm_A M a7) v2.toNatClampNeg (1 : Int32))) (fun M9 =>
      k2 v1 (v2 + 1) M9)))
def f_X12_findFar_2 (K L : Nat → Nat) (fu : Nat) (a0 : Nat) : Nat → Int32 → Int32 → Mm → Option Mm
  | 0, _, _, _ => none
  | g + 1, v1, v2, M => f_X12_findFar_2b K L fu (f_X12_findFar_2 K L fu a0 g) a0 v1 v2 M
set_option maxHeartbeats 4000000 in
theorem w_X12_findFar_2b {X : Cx} {d n : Nat} {K L : Nat → Nat} {fu : Nat} {a0 : Nat} {r : Mm} {k2 : Int32 → Int32 → Mm → Option Mm} {v1 : Int32} {v2 : Int32} {M : Mm} (o : cOk X cX12_findFar RX12 (d + 1)) (hL : cL X = 5) (hr : (ch X).sig.returnType = none) (hz : (cs X).heap.size + 0 = cB X + n) (hk0 : K a0 = 12) (hE : cE X n K L r none 0 0) (hk2 : ∀ (v1 : Int32) (v2 : Int32) (M : Mm), k2 v1 v2 M = some r → gW X 0 0 n K L M 2 [(0, va_rf (some a0)), (1, .int v1), (2, .int v2)] []) (hd : 3 ≤ d + 1) (h : f_X12_findFar_2b K L fu k2 a0 v1 v2 M = some r) : gW X 0 0 n K L M 2 [(0, va_rf (some a0)), (1, .int v1), (2, .int v2)] [] := by
  unfold f_X12_findFar_2b at h
  refine g_iload_n o dX12_findFar_2 2 rfl ?_
  refine g_bipush (v := (16 : Int32)) o dX12_findFar_3 (by decide) ?_
  refine g_icmp_ge (tgt := 35) o dX12_findFar_5 (by decide) (fun z => ?_) (fun z => ?_)
  · have h := (if_pos z).symm.trans h
    refine g_iconst (v := (0 : Int32)) o dX12_findFar_35 (by decide) ?_
    refine g_istore_n (i := 2) (ls' := [(2, .int (0 : Int32)), (0, va_rf (some a0)), (1, .int v1)]) o dX12_findFar_36 rfl (ltL hL (by decide)) rfl ?_
    refine gsub [1, 0] rfl ?_
    exact w_X12_findFar_37 o hL hr hz hk0 hE hd h
  · have h := (if_neg z).symm.trans h
    refine g_aload_n o dX12_findFar_8 0 rfl ?_
    refine g_getR o fl_X12_37 (rc_self hk0) (by decide) rfl dX12_findFar_9 ?_
    refine g_iload_n o dX12_findFar_12 2 rfl ?_
    refine g_aload_n o dX12_findFar_13 0 rfl ?_
    refine g_iload_n o dX12_findFar_14 2 rfl ?_
    refine g_iload_n o dX12_findFar_15 1 rfl ?_
    obtain ⟨x1, e2, h⟩ := ob h
    refine g_invV0 o (rc_self hk0) (by decide) ml_X12_143 kb_X12_asks kv_X12_asks rfl (c_X12_asks (cq X) (cD X) (cY X) (cB X) (d := d) (by omega) (rc_at (rc_self hk0)).2 e2) rfl rfl (by simp [cat_i, cat_l, cat_rf]) dX12_findFar_16 ?_
    refine g_if_eq (tgt := 26) o dX12_findFar_19 (by decide) (fun z => ?_) (fun z => ?_)
    · have h := (if_pos z).symm.trans h
      refine g_bipush (v := (100 : Int32)) o dX12_findFar_26 (by decide) ?_
      obtain ⟨a3, e4, h⟩ := ob h
      refine g_iast o hz e4  dX12_findFar_28 ?_
      obtain ⟨M5, e6, h⟩ := bn_at h
      refine g_mem e6 ?_
      refine g_iinc (i := 2) (v := v2 + 1) (ls' := [(2, .int (v2 + 1)), (0, va_rf (some a0)), (1, .int v1)]) o dX12_findFar_29 2 rfl (by first | rfl | (congr 1)) (ltL hL (by decide)) rfl ?_
      refine g_goto (tgt := 2) o dX12_findFar_32 (by decide) ?_
      refine gsub [1, 2, 0] rfl ?_
      exact hk2 _ _ _ h
    · have h := (if_neg z).symm.trans h
      refine g_iconst (v := (1 : Int32)) o dX12_findFar_22 (by decide) ?_
      refine g_goto (tgt := 28) o dX12_findFar_23 (by decide) ?_
      obtain ⟨a7, e8, h⟩ := ob h
      refine g_iast o hz e8  dX12_findFar_28 ?_
      obtain ⟨M9, e10, h⟩ := bn_at h
      refine g_mem e10 ?_
      refine g_iinc (i := 2) (v := v2 + 1) (ls' := [(2, .int (v2 + 1)), (0, va_rf (some a0)), (1, .int v1)]) o dX12_findFar_29 2 rfl (by first | rfl | (congr 1)) (ltL hL (by decide)) rfl ?_
      refine g_goto (tgt := 2) o dX12_findFar_32 (by decide) ?_
      refine gsub [1, 2, 0] rfl ?_
      exact hk2 _ _ _ h
theorem w_X12_findFar_2_n {X : Cx} {d n : Nat} {K L : Nat → Nat} {fu : Nat} {a0 : Nat} {r : Mm} (o : cOk X cX12_findFar RX12 (d + 1)) (hL : cL X = 5) (hr : (ch X).sig.returnType = none) (hz : (cs X).heap.size + 0 = cB X + n) (hk0 : K a0 = 12) (hE : cE X n K L r none 0 0) (hd : 3 ≤ d + 1) : ∀ (g : Nat) (v1 : Int32) (v2 : Int32) (M : Mm), f_X12_findFar_2 K L fu a0 g v1 v2 M = some r → gW X 0 0 n K L M 2 [(0, va_rf (some a0)), (1, .int v1), (2, .int v2)] []
  | 0, _, _, _, h => by cases h
  | g + 1, v1, v2, M, h => w_X12_findFar_2b o hL hr hz hk0 hE (w_X12_findFar_2_n o hL hr hz hk0 hE hd g) hd h
theorem w_X12_findFar_2 {X : Cx} {d n : Nat} {K L : Nat → Nat} {fu : Nat} {a0 : Nat} {r : Mm} {v1 : Int32} {v2 : Int32} {M : Mm} (o : cOk X cX12_findFar RX12 (d + 1)) (hL : cL X = 5) (hr : (ch X).sig.returnType = none) (hz : (cs X).heap.size + 0 = cB X + n) (hk0 : K a0 = 12) (hE : cE X n K L r none 0 0) (hd : 3 ≤ d + 1) (h : f_X12_findFar_2 K L fu a0 fu v1 v2 M = some r) : gW X 0 0 n K L M 2 [(0, va_rf (some a0)), (1, .int v1), (2, .int v2)] [] := w_X12_findFar_2_n o hL hr hz hk0 hE hd fu v1 v2 M h
def f_X12_findFar (K L : Nat → Nat) (fu : Nat) (a0 : Nat) (v1 : Int32) (M : Mm) : Option Mm :=
  f_X12_findFar_2 K L fu a0 fu v1 (0 : Int32) M
set_option maxHeartbeats 4000000 in
theorem w_X12_findFar_0 {X : Cx} {d n : Nat} {K L : Nat → Nat} {fu : Nat} {a0 : Nat} {r : Mm} {v1 : Int32} {M : Mm} (o : cOk X cX12_findFar RX12 (d + 1)) (hL : cL X = 5) (hr : (ch X).sig.returnType = none) (hz : (cs X).heap.size + 0 = cB X + n) (hk0 : K a0 = 12) (hE : cE X n K L r none 0 0) (hd : 3 ≤ d + 1) (h : f_X12_findFar K L fu a0 v1 M = some r) : gW X 0 0 n K L M 0 [(0, va_rf (some a0)), (1, .int v1)] [] := by
  unfold f_X12_findFar at h
  refine g_iconst (v := (0 : Int32)) o dX12_findFar_0 (by decide) ?_
  refine g_istore_n (i := 2) (ls' := [(2, .int (0 : Int32)), (0, va_rf (some a0)), (1, .int v1)]) o dX12_findFar_1 rfl (ltL hL (by decide)) rfl ?_
  refine gsub [1, 2, 0] rfl ?_
  exact w_X12_findFar_2 o hL hr hz hk0 hE hd h
theorem c_X12_findFar (l : Launch) (D : va_G) (Y : Nat → ClassId) (B : Nat) {d : Nat} {n : Nat} {K L : Nat → Nat} {fu : Nat} {M : Mm} {a0 : Nat} {v1 : Int32} {r : Mm} (hd : 3 ≤ d) (hk0 : K a0 = 12) (h : f_X12_findFar K L fu a0 v1 M = some r) : mC l D Y B d yX12_findFar cX12_findFar 5 (none) [va_rf (some a0), .int v1] n K L M n K L r none 0 0 := by
  obtain ⟨d, rfl⟩ : ∃ e, d = e + 1 := ⟨d - 1, by omega⟩
  refine mk_met (by decide) (by simp [lgs_r, lgs_i, lgs_l, lgs_n]) (fun X e1 e2 e3 e4 o hL hr hnm hz hc hs hE => ?_)
  subst e1 e2 e3 e4
  rw [show lv_args 0 [va_rf (some a0), .int v1] = [(0, va_rf (some a0)), (1, .int v1)] by simp [lva_r, lva_i, lva_l, lva_n]]
  exact w_X12_findFar_0 o hL hr hz hk0 hE hd h
def f_X12_nextOn_2b (K L : Nat → Nat) (fu : Nat) (k2 : Int32 → Int32 → Int32 → Option Int32) (M : Mm) (a0 : Nat) (v1 : Int32) (v2 : Int32) (v3 : Int32) : Option Int32 :=
  if (16 : Int32) ≤ v3 then
    some (-1 : Int32)
  else
    Option.bind (rx K L (mm_R M (32 * 12 + 14) a0) 13 v3) (fun a1 =>
    if (mm_A M a1 v3.toNatClampNeg) = v2 then
      Option.bind (f_X12_asks K L fu M a0 v1 v3) (fun x3 =>
      if x3 = 0 then
        k2 v1 v2 (v3 + 1)
      else
        some v3)
    else
      k2 v1 v2 (v3 + 1))
def f_X12_nextOn_2 (K L : Nat → Nat) (fu : Nat) (M : Mm) (a0 : Nat) : Nat → Int32 → Int32 → Int32 → Option Int32
  | 0, _, _, _ => none
  | g + 1, v1, v2, v3 => f_X12_nextOn_2b K L fu (f_X12_nextOn_2 K L fu M a0 g) M a0 v1 v2 v3
set_option maxHeartbeats 4000000 in
theorem w_X12_nextOn_2b {X : Cx} {d n : Nat} {K L : Nat → Nat} {fu : Nat} {M : Mm} {a0 : Nat} {r : Int32} {k2 : Int32 → Int32 → Int32 → Option Int32} {v1 : Int32} {v2 : Int32} {v3 : Int32} (o : cOk X cX12_nextOn RX12 (d + 1)) (hL : cL X = 4) (hr : (ch X).sig.returnType = some .int) (hk0 : K a0 = 12) (hE : cE X n K L M (some (.int r)) 0 0) (hk2 : ∀ (v1 : Int32) (v2 : Int32) (v3 : Int32), k2 v1 v2 v3 = some r → gW X 0 0 n K L M 2 [(0, va_rf (some a0)), (1, .int v1), (2, .int v2), (3, .int v3)] []) (hd : 3 ≤ d + 1) (h : f_X12_nextOn_2b K L fu k2 M a0 v1 v2 v3 = some r) : gW X 0 0 n K L M 2 [(0, va_rf (some a0)), (1, .int v1), (2, .int v2), (3, .int v3)] [] := by
  unfold f_X12_nextOn_2b at h
  refine g_iload_n o dX12_nextOn_2 3 rfl ?_
  refine g_bipush (v := (16 : Int32)) o dX12_nextOn_3 (by decide) ?_
  refine g_icmp_ge (tgt := 35) o dX12_nextOn_5 (by decide) (fun z => ?_) (fun z => ?_)
  · have h := (if_pos z).symm.trans h
    refine g_iconst (v := (-1 : Int32)) o dX12_nextOn_35 (by decide) ?_
    cases h
    exact g_iret o hr hE dX12_nextOn_36
  · have h := (if_neg z).symm.trans h
    refine g_aload_n o dX12_nextOn_8 0 rfl ?_
    refine g_getR o fl_X12_37 (rc_self hk0) (by decide) rfl dX12_nextOn_9 ?_
    refine g_iload_n o dX12_nextOn_12 3 rfl ?_
    obtain ⟨a1, e2, h⟩ := ob h
    refine g_iald o e2 dX12_nextOn_13 ?_
    refine g_iload_n o dX12_nextOn_14 2 rfl ?_
    refine g_icmp_ne (tgt := 29) o dX12_nextOn_15 (by decide) (fun z => ?_) (fun z => ?_)
    · have h := (if_neg z).symm.trans h
      refine g_iinc (i := 3) (v := v3 + 1) (ls' := [(3, .int (v3 + 1)), (0, va_rf (some a0)), (1, .int v1), (2, .int v2)]) o dX12_nextOn_29 3 rfl (by first | rfl | (congr 1)) (ltL hL (by decide)) rfl ?_
      refine g_goto (tgt := 2) o dX12_nextOn_32 (by decide) ?_
      refine gsub [1, 2, 3, 0] rfl ?_
      exact hk2 _ _ _ h
    · have h := (if_pos z).symm.trans h
      refine g_aload_n o dX12_nextOn_18 0 rfl ?_
      refine g_iload_n o dX12_nextOn_19 1 rfl ?_
      refine g_iload_n o dX12_nextOn_20 3 rfl ?_
      obtain ⟨x3, e4, h⟩ := ob h
      refine g_invV0 o (rc_self hk0) (by decide) ml_X12_143 kb_X12_asks kv_X12_asks rfl (c_X12_asks (cq X) (cD X) (cY X) (cB X) (d := d) (by omega) (rc_at (rc_self hk0)).2 e4) rfl rfl (by simp [cat_i, cat_l, cat_rf]) dX12_nextOn_21 ?_
      refine g_if_eq (tgt := 29) o dX12_nextOn_24 (by decide) (fun z => ?_) (fun z => ?_)
      · have h := (if_pos z).symm.trans h
        refine g_iinc (i := 3) (v := v3 + 1) (ls' := [(3, .int (v3 + 1)), (0, va_rf (some a0)), (1, .int v1), (2, .int v2)]) o dX12_nextOn_29 3 rfl (by first | rfl | (congr 1)) (ltL hL (by decide)) rfl ?_
        refine g_goto (tgt := 2) o dX12_nextOn_32 (by decide) ?_
        refine gsub [1, 2, 3, 0] rfl ?_
        exact hk2 _ _ _ h
      · have h := (if_neg z).symm.trans h
        refine g_iload_n o dX12_nextOn_27 3 rfl ?_
        cases h
        exact g_iret o hr hE dX12_nextOn_28
theorem w_X12_nextOn_2_n {X : Cx} {d n : Nat} {K L : Nat → Nat} {fu : Nat} {M : Mm} {a0 : Nat} {r : Int32} (o : cOk X cX12_nextOn RX12 (d + 1)) (hL : cL X = 4) (hr : (ch X).sig.returnType = some .int) (hk0 : K a0 = 12) (hE : cE X n K L M (some (.int r)) 0 0) (hd : 3 ≤ d + 1) : ∀ (g : Nat) (v1 : Int32) (v2 : Int32) (v3 : Int32), f_X12_nextOn_2 K L fu M a0 g v1 v2 v3 = some r → gW X 0 0 n K L M 2 [(0, va_rf (some a0)), (1, .int v1), (2, .int v2), (3, .int v3)] []
  | 0, _, _, _, h => by cases h
  | g + 1, v1, v2, v3, h => w_X12_nextOn_2b o hL hr hk0 hE (w_X12_nextOn_2_n o hL hr hk0 hE hd g) hd h
theorem w_X12_nextOn_2 {X : Cx} {d n : Nat} {K L : Nat → Nat} {fu : Nat} {M : Mm} {a0 : Nat} {r : Int32} {v1 : Int32} {v2 : Int32} {v3 : Int32} (o : cOk X cX12_nextOn RX12 (d + 1)) (hL : cL X = 4) (hr : (ch X).sig.returnType = some .int) (hk0 : K a0 = 12) (hE : cE X n K L M (some (.int r)) 0 0) (hd : 3 ≤ d + 1) (h : f_X12_nextOn_2 K L fu M a0 fu v1 v2 v3 = some r) : gW X 0 0 n K L M 2 [(0, va_rf (some a0)), (1, .int v1), (2, .int v2), (3, .int v3)] [] := w_X12_nextOn_2_n o hL hr hk0 hE hd fu v1 v2 v3 h
def f_X12_nextOn (K L : Nat → Nat) (fu : Nat) (M : Mm) (a0 : Nat) (v1 : Int32) (v2 : Int32) : Option Int32 :=
  f_X12_nextOn_2 K L fu M a0 fu v1 v2 (0 : Int32)
set_option maxHeartbeats 4000000 in
theorem w_X12_nextOn_0 {X : Cx} {d n : Nat} {K L : Nat → Nat} {fu : Nat} {M : Mm} {a0 : Nat} {r : Int32} {v1 : Int32} {v2 : Int32} (o : cOk X cX12_nextOn RX12 (d + 1)) (hL : cL X = 4) (hr : (ch X).sig.returnType = some .int) (hk0 : K a0 = 12) (hE : cE X n K L M (some (.int r)) 0 0) (hd : 3 ≤ d + 1) (h : f_X12_nextOn K L fu M a0 v1 v2 = some r) : gW X 0 0 n K L M 0 [(0, va_rf (some a0)), (1, .int v1), (2, .int v2)] [] := by
  unfold f_X12_nextOn at h
  refine g_iconst (v := (0 : Int32)) o dX12_nextOn_0 (by decide) ?_
  refine g_istore_n (i := 3) (ls' := [(3, .int (0 : Int32)), (0, va_rf (some a0)), (1, .int v1), (2, .int v2)]) o dX12_nextOn_1 rfl (ltL hL (by decide)) rfl ?_
  refine gsub [1, 2, 3, 0] rfl ?_
  exact w_X12_nextOn_2 o hL hr hk0 hE hd h
theorem c_X12_nextOn (l : Launch) (D : va_G) (Y : Nat → ClassId) (B : Nat) {d : Nat} {n : Nat} {K L : Nat → Nat} {fu : Nat} {M : Mm} {a0 : Nat} {v1 : Int32} {v2 : Int32} {r : Int32} (hd : 3 ≤ d) (hk0 : K a0 = 12) (h : f_X12_nextOn K L fu M a0 v1 v2 = some r) : mC l D Y B d yX12_nextOn cX12_nextOn 4 (some .int) [va_rf (some a0), .int v1, .int v2] n K L M n K L M (some (.int r)) 0 0 := by
  obtain ⟨d, rfl⟩ : ∃ e, d = e + 1 := ⟨d - 1, by omega⟩
  refine mk_met (by decide) (by simp [lgs_r, lgs_i, lgs_l, lgs_n]) (fun X e1 e2 e3 e4 o hL hr hnm hz hc hs hE => ?_)
  subst e1 e2 e3 e4
  rw [show lv_args 0 [va_rf (some a0), .int v1, .int v2] = [(0, va_rf (some a0)), (1, .int v1), (2, .int v2)] by simp [lva_r, lva_i, lva_l, lva_n]]
  exact w_X12_nextOn_0 o hL hr hk0 hE hd h
