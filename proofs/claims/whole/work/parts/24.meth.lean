/-! methods: X11_grow X11_back X11_stands X11_budget X11_waits X11_isCountedAt X11_count X11_goods X11_counts X11_told X11_left X11_trial X11_look X11_trialTold X11_crowdFault X11_among -/
def f_X11_grow (K L : Nat → Nat) (fu : Nat) (a0 : Nat) (v1 : Int32) (v2 : Int32) (M : Mm) : Option (Int32 × Mm) :=
  Option.bind (f_X11_within v2 (239 : Int32)) (fun x1 =>
  if x1 = 0 then
    Option.bind (f_X11_refuse K L a0 (-3 : Int32) M) (fun x23 =>
    some (x23.1, x23.2))
  else
    Option.bind (rc K (mm_R M (32 * 11 + 0) a0) 8) (fun a3 =>
    Option.bind (f_X8_find K L M a3 v1 (6 : Int32)) (fun x5 =>
    if x5 = none then
      Option.bind (f_X11_refuseAt K L a0 v1 (6 : Int32) M) (fun x21 =>
      some (x21.1, x21.2))
    else
      Option.bind (rc K x5 9) (fun a7 =>
      Option.bind (f_X9_growFault K L fu M a7 v2) (fun x9 =>
      if x9 = 0 then
        Option.bind (rc K (mm_R M (32 * 9 + 9) a7) 3) (fun a11 =>
        Option.bind (f_X9_standOn K L a7 ((mm_I M (32 * 3 + 2) a11) + (1 : Int32)) M) (fun x13 =>
        Option.bind (rc K (mm_R x13 (32 * 9 + 4) a7) 7) (fun a15 =>
        Option.bind (f_X7_sizeOf K L x13 a15 (1 : Int32)) (fun x17 =>
        some (x17, x13)))))
      else
        Option.bind (f_X11_refuse K L a0 x9 M) (fun x19 =>
        some (x19.1, x19.2)))))))
set_option maxHeartbeats 4000000 in
theorem w_X11_grow_0 {X : Cx} {d n : Nat} {K L : Nat → Nat} {fu : Nat} {a0 : Nat} {r : (Int32 × Mm)} {v1 : Int32} {v2 : Int32} {M : Mm} (o : cOk X cX11_grow RX11 (d + 1)) (hL : cL X = 5) (hr : (ch X).sig.returnType = some .int) (hz : (cs X).heap.size + 0 = cB X + n) (hk0 : K a0 = 11) (hE : cE X n K L r.2 (some (.int r.1)) 0 0) (hd : 5 ≤ d + 1) (h : f_X11_grow K L fu a0 v1 v2 M = some r) : gW X 0 0 n K L M 0 [(0, va_rf (some a0)), (1, .int v1), (2, .int v2)] [] := by
  unfold f_X11_grow at h
  refine g_iload_n o dX11_grow_0 2 rfl ?_
  refine g_sipush (v := (239 : Int32)) o dX11_grow_1 (by decide) ?_
  obtain ⟨x1, e2, h⟩ := ob h
  refine g_invS0 o ml_X11_42 kb_X11_within ks_X11_within (c_X11_within (cq X) (cD X) (cY X) (cB X) (d := d) (by omega) e2) rfl rfl (by simp [cat_i, cat_l, cat_rf]) dX11_grow_4 ?_
  refine g_if_ne (tgt := 17) o dX11_grow_7 (by decide) (fun z => ?_) (fun z => ?_)
  · have h := (if_neg z).symm.trans h
    refine g_aload_n o dX11_grow_17 0 rfl ?_
    refine g_getR o fl_X11_10 (rc_self hk0) (by decide) rfl dX11_grow_18 ?_
    refine g_iload_n o dX11_grow_21 1 rfl ?_
    refine g_bipush (v := (6 : Int32)) o dX11_grow_22 (by decide) ?_
    obtain ⟨a3, e4, h⟩ := ob h
    obtain ⟨x5, e6, h⟩ := ob h
    refine g_invV0 o e4 (by decide) ml_X11_54 kb_X8_find kv_X8_find rfl (c_X8_find (cq X) (cD X) (cY X) (cB X) (d := d) (by omega) (rc_at e4).2 e6) rfl rfl (by simp [cat_i, cat_l, cat_rf]) dX11_grow_24 ?_
    refine g_astore_n (i := 3) (ls' := [(3, va_rf x5), (0, va_rf (some a0)), (1, .int v1), (2, .int v2)]) o dX11_grow_27 rfl (ltL hL (by decide)) rfl ?_
    refine g_aload_n o dX11_grow_28 0 rfl ?_
    refine g_ifnonnull (tgt := 40) o dX11_grow_29 (by decide) (fun z => ?_) (fun z => ?_)
    · have h := (if_neg z).symm.trans h
      refine g_aload_n o dX11_grow_40 0 rfl ?_
      refine g_iload_n o dX11_grow_41 3 rfl ?_
      obtain ⟨a7, e8, h⟩ := ob h
      obtain ⟨x9, e10, h⟩ := ob h
      refine g_invV0 o e8 (by decide) ml_X11_231 kb_X9_growFault kv_X9_growFault rfl (c_X9_growFault (cq X) (cD X) (cY X) (cB X) (d := d) (by omega) (rc_at e8).2 e10) rfl rfl (by simp [cat_i, cat_l, cat_rf]) dX11_grow_42 ?_
      refine g_istore (i := 4) (ls' := [(4, .int x9), (3, va_rf x5), (0, va_rf (some a0)), (1, .int v1), (2, .int v2)]) o dX11_grow_45 (ltL hL (by decide)) (by simp [cat_rf]) ?_
      refine g_iload o dX11_grow_47 0 rfl ?_
      refine g_if_eq (tgt := 59) o dX11_grow_49 (by decide) (fun z => ?_) (fun z => ?_)
      · have h := (if_pos z).symm.trans h
        refine g_aload_n o dX11_grow_59 1 rfl ?_
        refine g_aload_n o dX11_grow_60 1 rfl ?_
        refine g_getR o fl_X11_142 e8 (by decide) rfl dX11_grow_61 ?_
        obtain ⟨a11, e12, h⟩ := ob h
        refine g_getI o fl_X11_211 e12 (by decide) rfl dX11_grow_64 ?_
        refine g_iconst (v := (1 : Int32)) o dX11_grow_67 (by decide) ?_
        refine g_iadd o dX11_grow_68 ?_
        obtain ⟨x13, e14, h⟩ := ob h
        refine g_invV0 o e8 (by decide) ml_X11_234 kb_X9_standOn kv_X9_standOn rfl (c_X9_standOn (cq X) (cD X) (cY X) (cB X) (d := d) (by omega) (rc_at e8).2 e14) rfl rfl (by simp [cat_i, cat_l, cat_rf]) dX11_grow_69 ?_
        refine g_aload_n o dX11_grow_72 1 rfl ?_
        refine g_getR o fl_X11_151 e8 (by decide) rfl dX11_grow_73 ?_
        refine g_iconst (v := (1 : Int32)) o dX11_grow_76 (by decide) ?_
        obtain ⟨a15, e16, h⟩ := ob h
        obtain ⟨x17, e18, h⟩ := ob h
        refine g_invV0 o e16 (by decide) ml_X11_161 kb_X7_sizeOf kv_X7_sizeOf rfl (c_X7_sizeOf (cq X) (cD X) (cY X) (cB X) (d := d) (by omega) (rc_at e16).2 e18) rfl rfl (by simp [cat_i, cat_l, cat_rf]) dX11_grow_77 ?_
        cases h
        exact g_iret o hr hE dX11_grow_80
      · have h := (if_neg z).symm.trans h
        refine g_aload_n o dX11_grow_52 2 rfl ?_
        refine g_iload o dX11_grow_53 0 rfl ?_
        obtain ⟨x19, e20, h⟩ := ob h
        refine g_invV0 o (rc_self hk0) (by decide) ml_X11_46 kb_X11_refuse kv_X11_refuse rfl (c_X11_refuse (cq X) (cD X) (cY X) (cB X) (d := d) (by omega) (rc_at (rc_self hk0)).2 e20) rfl rfl (by simp [cat_i, cat_l, cat_rf]) dX11_grow_55 ?_
        cases h
        exact g_iret o hr hE dX11_grow_58
    · have h := (if_pos z).symm.trans h
      refine g_aload_n o dX11_grow_32 1 rfl ?_
      refine g_iload_n o dX11_grow_33 2 rfl ?_
      refine g_bipush (v := (6 : Int32)) o dX11_grow_34 (by decide) ?_
      obtain ⟨x21, e22, h⟩ := ob h
      refine g_invV0 o (rc_self hk0) (by decide) ml_X11_58 kb_X11_refuseAt kv_X11_refuseAt rfl (c_X11_refuseAt (cq X) (cD X) (cY X) (cB X) (d := d) (by omega) (rc_at (rc_self hk0)).2 e22) rfl rfl (by simp [cat_i, cat_l, cat_rf]) dX11_grow_36 ?_
      cases h
      exact g_iret o hr hE dX11_grow_39
  · have h := (if_pos z).symm.trans h
    refine g_aload_n o dX11_grow_10 0 rfl ?_
    refine g_bipush (v := (-3 : Int32)) o dX11_grow_11 (by decide) ?_
    obtain ⟨x23, e24, h⟩ := ob h
    refine g_invV0 o (rc_self hk0) (by decide) ml_X11_46 kb_X11_refuse kv_X11_refuse rfl (c_X11_refuse (cq X) (cD X) (cY X) (cB X) (d := d) (by omega) (rc_at (rc_self hk0)).2 e24) rfl rfl (by simp [cat_i, cat_l, cat_rf]) dX11_grow_13 ?_
    cases h
    exact g_iret o hr hE dX11_grow_16
theorem c_X11_grow (l : Launch) (D : va_G) (Y : Nat → ClassId) (B : Nat) {d : Nat} {n : Nat} {K L : Nat → Nat} {fu : Nat} {M : Mm} {a0 : Nat} {v1 : Int32} {v2 : Int32} {r : (Int32 × Mm)} (hd : 5 ≤ d) (hk0 : K a0 = 11) (h : f_X11_grow K L fu a0 v1 v2 M = some r) : mC l D Y B d yX11_grow cX11_grow 5 (some .int) [va_rf (some a0), .int v1, .int v2] n K L M n K L r.2 (some (.int r.1)) 0 0 := by
  obtain ⟨d, rfl⟩ : ∃ e, d = e + 1 := ⟨d - 1, by omega⟩
  refine mk_met (by decide) (by simp [lgs_r, lgs_i, lgs_l, lgs_n]) (fun X e1 e2 e3 e4 o hL hr hnm hz hc hs hE => ?_)
  subst e1 e2 e3 e4
  rw [show lv_args 0 [va_rf (some a0), .int v1, .int v2] = [(0, va_rf (some a0)), (1, .int v1), (2, .int v2)] by simp [lva_r, lva_i, lva_l, lva_n]]
  exact w_X11_grow_0 o hL hr hz hk0 hE hd h
def f_X11_back_50 (K L : Nat → Nat) (a0 : Nat) (v2 : (Option Nat)) (M : Mm) : Option (Int32 × Mm) :=
  Option.bind (rc K v2 9) (fun a1 =>
  Option.bind (rc K (mm_R M (32 * 9 + 9) a1) 3) (fun a3 =>
  Option.bind (f_X3_isStoodOn K L M a3) (fun x5 =>
  if x5 = 0 then
    Option.bind (f_X11_refuse K L a0 (-12 : Int32) M) (fun x13 =>
    some (x13.1, x13.2))
  else
    Option.bind (f_X9_standOn K L a1 ((mm_I M (32 * 3 + 2) a3) - (1 : Int32)) M) (fun x7 =>
    Option.bind (rc K (mm_R x7 (32 * 9 + 4) a1) 7) (fun a9 =>
    Option.bind (f_X7_sizeOf K L x7 a9 (1 : Int32)) (fun x11 =>
    some (x11, x7)))))))
set_option maxHeartbeats 4000000 in
theorem w_X11_back_50 {X : Cx} {d n : Nat} {K L : Nat → Nat} {a0 : Nat} {r : (Int32 × Mm)} {v2 : (Option Nat)} {M : Mm} (o : cOk X cX11_back RX11 (d + 1)) (hL : cL X = 3) (hr : (ch X).sig.returnType = some .int) (hz : (cs X).heap.size + 0 = cB X + n) (hk0 : K a0 = 11) (hE : cE X n K L r.2 (some (.int r.1)) 0 0) (hd : 4 ≤ d + 1) (h : f_X11_back_50 K L a0 v2 M = some r) : gW X 0 0 n K L M 50 [(0, va_rf (some a0)), (2, va_rf v2)] [] := by
  unfold f_X11_back_50 at h
  refine g_aload_n o dX11_back_50 1 rfl ?_
  obtain ⟨a1, e2, h⟩ := ob h
  refine g_getR o fl_X11_142 e2 (by decide) rfl dX11_back_51 ?_
  obtain ⟨a3, e4, h⟩ := ob h
  obtain ⟨x5, e6, h⟩ := ob h
  refine g_invV0 o e4 (by decide) ml_X11_146 kb_X3_isStoodOn kv_X3_isStoodOn rfl (c_X3_isStoodOn (cq X) (cD X) (cY X) (cB X) (d := d) (by omega) (rc_at e4).2 e6) rfl rfl (by simp [cat_i, cat_l, cat_rf]) dX11_back_54 ?_
  refine g_if_ne (tgt := 67) o dX11_back_57 (by decide) (fun z => ?_) (fun z => ?_)
  · have h := (if_neg z).symm.trans h
    refine g_aload_n o dX11_back_67 1 rfl ?_
    refine g_aload_n o dX11_back_68 1 rfl ?_
    refine g_getR o fl_X11_142 e2 (by decide) rfl dX11_back_69 ?_
    refine g_getI o fl_X11_211 e4 (by decide) rfl dX11_back_72 ?_
    refine g_iconst (v := (1 : Int32)) o dX11_back_75 (by decide) ?_
    refine g_isub o dX11_back_76 ?_
    obtain ⟨x7, e8, h⟩ := ob h
    refine g_invV0 o e2 (by decide) ml_X11_234 kb_X9_standOn kv_X9_standOn rfl (c_X9_standOn (cq X) (cD X) (cY X) (cB X) (d := d) (by omega) (rc_at e2).2 e8) rfl rfl (by simp [cat_i, cat_l, cat_rf]) dX11_back_77 ?_
    refine g_aload_n o dX11_back_80 1 rfl ?_
    refine g_getR o fl_X11_151 e2 (by decide) rfl dX11_back_81 ?_
    refine g_iconst (v := (1 : Int32)) o dX11_back_84 (by decide) ?_
    obtain ⟨a9, e10, h⟩ := ob h
    obtain ⟨x11, e12, h⟩ := ob h
    refine g_invV0 o e10 (by decide) ml_X11_161 kb_X7_sizeOf kv_X7_sizeOf rfl (c_X7_sizeOf (cq X) (cD X) (cY X) (cB X) (d := d) (by omega) (rc_at e10).2 e12) rfl rfl (by simp [cat_i, cat_l, cat_rf]) dX11_back_85 ?_
    cases h
    exact g_iret o hr hE dX11_back_88
  · have h := (if_pos z).symm.trans h
    refine g_aload_n o dX11_back_60 0 rfl ?_
    refine g_bipush (v := (-12 : Int32)) o dX11_back_61 (by decide) ?_
    obtain ⟨x13, e14, h⟩ := ob h
    refine g_invV0 o (rc_self hk0) (by decide) ml_X11_46 kb_X11_refuse kv_X11_refuse rfl (c_X11_refuse (cq X) (cD X) (cY X) (cB X) (d := d) (by omega) (rc_at (rc_self hk0)).2 e14) rfl rfl (by simp [cat_i, cat_l, cat_rf]) dX11_back_63 ?_
    cases h
    exact g_iret o hr hE dX11_back_66
def f_X11_back (K L : Nat → Nat) (a0 : Nat) (v1 : Int32) (M : Mm) : Option (Int32 × Mm) :=
  Option.bind (rc K (mm_R M (32 * 11 + 0) a0) 8) (fun a1 =>
  Option.bind (f_X8_find K L M a1 v1 (6 : Int32)) (fun x3 =>
  if x3 = none then
    Option.bind (f_X11_refuseAt K L a0 v1 (6 : Int32) M) (fun x13 =>
    some (x13.1, x13.2))
  else
    Option.bind (rc K x3 9) (fun a5 =>
    Option.bind (rc K (mm_R M (32 * 9 + 9) a5) 3) (fun a7 =>
    if (mm_I M (32 * 3 + 2) a7) ≤ 0 then
      f_X11_back_50 K L a0 x3 M
    else
      Option.bind (f_X3_hasRow K L M a7) (fun x9 =>
      if x9 = 0 then
        Option.bind (f_X11_refuse K L a0 (-2 : Int32) M) (fun x11 =>
        some (x11.1, x11.2))
      else
        f_X11_back_50 K L a0 x3 M)))))
set_option maxHeartbeats 4000000 in
theorem w_X11_back_0 {X : Cx} {d n : Nat} {K L : Nat → Nat} {a0 : Nat} {r : (Int32 × Mm)} {v1 : Int32} {M : Mm} (o : cOk X cX11_back RX11 (d + 1)) (hL : cL X = 3) (hr : (ch X).sig.returnType = some .int) (hz : (cs X).heap.size + 0 = cB X + n) (hk0 : K a0 = 11) (hE : cE X n K L r.2 (some (.int r.1)) 0 0) (hd : 4 ≤ d + 1) (h : f_X11_back K L a0 v1 M = some r) : gW X 0 0 n K L M 0 [(0, va_rf (some a0)), (1, .int v1)] [] := by
  unfold f_X11_back at h
  refine g_aload_n o dX11_back_0 0 rfl ?_
  refine g_getR o fl_X11_10 (rc_self hk0) (by decide) rfl dX11_back_1 ?_
  refine g_iload_n o dX11_back_4 1 rfl ?_
  refine g_bipush (v := (6 : Int32)) o dX11_back_5 (by decide) ?_
  obtain ⟨a1, e2, h⟩ := ob h
  obtain ⟨x3, e4, h⟩ := ob h
  refine g_invV0 o e2 (by decide) ml_X11_54 kb_X8_find kv_X8_find rfl (c_X8_find (cq X) (cD X) (cY X) (cB X) (d := d) (by omega) (rc_at e2).2 e4) rfl rfl (by simp [cat_i, cat_l, cat_rf]) dX11_back_7 ?_
  refine g_astore_n (i := 2) (ls' := [(2, va_rf x3), (0, va_rf (some a0)), (1, .int v1)]) o dX11_back_10 rfl (ltL hL (by decide)) rfl ?_
  refine g_aload_n o dX11_back_11 0 rfl ?_
  refine g_ifnonnull (tgt := 23) o dX11_back_12 (by decide) (fun z => ?_) (fun z => ?_)
  · have h := (if_neg z).symm.trans h
    refine g_aload_n o dX11_back_23 0 rfl ?_
    obtain ⟨a5, e6, h⟩ := ob h
    refine g_getR o fl_X11_142 e6 (by decide) rfl dX11_back_24 ?_
    obtain ⟨a7, e8, h⟩ := ob h
    refine g_getI o fl_X11_211 e8 (by decide) rfl dX11_back_27 ?_
    refine g_if_le (tgt := 50) o dX11_back_30 (by decide) (fun z => ?_) (fun z => ?_)
    · have h := (if_pos z).symm.trans h
      refine gsub [1, 0] rfl ?_
      exact w_X11_back_50 o hL hr hz hk0 hE hd h
    · have h := (if_neg z).symm.trans h
      refine g_aload_n o dX11_back_33 0 rfl ?_
      refine g_getR o fl_X11_142 e6 (by decide) rfl dX11_back_34 ?_
      obtain ⟨x9, e10, h⟩ := ob h
      refine g_invV0 o e8 (by decide) ml_X11_205 kb_X3_hasRow kv_X3_hasRow rfl (c_X3_hasRow (cq X) (cD X) (cY X) (cB X) (d := d) (by omega) (rc_at e8).2 e10) rfl rfl (by simp [cat_i, cat_l, cat_rf]) dX11_back_37 ?_
      refine g_if_ne (tgt := 50) o dX11_back_40 (by decide) (fun z => ?_) (fun z => ?_)
      · have h := (if_neg z).symm.trans h
        refine gsub [1, 0] rfl ?_
        exact w_X11_back_50 o hL hr hz hk0 hE hd h
      · have h := (if_pos z).symm.trans h
        refine g_aload_n o dX11_back_43 1 rfl ?_
        refine g_bipush (v := (-2 : Int32)) o dX11_back_44 (by decide) ?_
        obtain ⟨x11, e12, h⟩ := ob h
        refine g_invV0 o (rc_self hk0) (by decide) ml_X11_46 kb_X11_refuse kv_X11_refuse rfl (c_X11_refuse (cq X) (cD X) (cY X) (cB X) (d := d) (by omega) (rc_at (rc_self hk0)).2 e12) rfl rfl (by simp [cat_i, cat_l, cat_rf]) dX11_back_46 ?_
        cases h
        exact g_iret o hr hE dX11_back_49
  · have h := (if_pos z).symm.trans h
    refine g_aload_n o dX11_back_15 1 rfl ?_
    refine g_iload_n o dX11_back_16 2 rfl ?_
    refine g_bipush (v := (6 : Int32)) o dX11_back_17 (by decide) ?_
    obtain ⟨x13, e14, h⟩ := ob h
    refine g_invV0 o (rc_self hk0) (by decide) ml_X11_58 kb_X11_refuseAt kv_X11_refuseAt rfl (c_X11_refuseAt (cq X) (cD X) (cY X) (cB X) (d := d) (by omega) (rc_at (rc_self hk0)).2 e14) rfl rfl (by simp [cat_i, cat_l, cat_rf]) dX11_back_19 ?_
    cases h
    exact g_iret o hr hE dX11_back_22
theorem c_X11_back (l : Launch) (D : va_G) (Y : Nat → ClassId) (B : Nat) {d : Nat} {n : Nat} {K L : Nat → Nat} {M : Mm} {a0 : Nat} {v1 : Int32} {r : (Int32 × Mm)} (hd : 4 ≤ d) (hk0 : K a0 = 11) (h : f_X11_back K L a0 v1 M = some r) : mC l D Y B d yX11_back cX11_back 3 (some .int) [va_rf (some a0), .int v1] n K L M n K L r.2 (some (.int r.1)) 0 0 := by
  obtain ⟨d, rfl⟩ : ∃ e, d = e + 1 := ⟨d - 1, by omega⟩
  refine mk_met (by decide) (by simp [lgs_r, lgs_i, lgs_l, lgs_n]) (fun X e1 e2 e3 e4 o hL hr hnm hz hc hs hE => ?_)
  subst e1 e2 e3 e4
  rw [show lv_args 0 [va_rf (some a0), .int v1] = [(0, va_rf (some a0)), (1, .int v1)] by simp [lva_r, lva_i, lva_l, lva_n]]
  exact w_X11_back_0 o hL hr hz hk0 hE hd h
def f_X11_stands (K L : Nat → Nat) (a0 : Nat) (v1 : Int32) (v2 : Int32) (M : Mm) : Option (Int32 × Mm) :=
  Option.bind (rc K (mm_R M (32 * 11 + 0) a0) 8) (fun a1 =>
  Option.bind (f_X8_find K L M a1 v1 (6 : Int32)) (fun x3 =>
  if x3 = none then
    Option.bind (f_X11_refuseAt K L a0 v1 (6 : Int32) M) (fun x23 =>
    some (x23.1, x23.2))
  else
    if v2 = (0 : Int32) then
      Option.bind (rc K x3 9) (fun a5 =>
      Option.bind (rc K (mm_R M (32 * 9 + 9) a5) 3) (fun a7 =>
      some (mm_I M (32 * 3 + 2) a7, M)))
    else
      if v2 = (1 : Int32) then
        Option.bind (rc K x3 9) (fun a9 =>
        Option.bind (rc K (mm_R M (32 * 9 + 9) a9) 3) (fun a11 =>
        some (mm_I M (32 * 3 + 1) a11, M)))
      else
        if v2 = (2 : Int32) then
          Option.bind (rc K x3 9) (fun a13 =>
          Option.bind (rc K (mm_R M (32 * 9 + 10) a13) 0) (fun a15 =>
          some (mm_I M (32 * 0 + 5) a15, M)))
        else
          if v2 = (3 : Int32) then
            Option.bind (rc K x3 9) (fun a17 =>
            Option.bind (rc K (mm_R M (32 * 9 + 10) a17) 0) (fun a19 =>
            some (mm_I M (32 * 0 + 6) a19, M)))
          else
            Option.bind (f_X11_refuse K L a0 (-12 : Int32) M) (fun x21 =>
            some (x21.1, x21.2))))
set_option maxHeartbeats 4000000 in
theorem w_X11_stands_0 {X : Cx} {d n : Nat} {K L : Nat → Nat} {a0 : Nat} {r : (Int32 × Mm)} {v1 : Int32} {v2 : Int32} {M : Mm} (o : cOk X cX11_stands RX11 (d + 1)) (hL : cL X = 4) (hr : (ch X).sig.returnType = some .int) (hz : (cs X).heap.size + 0 = cB X + n) (hk0 : K a0 = 11) (hE : cE X n K L r.2 (some (.int r.1)) 0 0) (hd : 4 ≤ d + 1) (h : f_X11_stands K L a0 v1 v2 M = some r) : gW X 0 0 n K L M 0 [(0, va_rf (some a0)), (1, .int v1), (2, .int v2)] [] := by
  unfold f_X11_stands at h
  refine g_aload_n o dX11_stands_0 0 rfl ?_
  refine g_getR o fl_X11_10 (rc_self hk0) (by decide) rfl dX11_stands_1 ?_
  refine g_iload_n o dX11_stands_4 1 rfl ?_
  refine g_bipush (v := (6 : Int32)) o dX11_stands_5 (by decide) ?_
  obtain ⟨a1, e2, h⟩ := ob h
  obtain ⟨x3, e4, h⟩ := ob h
  refine g_invV0 o e2 (by decide) ml_X11_54 kb_X8_find kv_X8_find rfl (c_X8_find (cq X) (cD X) (cY X) (cB X) (d := d) (by omega) (rc_at e2).2 e4) rfl rfl (by simp [cat_i, cat_l, cat_rf]) dX11_stands_7 ?_
  refine g_astore_n (i := 3) (ls' := [(3, va_rf x3), (0, va_rf (some a0)), (1, .int v1), (2, .int v2)]) o dX11_stands_10 rfl (ltL hL (by decide)) rfl ?_
  refine g_aload_n o dX11_stands_11 0 rfl ?_
  refine g_ifnonnull (tgt := 23) o dX11_stands_12 (by decide) (fun z => ?_) (fun z => ?_)
  · have h := (if_neg z).symm.trans h
    refine g_iload_n o dX11_stands_23 3 rfl ?_
    by_cases z0 : v2 = (0 : Int32)
    · have h := (if_pos z0).symm.trans h
      refine g_tableIn (tgt := 56) o dX11_stands_24 (by rw [z0]; decide) (by rw [z0]; decide) (by first | (rw [z0]; done) | (rw [z0]; rfl)) (by decide) ?_
      refine g_aload_n o dX11_stands_56 0 rfl ?_
      obtain ⟨a5, e6, h⟩ := ob h
      refine g_getR o fl_X11_142 e6 (by decide) rfl dX11_stands_57 ?_
      obtain ⟨a7, e8, h⟩ := ob h
      refine g_getI o fl_X11_211 e8 (by decide) rfl dX11_stands_60 ?_
      cases h
      exact g_iret o hr hE dX11_stands_63
    · have h := (if_neg z0).symm.trans h
      by_cases z1 : v2 = (1 : Int32)
      · have h := (if_pos z1).symm.trans h
        refine g_tableIn (tgt := 64) o dX11_stands_24 (by rw [z1]; decide) (by rw [z1]; decide) (by first | (rw [z1]; done) | (rw [z1]; rfl)) (by decide) ?_
        refine g_aload_n o dX11_stands_64 0 rfl ?_
        obtain ⟨a9, e10, h⟩ := ob h
        refine g_getR o fl_X11_142 e10 (by decide) rfl dX11_stands_65 ?_
        obtain ⟨a11, e12, h⟩ := ob h
        refine g_getI o fl_X11_237 e12 (by decide) rfl dX11_stands_68 ?_
        cases h
        exact g_iret o hr hE dX11_stands_71
      · have h := (if_neg z1).symm.trans h
        by_cases z2 : v2 = (2 : Int32)
        · have h := (if_pos z2).symm.trans h
          refine g_tableIn (tgt := 72) o dX11_stands_24 (by rw [z2]; decide) (by rw [z2]; decide) (by first | (rw [z2]; done) | (rw [z2]; rfl)) (by decide) ?_
          refine g_aload_n o dX11_stands_72 0 rfl ?_
          obtain ⟨a13, e14, h⟩ := ob h
          refine g_getR o fl_X11_240 e14 (by decide) rfl dX11_stands_73 ?_
          obtain ⟨a15, e16, h⟩ := ob h
          refine g_getI o fl_X11_244 e16 (by decide) rfl dX11_stands_76 ?_
          cases h
          exact g_iret o hr hE dX11_stands_79
        · have h := (if_neg z2).symm.trans h
          by_cases z3 : v2 = (3 : Int32)
          · have h := (if_pos z3).symm.trans h
            refine g_tableIn (tgt := 80) o dX11_stands_24 (by rw [z3]; decide) (by rw [z3]; decide) (by first | (rw [z3]; done) | (rw [z3]; rfl)) (by decide) ?_
            refine g_aload_n o dX11_stands_80 0 rfl ?_
            obtain ⟨a17, e18, h⟩ := ob h
            refine g_getR o fl_X11_240 e18 (by decide) rfl dX11_stands_81 ?_
            obtain ⟨a19, e20, h⟩ := ob h
            refine g_getI o fl_X11_249 e20 (by decide) rfl dX11_stands_84 ?_
            cases h
            exact g_iret o hr hE dX11_stands_87
          · have h := (if_neg z3).symm.trans h
            refine g_tableOut (tgt := 88) o dX11_stands_24 (ts_d 4 (by decide) (fun q hq => by rcases (show q = 0 ∨ q = 1 ∨ q = 2 ∨ q = 3 by omega) with rfl | rfl | rfl | rfl <;> assumption)) (by decide) ?_
            refine g_aload_n o dX11_stands_88 1 rfl ?_
            refine g_bipush (v := (-12 : Int32)) o dX11_stands_89 (by decide) ?_
            obtain ⟨x21, e22, h⟩ := ob h
            refine g_invV0 o (rc_self hk0) (by decide) ml_X11_46 kb_X11_refuse kv_X11_refuse rfl (c_X11_refuse (cq X) (cD X) (cY X) (cB X) (d := d) (by omega) (rc_at (rc_self hk0)).2 e22) rfl rfl (by simp [cat_i, cat_l, cat_rf]) dX11_stands_91 ?_
            cases h
            exact g_iret o hr hE dX11_stands_94
  · have h := (if_pos z).symm.trans h
    refine g_aload_n o dX11_stands_15 1 rfl ?_
    refine g_iload_n o dX11_stands_16 2 rfl ?_
    refine g_bipush (v := (6 : Int32)) o dX11_stands_17 (by decide) ?_
    obtain ⟨x23, e24, h⟩ := ob h
    refine g_invV0 o (rc_self hk0) (by decide) ml_X11_58 kb_X11_refuseAt kv_X11_refuseAt rfl (c_X11_refuseAt (cq X) (cD X) (cY X) (cB X) (d := d) (by omega) (rc_at (rc_self hk0)).2 e24) rfl rfl (by simp [cat_i, cat_l, cat_rf]) dX11_stands_19 ?_
    cases h
    exact g_iret o hr hE dX11_stands_22
theorem c_X11_stands (l : Launch) (D : va_G) (Y : Nat → ClassId) (B : Nat) {d : Nat} {n : Nat} {K L : Nat → Nat} {M : Mm} {a0 : Nat} {v1 : Int32} {v2 : Int32} {r : (Int32 × Mm)} (hd : 4 ≤ d) (hk0 : K a0 = 11) (h : f_X11_stands K L a0 v1 v2 M = some r) : mC l D Y B d yX11_stands cX11_stands 4 (some .int) [va_rf (some a0), .int v1, .int v2] n K L M n K L r.2 (some (.int r.1)) 0 0 := by
  obtain ⟨d, rfl⟩ : ∃ e, d = e + 1 := ⟨d - 1, by omega⟩
  refine mk_met (by decide) (by simp [lgs_r, lgs_i, lgs_l, lgs_n]) (fun X e1 e2 e3 e4 o hL hr hnm hz hc hs hE => ?_)
  subst e1 e2 e3 e4
  rw [show lv_args 0 [va_rf (some a0), .int v1, .int v2] = [(0, va_rf (some a0)), (1, .int v1), (2, .int v2)] by simp [lva_r, lva_i, lva_l, lva_n]]
  exact w_X11_stands_0 o hL hr hz hk0 hE hd h
def f_X11_budget_56 (K L : Nat → Nat) (a0 : Nat) (M : Mm) : Option (Int32 × Mm) :=
  Option.bind (f_X11_refuse K L a0 (-12 : Int32) M) (fun x1 =>
  some (x1.1, x1.2))
set_option maxHeartbeats 4000000 in
theorem w_X11_budget_56 {X : Cx} {d n : Nat} {K L : Nat → Nat} {a0 : Nat} {r : (Int32 × Mm)} {M : Mm} (o : cOk X cX11_budget RX11 (d + 1)) (hL : cL X = 7) (hr : (ch X).sig.returnType = some .int) (hz : (cs X).heap.size + 0 = cB X + n) (hk0 : K a0 = 11) (hE : cE X n K L r.2 (some (.int r.1)) 0 0) (hd : 4 ≤ d + 1) (h : f_X11_budget_56 K L a0  M = some r) : gW X 0 0 n K L M 56 [(0, va_rf (some a0))] [] := by
  unfold f_X11_budget_56 at h
  refine g_aload_n o dX11_budget_56 0 rfl ?_
  refine g_bipush (v := (-12 : Int32)) o dX11_budget_57 (by decide) ?_
  obtain ⟨x1, e2, h⟩ := ob h
  refine g_invV0 o (rc_self hk0) (by decide) ml_X11_46 kb_X11_refuse kv_X11_refuse rfl (c_X11_refuse (cq X) (cD X) (cY X) (cB X) (d := d) (by omega) (rc_at (rc_self hk0)).2 e2) rfl rfl (by simp [cat_i, cat_l, cat_rf]) dX11_budget_59 ?_
  cases h
  exact g_iret o hr hE dX11_budget_62
def f_X11_budget (K L : Nat → Nat) (a0 : Nat) (v1 : Int32) (v2 : Int32) (v3 : Int32) (v4 : Int32) (v5 : Int32) (M : Mm) : Option (Int32 × Mm) :=
  Option.bind (rc K (mm_R M (32 * 11 + 0) a0) 8) (fun a1 =>
  Option.bind (f_X8_find K L M a1 v1 (6 : Int32)) (fun x3 =>
  if x3 = none then
    Option.bind (f_X11_refuseAt K L a0 v1 (6 : Int32) M) (fun x15 =>
    some (x15.1, x15.2))
  else
    if v2 < (1 : Int32) then
      f_X11_budget_56 K L a0 M
    else
      if (60 : Int32) < v2 then
        f_X11_budget_56 K L a0 M
      else
        Option.bind (f_X11_within v3 (1000000 : Int32)) (fun x5 =>
        if x5 = 0 then
          f_X11_budget_56 K L a0 M
        else
          Option.bind (f_X11_within v4 (10000 : Int32)) (fun x7 =>
          if x7 = 0 then
            f_X11_budget_56 K L a0 M
          else
            Option.bind (rc K x3 9) (fun a9 =>
            Option.bind (rc K (mm_R M (32 * 9 + 10) a9) 0) (fun a11 =>
            Option.bind (f_X0_set K L a11 v2 v3 v4 v5 M) (fun x13 =>
            some ((1 : Int32), x13))))))))
set_option maxHeartbeats 4000000 in
theorem w_X11_budget_0 {X : Cx} {d n : Nat} {K L : Nat → Nat} {a0 : Nat} {r : (Int32 × Mm)} {v1 : Int32} {v2 : Int32} {v3 : Int32} {v4 : Int32} {v5 : Int32} {M : Mm} (o : cOk X cX11_budget RX11 (d + 1)) (hL : cL X = 7) (hr : (ch X).sig.returnType = some .int) (hz : (cs X).heap.size + 0 = cB X + n) (hk0 : K a0 = 11) (hE : cE X n K L r.2 (some (.int r.1)) 0 0) (hd : 4 ≤ d + 1) (h : f_X11_budget K L a0 v1 v2 v3 v4 v5 M = some r) : gW X 0 0 n K L M 0 [(0, va_rf (some a0)), (1, .int v1), (2, .int v2), (3, .int v3), (4, .int v4), (5, .int v5)] [] := by
  unfold f_X11_budget at h
  refine g_aload_n o dX11_budget_0 0 rfl ?_
  refine g_getR o fl_X11_10 (rc_self hk0) (by decide) rfl dX11_budget_1 ?_
  refine g_iload_n o dX11_budget_4 1 rfl ?_
  refine g_bipush (v := (6 : Int32)) o dX11_budget_5 (by decide) ?_
  obtain ⟨a1, e2, h⟩ := ob h
  obtain ⟨x3, e4, h⟩ := ob h
  refine g_invV0 o e2 (by decide) ml_X11_54 kb_X8_find kv_X8_find rfl (c_X8_find (cq X) (cD X) (cY X) (cB X) (d := d) (by omega) (rc_at e2).2 e4) rfl rfl (by simp [cat_i, cat_l, cat_rf]) dX11_budget_7 ?_
  refine g_astore (i := 6) (ls' := [(6, va_rf x3), (0, va_rf (some a0)), (1, .int v1), (2, .int v2), (3, .int v3), (4, .int v4), (5, .int v5)]) o dX11_budget_10 (ltL hL (by decide)) rfl ?_
  refine g_aload o dX11_budget_12 0 rfl ?_
  refine g_ifnonnull (tgt := 25) o dX11_budget_14 (by decide) (fun z => ?_) (fun z => ?_)
  · have h := (if_neg z).symm.trans h
    refine g_iload_n o dX11_budget_25 3 rfl ?_
    refine g_iconst (v := (1 : Int32)) o dX11_budget_26 (by decide) ?_
    refine g_icmp_lt (tgt := 56) o dX11_budget_27 (by decide) (fun z => ?_) (fun z => ?_)
    · have h := (if_pos z).symm.trans h
      refine gsub [1] rfl ?_
      exact w_X11_budget_56 o hL hr hz hk0 hE hd h
    · have h := (if_neg z).symm.trans h
      refine g_iload_n o dX11_budget_30 3 rfl ?_
      refine g_bipush (v := (60 : Int32)) o dX11_budget_31 (by decide) ?_
      refine g_icmp_gt (tgt := 56) o dX11_budget_33 (by decide) (fun z => ?_) (fun z => ?_)
      · have h := (if_pos z).symm.trans h
        refine gsub [1] rfl ?_
        exact w_X11_budget_56 o hL hr hz hk0 hE hd h
      · have h := (if_neg z).symm.trans h
        refine g_iload_n o dX11_budget_36 4 rfl ?_
        refine g_ldc (v := (1000000 : Int32)) o kc_X11_252 dX11_budget_37 ?_
        obtain ⟨x5, e6, h⟩ := ob h
        refine g_invS0 o ml_X11_42 kb_X11_within ks_X11_within (c_X11_within (cq X) (cD X) (cY X) (cB X) (d := d) (by omega) e6) rfl rfl (by simp [cat_i, cat_l, cat_rf]) dX11_budget_39 ?_
        refine g_if_eq (tgt := 56) o dX11_budget_42 (by decide) (fun z => ?_) (fun z => ?_)
        · have h := (if_pos z).symm.trans h
          refine gsub [1] rfl ?_
          exact w_X11_budget_56 o hL hr hz hk0 hE hd h
        · have h := (if_neg z).symm.trans h
          refine g_iload o dX11_budget_45 5 rfl ?_
          refine g_sipush (v := (10000 : Int32)) o dX11_budget_47 (by decide) ?_
          obtain ⟨x7, e8, h⟩ := ob h
          refine g_invS0 o ml_X11_42 kb_X11_within ks_X11_within (c_X11_within (cq X) (cD X) (cY X) (cB X) (d := d) (by omega) e8) rfl rfl (by simp [cat_i, cat_l, cat_rf]) dX11_budget_50 ?_
          refine g_if_ne (tgt := 63) o dX11_budget_53 (by decide) (fun z => ?_) (fun z => ?_)
          · have h := (if_neg z).symm.trans h
            refine g_aload o dX11_budget_63 0 rfl ?_
            obtain ⟨a9, e10, h⟩ := ob h
            refine g_getR o fl_X11_240 e10 (by decide) rfl dX11_budget_65 ?_
            refine g_iload_n o dX11_budget_68 3 rfl ?_
            refine g_iload_n o dX11_budget_69 4 rfl ?_
            refine g_iload o dX11_budget_70 5 rfl ?_
            refine g_iload o dX11_budget_72 6 rfl ?_
            obtain ⟨a11, e12, h⟩ := ob h
            obtain ⟨x13, e14, h⟩ := ob h
            refine g_invV0 o e12 (by decide) ml_X11_253 kb_X0_set kv_X0_set rfl (c_X0_set (cq X) (cD X) (cY X) (cB X) (d := d) (by omega) (rc_at e12).2 e14) rfl rfl (by simp [cat_i, cat_l, cat_rf]) dX11_budget_74 ?_
            refine g_iconst (v := (1 : Int32)) o dX11_budget_77 (by decide) ?_
            cases h
            exact g_iret o hr hE dX11_budget_78
          · have h := (if_pos z).symm.trans h
            refine gsub [1] rfl ?_
            exact w_X11_budget_56 o hL hr hz hk0 hE hd h
  · have h := (if_pos z).symm.trans h
    refine g_aload_n o dX11_budget_17 1 rfl ?_
    refine g_iload_n o dX11_budget_18 2 rfl ?_
    refine g_bipush (v := (6 : Int32)) o dX11_budget_19 (by decide) ?_
    obtain ⟨x15, e16, h⟩ := ob h
    refine g_invV0 o (rc_self hk0) (by decide) ml_X11_58 kb_X11_refuseAt kv_X11_refuseAt rfl (c_X11_refuseAt (cq X) (cD X) (cY X) (cB X) (d := d) (by omega) (rc_at (rc_self hk0)).2 e16) rfl rfl (by simp [cat_i, cat_l, cat_rf]) dX11_budget_21 ?_
    cases h
    exact g_iret o hr hE dX11_budget_24
theorem c_X11_budget (l : Launch) (D : va_G) (Y : Nat → ClassId) (B : Nat) {d : Nat} {n : Nat} {K L : Nat → Nat} {M : Mm} {a0 : Nat} {v1 : Int32} {v2 : Int32} {v3 : Int32} {v4 : Int32} {v5 : Int32} {r : (Int32 × Mm)} (hd : 4 ≤ d) (hk0 : K a0 = 11) (h : f_X11_budget K L a0 v1 v2 v3 v4 v5 M = some r) : mC l D Y B d yX11_budget cX11_budget 7 (some .int) [va_rf (some a0), .int v1, .int v2, .int v3, .int v4, .int v5] n K L M n K L r.2 (some (.int r.1)) 0 0 := by
  obtain ⟨d, rfl⟩ : ∃ e, d = e + 1 := ⟨d - 1, by omega⟩
  refine mk_met (by decide) (by simp [lgs_r, lgs_i, lgs_l, lgs_n]) (fun X e1 e2 e3 e4 o hL hr hnm hz hc hs hE => ?_)
  subst e1 e2 e3 e4
  rw [show lv_args 0 [va_rf (some a0), .int v1, .int v2, .int v3, .int v4, .int v5] = [(0, va_rf (some a0)), (1, .int v1), (2, .int v2), (3, .int v3), (4, .int v4), (5, .int v5)] by simp [lva_r, lva_i, lva_l, lva_n]]
  exact w_X11_budget_0 o hL hr hz hk0 hE hd h
def f_X11_waits (K L : Nat → Nat) (a0 : Nat) (v1 : Int32) (v2 : Int32) (M : Mm) : Option (Int32 × Mm) :=
  Option.bind (rc K (mm_R M (32 * 11 + 0) a0) 8) (fun a1 =>
  Option.bind (f_X8_find K L M a1 v1 (6 : Int32)) (fun x3 =>
  if x3 = none then
    Option.bind (f_X11_refuseAt K L a0 v1 (6 : Int32) M) (fun x17 =>
    some (x17.1, x17.2))
  else
    Option.bind (f_X11_within v2 (100 : Int32)) (fun x5 =>
    if x5 = 0 then
      Option.bind (f_X11_refuse K L a0 (-12 : Int32) M) (fun x15 =>
      some (x15.1, x15.2))
    else
      Option.bind (rc K x3 9) (fun a7 =>
      Option.bind (rc K (mm_R M (32 * 9 + 10) a7) 0) (fun a9 =>
      bn (mm_I M (32 * 0 + 4) a9) (fun x11 =>
      bn (ms_I M (32 * 0 + 4) a9 v2) (fun M13 =>
      some (x11, M13))))))))
set_option maxHeartbeats 4000000 in
theorem w_X11_waits_0 {X : Cx} {d n : Nat} {K L : Nat → Nat} {a0 : Nat} {r : (Int32 × Mm)} {v1 : Int32} {v2 : Int32} {M : Mm} (o : cOk X cX11_waits RX11 (d + 1)) (hL : cL X = 5) (hr : (ch X).sig.returnType = some .int) (hz : (cs X).heap.size + 0 = cB X + n) (hk0 : K a0 = 11) (hE : cE X n K L r.2 (some (.int r.1)) 0 0) (hd : 4 ≤ d + 1) (h : f_X11_waits K L a0 v1 v2 M = some r) : gW X 0 0 n K L M 0 [(0, va_rf (some a0)), (1, .int v1), (2, .int v2)] [] := by
  unfold f_X11_waits at h
  refine g_aload_n o dX11_waits_0 0 rfl ?_
  refine g_getR o fl_X11_10 (rc_self hk0) (by decide) rfl dX11_waits_1 ?_
  refine g_iload_n o dX11_waits_4 1 rfl ?_
  refine g_bipush (v := (6 : Int32)) o dX11_waits_5 (by decide) ?_
  obtain ⟨a1, e2, h⟩ := ob h
  obtain ⟨x3, e4, h⟩ := ob h
  refine g_invV0 o e2 (by decide) ml_X11_54 kb_X8_find kv_X8_find rfl (c_X8_find (cq X) (cD X) (cY X) (cB X) (d := d) (by omega) (rc_at e2).2 e4) rfl rfl (by simp [cat_i, cat_l, cat_rf]) dX11_waits_7 ?_
  refine g_astore_n (i := 3) (ls' := [(3, va_rf x3), (0, va_rf (some a0)), (1, .int v1), (2, .int v2)]) o dX11_waits_10 rfl (ltL hL (by decide)) rfl ?_
  refine g_aload_n o dX11_waits_11 0 rfl ?_
  refine g_ifnonnull (tgt := 23) o dX11_waits_12 (by decide) (fun z => ?_) (fun z => ?_)
  · have h := (if_neg z).symm.trans h
    refine g_iload_n o dX11_waits_23 3 rfl ?_
    refine g_bipush (v := (100 : Int32)) o dX11_waits_24 (by decide) ?_
    obtain ⟨x5, e6, h⟩ := ob h
    refine g_invS0 o ml_X11_42 kb_X11_within ks_X11_within (c_X11_within (cq X) (cD X) (cY X) (cB X) (d := d) (by omega) e6) rfl rfl (by simp [cat_i, cat_l, cat_rf]) dX11_waits_26 ?_
    refine g_if_ne (tgt := 39) o dX11_waits_29 (by decide) (fun z => ?_) (fun z => ?_)
    · have h := (if_neg z).symm.trans h
      refine g_aload_n o dX11_waits_39 0 rfl ?_
      obtain ⟨a7, e8, h⟩ := ob h
      refine g_getR o fl_X11_240 e8 (by decide) rfl dX11_waits_40 ?_
      obtain ⟨a9, e10, h⟩ := ob h
      refine g_getI o fl_X11_257 e10 (by decide) rfl dX11_waits_43 ?_
      obtain ⟨x11, e12, h⟩ := bn_at h
      refine g_topI e12 ?_
      refine g_istore (i := 4) (ls' := [(4, .int x11), (3, va_rf x3), (0, va_rf (some a0)), (1, .int v1), (2, .int v2)]) o dX11_waits_46 (ltL hL (by decide)) (by simp [cat_rf]) ?_
      refine g_aload_n o dX11_waits_48 1 rfl ?_
      refine g_getR o fl_X11_240 e8 (by decide) rfl dX11_waits_49 ?_
      refine g_iload_n o dX11_waits_52 4 rfl ?_
      refine g_putI o hz fl_X11_257 e10 (by decide) rfl rfl rfl  dX11_waits_53 ?_
      obtain ⟨M13, e14, h⟩ := bn_at h
      refine g_mem e14 ?_
      refine g_iload o dX11_waits_56 0 rfl ?_
      cases h
      exact g_iret o hr hE dX11_waits_58
    · have h := (if_pos z).symm.trans h
      refine g_aload_n o dX11_waits_32 1 rfl ?_
      refine g_bipush (v := (-12 : Int32)) o dX11_waits_33 (by decide) ?_
      obtain ⟨x15, e16, h⟩ := ob h
      refine g_invV0 o (rc_self hk0) (by decide) ml_X11_46 kb_X11_refuse kv_X11_refuse rfl (c_X11_refuse (cq X) (cD X) (cY X) (cB X) (d := d) (by omega) (rc_at (rc_self hk0)).2 e16) rfl rfl (by simp [cat_i, cat_l, cat_rf]) dX11_waits_35 ?_
      cases h
      exact g_iret o hr hE dX11_waits_38
  · have h := (if_pos z).symm.trans h
    refine g_aload_n o dX11_waits_15 1 rfl ?_
    refine g_iload_n o dX11_waits_16 2 rfl ?_
    refine g_bipush (v := (6 : Int32)) o dX11_waits_17 (by decide) ?_
    obtain ⟨x17, e18, h⟩ := ob h
    refine g_invV0 o (rc_self hk0) (by decide) ml_X11_58 kb_X11_refuseAt kv_X11_refuseAt rfl (c_X11_refuseAt (cq X) (cD X) (cY X) (cB X) (d := d) (by omega) (rc_at (rc_self hk0)).2 e18) rfl rfl (by simp [cat_i, cat_l, cat_rf]) dX11_waits_19 ?_
    cases h
    exact g_iret o hr hE dX11_waits_22
theorem c_X11_waits (l : Launch) (D : va_G) (Y : Nat → ClassId) (B : Nat) {d : Nat} {n : Nat} {K L : Nat → Nat} {M : Mm} {a0 : Nat} {v1 : Int32} {v2 : Int32} {r : (Int32 × Mm)} (hd : 4 ≤ d) (hk0 : K a0 = 11) (h : f_X11_waits K L a0 v1 v2 M = some r) : mC l D Y B d yX11_waits cX11_waits 5 (some .int) [va_rf (some a0), .int v1, .int v2] n K L M n K L r.2 (some (.int r.1)) 0 0 := by
  obtain ⟨d, rfl⟩ : ∃ e, d = e + 1 := ⟨d - 1, by omega⟩
  refine mk_met (by decide) (by simp [lgs_r, lgs_i, lgs_l, lgs_n]) (fun X e1 e2 e3 e4 o hL hr hnm hz hc hs hE => ?_)
  subst e1 e2 e3 e4
  rw [show lv_args 0 [va_rf (some a0), .int v1, .int v2] = [(0, va_rf (some a0)), (1, .int v1), (2, .int v2)] by simp [lva_r, lva_i, lva_l, lva_n]]
  exact w_X11_waits_0 o hL hr hz hk0 hE hd h
def f_X11_isCountedAt  (v0 : Int32) (v1 : Int32) : Option Int32 :=
  Option.bind (f_X11_within v0 (3 : Int32)) (fun x1 =>
  if x1 = 0 then
    some (0 : Int32)
  else
    Option.bind (f_X11_within v1 (239 : Int32)) (fun x3 =>
    if x3 = 0 then
      some (0 : Int32)
    else
      some (1 : Int32)))
set_option maxHeartbeats 4000000 in
theorem w_X11_isCountedAt_0 {X : Cx} {d n : Nat} {K L : Nat → Nat} {M : Mm} {r : Int32} {v0 : Int32} {v1 : Int32} (o : cOk X cX11_isCountedAt RX11 (d + 1)) (hL : cL X = 2) (hr : (ch X).sig.returnType = some .boolean) (hE : cE X n K L M (some (.int r)) 0 0) (hd : 1 ≤ d + 1) (h : f_X11_isCountedAt  v0 v1 = some r) : gW X 0 0 n K L M 0 [(0, .int v0), (1, .int v1)] [] := by
  unfold f_X11_isCountedAt at h
  refine g_iload_n o dX11_isCountedAt_0 0 rfl ?_
  refine g_iconst (v := (3 : Int32)) o dX11_isCountedAt_1 (by decide) ?_
  obtain ⟨x1, e2, h⟩ := ob h
  refine g_invS0 o ml_X11_42 kb_X11_within ks_X11_within (c_X11_within (cq X) (cD X) (cY X) (cB X) (d := d) (by omega) e2) rfl rfl (by simp [cat_i, cat_l, cat_rf]) dX11_isCountedAt_2 ?_
  refine g_if_eq (tgt := 22) o dX11_isCountedAt_5 (by decide) (fun z => ?_) (fun z => ?_)
  · have h := (if_pos z).symm.trans h
    refine g_iconst (v := (0 : Int32)) o dX11_isCountedAt_22 (by decide) ?_
    cases h
    exact g_zret o hr (by decide) hE dX11_isCountedAt_23
  · have h := (if_neg z).symm.trans h
    refine g_iload_n o dX11_isCountedAt_8 1 rfl ?_
    refine g_sipush (v := (239 : Int32)) o dX11_isCountedAt_9 (by decide) ?_
    obtain ⟨x3, e4, h⟩ := ob h
    refine g_invS0 o ml_X11_42 kb_X11_within ks_X11_within (c_X11_within (cq X) (cD X) (cY X) (cB X) (d := d) (by omega) e4) rfl rfl (by simp [cat_i, cat_l, cat_rf]) dX11_isCountedAt_12 ?_
    refine g_if_eq (tgt := 22) o dX11_isCountedAt_15 (by decide) (fun z => ?_) (fun z => ?_)
    · have h := (if_pos z).symm.trans h
      refine g_iconst (v := (0 : Int32)) o dX11_isCountedAt_22 (by decide) ?_
      cases h
      exact g_zret o hr (by decide) hE dX11_isCountedAt_23
    · have h := (if_neg z).symm.trans h
      refine g_iconst (v := (1 : Int32)) o dX11_isCountedAt_18 (by decide) ?_
      refine g_goto (tgt := 23) o dX11_isCountedAt_19 (by decide) ?_
      cases h
      exact g_zret o hr (by decide) hE dX11_isCountedAt_23
theorem c_X11_isCountedAt (l : Launch) (D : va_G) (Y : Nat → ClassId) (B : Nat) {d : Nat} {n : Nat} {K L : Nat → Nat} {M : Mm} {v0 : Int32} {v1 : Int32} {r : Int32} (hd : 1 ≤ d) (h : f_X11_isCountedAt  v0 v1 = some r) : mC l D Y B d yX11_isCountedAt cX11_isCountedAt 2 (some .boolean) [.int v0, .int v1] n K L M n K L M (some (.int r)) 0 0 := by
  obtain ⟨d, rfl⟩ : ∃ e, d = e + 1 := ⟨d - 1, by omega⟩
  refine mk_met (by decide) (by simp [lgs_r, lgs_i, lgs_l, lgs_n]) (fun X e1 e2 e3 e4 o hL hr hnm hz hc hs hE => ?_)
  subst e1 e2 e3 e4
  rw [show lv_args 0 [.int v0, .int v1] = [(0, .int v0), (1, .int v1)] by simp [lva_r, lva_i, lva_l, lva_n]]
  exact w_X11_isCountedAt_0 o hL hr hE hd h
def f_X11_count_108 (K L : Nat → Nat) (fu : Nat) (a0 : Nat) (v6 : (Option Nat)) (M : Mm) : Option (Int32 × Mm) :=
  Option.bind (rc K v6 9) (fun a1 =>
  Option.bind (rc K (mm_R M (32 * 9 + 4) a1) 7) (fun a3 =>
  Option.bind (f_X7_sizeOf K L M a3 (1 : Int32)) (fun x5 =>
  some (x5, M))))
set_option maxHeartbeats 4000000 in
theorem w_X11_count_108 {X : Cx} {d n : Nat} {K L : Nat → Nat} {fu : Nat} {a0 : Nat} {r : (Int32 × Mm)} {v6 : (Option Nat)} {M : Mm} (o : cOk X cX11_count RX11 (d + 1)) (hL : cL X = 8) (hr : (ch X).sig.returnType = some .int) (hz : (cs X).heap.size + 0 = cB X + n) (hk0 : K a0 = 11) (hE : cE X n K L r.2 (some (.int r.1)) 0 0) (hd : 5 ≤ d + 1) (h : f_X11_count_108 K L fu a0 v6 M = some r) : gW X 0 0 n K L M 108 [(0, va_rf (some a0)), (6, va_rf v6)] [] := by
  unfold f_X11_count_108 at h
  refine g_aload o dX11_count_108 1 rfl ?_
  obtain ⟨a1, e2, h⟩ := ob h
  refine g_getR o fl_X11_151 e2 (by decide) rfl dX11_count_110 ?_
  refine g_iconst (v := (1 : Int32)) o dX11_count_113 (by decide) ?_
  obtain ⟨a3, e4, h⟩ := ob h
  obtain ⟨x5, e6, h⟩ := ob h
  refine g_invV0 o e4 (by decide) ml_X11_161 kb_X7_sizeOf kv_X7_sizeOf rfl (c_X7_sizeOf (cq X) (cD X) (cY X) (cB X) (d := d) (by omega) (rc_at e4).2 e6) rfl rfl (by simp [cat_i, cat_l, cat_rf]) dX11_count_114 ?_
  cases h
  exact g_iret o hr hE dX11_count_117
def f_X11_count_80 (K L : Nat → Nat) (fu : Nat) (a0 : Nat) (M : Mm) : Option (Int32 × Mm) :=
  Option.bind (f_X11_refuse K L a0 (-12 : Int32) M) (fun x1 =>
  some (x1.1, x1.2))
set_option maxHeartbeats 4000000 in
theorem w_X11_count_80 {X : Cx} {d n : Nat} {K L : Nat → Nat} {fu : Nat} {a0 : Nat} {r : (Int32 × Mm)} {M : Mm} (o : cOk X cX11_count RX11 (d + 1)) (hL : cL X = 8) (hr : (ch X).sig.returnType = some .int) (hz : (cs X).heap.size + 0 = cB X + n) (hk0 : K a0 = 11) (hE : cE X n K L r.2 (some (.int r.1)) 0 0) (hd : 5 ≤ d + 1) (h : f_X11_count_80 K L fu a0  M = some r) : gW X 0 0 n K L M 80 [(0, va_rf (some a0))] [] := by
  unfold f_X11_count_80 at h
  refine g_aload_n o dX11_count_80 0 rfl ?_
  refine g_bipush (v := (-12 : Int32)) o dX11_count_81 (by decide) ?_
  obtain ⟨x1, e2, h⟩ := ob h
  refine g_invV0 o (rc_self hk0) (by decide) ml_X11_46 kb_X11_refuse kv_X11_refuse rfl (c_X11_refuse (cq X) (cD X) (cY X) (cB X) (d := d) (by omega) (rc_at (rc_self hk0)).2 e2) rfl rfl (by simp [cat_i, cat_l, cat_rf]) dX11_count_83 ?_
  cases h
  exact g_iret o hr hE dX11_count_86
def f_X11_count (K L : Nat → Nat) (fu : Nat) (a0 : Nat) (v1 : Int32) (v2 : Int32) (v3 : Int32) (v4 : Int32) (v5 : Int32) (M : Mm) : Option (Int32 × Mm) :=
  Option.bind (f_X11_isCountedAt v2 v3) (fun x1 =>
  if x1 = 0 then
    Option.bind (f_X11_refuse K L a0 (-3 : Int32) M) (fun x25 =>
    some (x25.1, x25.2))
  else
    Option.bind (rc K (mm_R M (32 * 11 + 0) a0) 8) (fun a3 =>
    Option.bind (f_X8_find K L M a3 v1 (31 : Int32)) (fun x5 =>
    if x5 = none then
      Option.bind (f_X11_refuseAt K L a0 v1 (31 : Int32) M) (fun x23 =>
      some (x23.1, x23.2))
    else
      Option.bind (rc K x5 9) (fun a7 =>
      Option.bind (f_X9_rowOf K L M a7 v2) (fun x9 =>
      if x9 = none then
        Option.bind (f_X11_refuse K L a0 (-2 : Int32) M) (fun x21 =>
        some (x21.1, x21.2))
      else
        Option.bind (f_X11_within v4 (1000000 : Int32)) (fun x11 =>
        if x11 = 0 then
          f_X11_count_80 K L fu a0 M
        else
          Option.bind (f_X11_within v5 v4) (fun x13 =>
          if x13 = 0 then
            f_X11_count_80 K L fu a0 M
          else
            Option.bind (rc K x9 2) (fun a15 =>
            Option.bind (f_X2_tell K L fu a15 v3 v4 v5 M) (fun x17 =>
            if v2 = (1 : Int32) then
              Option.bind (f_X9_goBackIfSpent K L fu a7 v3 x17) (fun x19 =>
              f_X11_count_108 K L fu a0 x5 x19)
            else
              f_X11_count_108 K L fu a0 x5 x17)))))))))
set_option maxHeartbeats 4000000 in
theorem w_X11_count_0 {X : Cx} {d n : Nat} {K L : Nat → Nat} {fu : Nat} {a0 : Nat} {r : (Int32 × Mm)} {v1 : Int32} {v2 : Int32} {v3 : Int32} {v4 : Int32} {v5 : Int32} {M : Mm} (o : cOk X cX11_count RX11 (d + 1)) (hL : cL X = 8) (hr : (ch X).sig.returnType = some .int) (hz : (cs X).heap.size + 0 = cB X + n) (hk0 : K a0 = 11) (hE : cE X n K L r.2 (some (.int r.1)) 0 0) (hd : 5 ≤ d + 1) (h : f_X11_count K L fu a0 v1 v2 v3 v4 v5 M = some r) : gW X 0 0 n K L M 0 [(0, va_rf (some a0)), (1, .int v1), (2, .int v2), (3, .int v3), (4, .int v4), (5, .int v5)] [] := by
  unfold f_X11_count at h
  refine g_iload_n o dX11_count_0 2 rfl ?_
  refine g_iload_n o dX11_count_1 3 rfl ?_
  obtain ⟨x1, e2, h⟩ := ob h
  refine g_invS0 o ml_X11_260 kb_X11_isCountedAt ks_X11_isCountedAt (c_X11_isCountedAt (cq X) (cD X) (cY X) (cB X) (d := d) (by omega) e2) rfl rfl (by simp [cat_i, cat_l, cat_rf]) dX11_count_2 ?_
  refine g_if_ne (tgt := 15) o dX11_count_5 (by decide) (fun z => ?_) (fun z => ?_)
  · have h := (if_neg z).symm.trans h
    refine g_aload_n o dX11_count_15 0 rfl ?_
    refine g_getR o fl_X11_10 (rc_self hk0) (by decide) rfl dX11_count_16 ?_
    refine g_iload_n o dX11_count_19 1 rfl ?_
    refine g_bipush (v := (31 : Int32)) o dX11_count_20 (by decide) ?_
    obtain ⟨a3, e4, h⟩ := ob h
    obtain ⟨x5, e6, h⟩ := ob h
    refine g_invV0 o e4 (by decide) ml_X11_54 kb_X8_find kv_X8_find rfl (c_X8_find (cq X) (cD X) (cY X) (cB X) (d := d) (by omega) (rc_at e4).2 e6) rfl rfl (by simp [cat_i, cat_l, cat_rf]) dX11_count_22 ?_
    refine g_astore (i := 6) (ls' := [(6, va_rf x5), (0, va_rf (some a0)), (1, .int v1), (2, .int v2), (3, .int v3), (4, .int v4), (5, .int v5)]) o dX11_count_25 (ltL hL (by decide)) rfl ?_
    refine g_aload o dX11_count_27 0 rfl ?_
    refine g_ifnonnull (tgt := 40) o dX11_count_29 (by decide) (fun z => ?_) (fun z => ?_)
    · have h := (if_neg z).symm.trans h
      refine g_aload o dX11_count_40 0 rfl ?_
      refine g_iload_n o dX11_count_42 3 rfl ?_
      obtain ⟨a7, e8, h⟩ := ob h
      obtain ⟨x9, e10, h⟩ := ob h
      refine g_invV0 o e8 (by decide) ml_X11_263 kb_X9_rowOf kv_X9_rowOf rfl (c_X9_rowOf (cq X) (cD X) (cY X) (cB X) (d := d) (by omega) (rc_at e8).2 e10) rfl rfl (by simp [cat_i, cat_l, cat_rf]) dX11_count_43 ?_
      refine g_astore (i := 7) (ls' := [(7, va_rf x9), (6, va_rf x5), (0, va_rf (some a0)), (1, .int v1), (2, .int v2), (3, .int v3), (4, .int v4), (5, .int v5)]) o dX11_count_46 (ltL hL (by decide)) (by simp [cat_rf]) ?_
      refine g_aload o dX11_count_48 0 rfl ?_
      refine g_ifnonnull (tgt := 60) o dX11_count_50 (by decide) (fun z => ?_) (fun z => ?_)
      · have h := (if_neg z).symm.trans h
        refine g_iload o dX11_count_60 6 rfl ?_
        refine g_ldc (v := (1000000 : Int32)) o kc_X11_252 dX11_count_62 ?_
        obtain ⟨x11, e12, h⟩ := ob h
        refine g_invS0 o ml_X11_42 kb_X11_within ks_X11_within (c_X11_within (cq X) (cD X) (cY X) (cB X) (d := d) (by omega) e12) rfl rfl (by simp [cat_i, cat_l, cat_rf]) dX11_count_64 ?_
        refine g_if_eq (tgt := 80) o dX11_count_67 (by decide) (fun z => ?_) (fun z => ?_)
        · have h := (if_pos z).symm.trans h
          refine gsub [2] rfl ?_
          exact w_X11_count_80 o hL hr hz hk0 hE hd h
        · have h := (if_neg z).symm.trans h
          refine g_iload o dX11_count_70 7 rfl ?_
          refine g_iload o dX11_count_72 6 rfl ?_
          obtain ⟨x13, e14, h⟩ := ob h
          refine g_invS0 o ml_X11_42 kb_X11_within ks_X11_within (c_X11_within (cq X) (cD X) (cY X) (cB X) (d := d) (by omega) e14) rfl rfl (by simp [cat_i, cat_l, cat_rf]) dX11_count_74 ?_
          refine g_if_ne (tgt := 87) o dX11_count_77 (by decide) (fun z => ?_) (fun z => ?_)
          · have h := (if_neg z).symm.trans h
            refine g_aload o dX11_count_87 0 rfl ?_
            refine g_iload_n o dX11_count_89 5 rfl ?_
            refine g_iload o dX11_count_90 6 rfl ?_
            refine g_iload o dX11_count_92 7 rfl ?_
            obtain ⟨a15, e16, h⟩ := ob h
            obtain ⟨x17, e18, h⟩ := ob h
            refine g_invV0 o e16 (by decide) ml_X11_267 kb_X2_tell kv_X2_tell rfl (c_X2_tell (cq X) (cD X) (cY X) (cB X) (d := d) (by omega) (rc_at e16).2 e18) rfl rfl (by simp [cat_i, cat_l, cat_rf]) dX11_count_94 ?_
            refine g_iload_n o dX11_count_97 4 rfl ?_
            refine g_iconst (v := (1 : Int32)) o dX11_count_98 (by decide) ?_
            refine g_icmp_ne (tgt := 108) o dX11_count_99 (by decide) (fun z => ?_) (fun z => ?_)
            · have h := (if_neg z).symm.trans h
              refine gsub [2, 1] rfl ?_
              exact w_X11_count_108 o hL hr hz hk0 hE hd h
            · have h := (if_pos z).symm.trans h
              refine g_aload o dX11_count_102 1 rfl ?_
              refine g_iload_n o dX11_count_104 5 rfl ?_
              obtain ⟨x19, e20, h⟩ := ob h
              refine g_invV0 o e8 (by decide) ml_X11_272 kb_X9_goBackIfSpent kv_X9_goBackIfSpent rfl (c_X9_goBackIfSpent (cq X) (cD X) (cY X) (cB X) (d := d) (by omega) (rc_at e8).2 e20) rfl rfl (by simp [cat_i, cat_l, cat_rf]) dX11_count_105 ?_
              refine gsub [2, 1] rfl ?_
              exact w_X11_count_108 o hL hr hz hk0 hE hd h
          · have h := (if_pos z).symm.trans h
            refine gsub [2] rfl ?_
            exact w_X11_count_80 o hL hr hz hk0 hE hd h
      · have h := (if_pos z).symm.trans h
        refine g_aload_n o dX11_count_53 2 rfl ?_
        refine g_bipush (v := (-2 : Int32)) o dX11_count_54 (by decide) ?_
        obtain ⟨x21, e22, h⟩ := ob h
        refine g_invV0 o (rc_self hk0) (by decide) ml_X11_46 kb_X11_refuse kv_X11_refuse rfl (c_X11_refuse (cq X) (cD X) (cY X) (cB X) (d := d) (by omega) (rc_at (rc_self hk0)).2 e22) rfl rfl (by simp [cat_i, cat_l, cat_rf]) dX11_count_56 ?_
        cases h
        exact g_iret o hr hE dX11_count_59
    · have h := (if_pos z).symm.trans h
      refine g_aload_n o dX11_count_32 1 rfl ?_
      refine g_iload_n o dX11_count_33 2 rfl ?_
      refine g_bipush (v := (31 : Int32)) o dX11_count_34 (by decide) ?_
      obtain ⟨x23, e24, h⟩ := ob h
      refine g_invV0 o (rc_self hk0) (by decide) ml_X11_58 kb_X11_refuseAt kv_X11_refuseAt rfl (c_X11_refuseAt (cq X) (cD X) (cY X) (cB X) (d := d) (by omega) (rc_at (rc_self hk0)).2 e24) rfl rfl (by simp [cat_i, cat_l, cat_rf]) dX11_count_36 ?_
      cases h
      exact g_iret o hr hE dX11_count_39
  · have h := (if_pos z).symm.trans h
    refine g_aload_n o dX11_count_8 0 rfl ?_
    refine g_bipush (v := (-3 : Int32)) o dX11_count_9 (by decide) ?_
    obtain ⟨x25, e26, h⟩ := ob h
    refine g_invV0 o (rc_self hk0) (by decide) ml_X11_46 kb_X11_refuse kv_X11_refuse rfl (c_X11_refuse (cq X) (cD X) (cY X) (cB X) (d := d) (by omega) (rc_at (rc_self hk0)).2 e26) rfl rfl (by simp [cat_i, cat_l, cat_rf]) dX11_count_11 ?_
    cases h
    exact g_iret o hr hE dX11_count_14
theorem c_X11_count (l : Launch) (D : va_G) (Y : Nat → ClassId) (B : Nat) {d : Nat} {n : Nat} {K L : Nat → Nat} {fu : Nat} {M : Mm} {a0 : Nat} {v1 : Int32} {v2 : Int32} {v3 : Int32} {v4 : Int32} {v5 : Int32} {r : (Int32 × Mm)} (hd : 5 ≤ d) (hk0 : K a0 = 11) (h : f_X11_count K L fu a0 v1 v2 v3 v4 v5 M = some r) : mC l D Y B d yX11_count cX11_count 8 (some .int) [va_rf (some a0), .int v1, .int v2, .int v3, .int v4, .int v5] n K L M n K L r.2 (some (.int r.1)) 0 0 := by
  obtain ⟨d, rfl⟩ : ∃ e, d = e + 1 := ⟨d - 1, by omega⟩
  refine mk_met (by decide) (by simp [lgs_r, lgs_i, lgs_l, lgs_n]) (fun X e1 e2 e3 e4 o hL hr hnm hz hc hs hE => ?_)
  subst e1 e2 e3 e4
  rw [show lv_args 0 [va_rf (some a0), .int v1, .int v2, .int v3, .int v4, .int v5] = [(0, va_rf (some a0)), (1, .int v1), (2, .int v2), (3, .int v3), (4, .int v4), (5, .int v5)] by simp [lva_r, lva_i, lva_l, lva_n]]
  exact w_X11_count_0 o hL hr hz hk0 hE hd h
def f_X11_goods (K L : Nat → Nat) (a0 : Nat) (v1 : Int32) (v2 : Int32) (v3 : Int32) (v4 : Int32) (M : Mm) : Option (Int32 × Mm) :=
  Option.bind (f_X11_isCountedAt v2 v3) (fun x1 =>
  if x1 = 0 then
    Option.bind (f_X11_refuse K L a0 (-3 : Int32) M) (fun x29 =>
    some (x29.1, x29.2))
  else
    Option.bind (rc K (mm_R M (32 * 11 + 0) a0) 8) (fun a3 =>
    Option.bind (f_X8_find K L M a3 v1 (31 : Int32)) (fun x5 =>
    if x5 = none then
      Option.bind (f_X11_refuseAt K L a0 v1 (31 : Int32) M) (fun x27 =>
      some (x27.1, x27.2))
    else
      Option.bind (rc K x5 9) (fun a7 =>
      Option.bind (f_X9_rowOf K L M a7 v2) (fun x9 =>
      if x9 = none then
        Option.bind (f_X11_refuse K L a0 (-2 : Int32) M) (fun x25 =>
        some (x25.1, x25.2))
      else
        Option.bind (rc K x9 2) (fun a11 =>
        Option.bind (f_X2_isTold K L M a11 v3) (fun x13 =>
        if x13 = 0 then
          Option.bind (f_X11_refuse K L a0 (-8 : Int32) M) (fun x23 =>
          some (x23.1, x23.2))
        else
          Option.bind (f_X2_callsAt K L M a11 v3) (fun x15 =>
          Option.bind (f_X11_within v4 x15) (fun x17 =>
          if x17 = 0 then
            Option.bind (f_X11_refuse K L a0 (-12 : Int32) M) (fun x21 =>
            some (x21.1, x21.2))
          else
            Option.bind (f_X2_tellGoods K L a11 v3 v4 M) (fun x19 =>
            some ((1 : Int32), x19)))))))))))
set_option maxHeartbeats 4000000 in
theorem w_X11_goods_0 {X : Cx} {d n : Nat} {K L : Nat → Nat} {a0 : Nat} {r : (Int32 × Mm)} {v1 : Int32} {v2 : Int32} {v3 : Int32} {v4 : Int32} {M : Mm} (o : cOk X cX11_goods RX11 (d + 1)) (hL : cL X = 7) (hr : (ch X).sig.returnType = some .int) (hz : (cs X).heap.size + 0 = cB X + n) (hk0 : K a0 = 11) (hE : cE X n K L r.2 (some (.int r.1)) 0 0) (hd : 4 ≤ d + 1) (h : f_X11_goods K L a0 v1 v2 v3 v4 M = some r) : gW X 0 0 n K L M 0 [(0, va_rf (some a0)), (1, .int v1), (2, .int v2), (3, .int v3), (4, .int v4)] [] := by
  unfold f_X11_goods at h
  refine g_iload_n o dX11_goods_0 2 rfl ?_
  refine g_iload_n o dX11_goods_1 3 rfl ?_
  obtain ⟨x1, e2, h⟩ := ob h
  refine g_invS0 o ml_X11_260 kb_X11_isCountedAt ks_X11_isCountedAt (c_X11_isCountedAt (cq X) (cD X) (cY X) (cB X) (d := d) (by omega) e2) rfl rfl (by simp [cat_i, cat_l, cat_rf]) dX11_goods_2 ?_
  refine g_if_ne (tgt := 15) o dX11_goods_5 (by decide) (fun z => ?_) (fun z => ?_)
  · have h := (if_neg z).symm.trans h
    refine g_aload_n o dX11_goods_15 0 rfl ?_
    refine g_getR o fl_X11_10 (rc_self hk0) (by decide) rfl dX11_goods_16 ?_
    refine g_iload_n o dX11_goods_19 1 rfl ?_
    refine g_bipush (v := (31 : Int32)) o dX11_goods_20 (by decide) ?_
    obtain ⟨a3, e4, h⟩ := ob h
    obtain ⟨x5, e6, h⟩ := ob h
    refine g_invV0 o e4 (by decide) ml_X11_54 kb_X8_find kv_X8_find rfl (c_X8_find (cq X) (cD X) (cY X) (cB X) (d := d) (by omega) (rc_at e4).2 e6) rfl rfl (by simp [cat_i, cat_l, cat_rf]) dX11_goods_22 ?_
    refine g_astore (i := 5) (ls' := [(5, va_rf x5), (0, va_rf (some a0)), (1, .int v1), (2, .int v2), (3, .int v3), (4, .int v4)]) o dX11_goods_25 (ltL hL (by decide)) rfl ?_
    refine g_aload o dX11_goods_27 0 rfl ?_
    refine g_ifnonnull (tgt := 40) o dX11_goods_29 (by decide) (fun z => ?_) (fun z => ?_)
    · have h := (if_neg z).symm.trans h
      refine g_aload o dX11_goods_40 0 rfl ?_
      refine g_iload_n o dX11_goods_42 3 rfl ?_
      obtain ⟨a7, e8, h⟩ := ob h
      obtain ⟨x9, e10, h⟩ := ob h
      refine g_invV0 o e8 (by decide) ml_X11_263 kb_X9_rowOf kv_X9_rowOf rfl (c_X9_rowOf (cq X) (cD X) (cY X) (cB X) (d := d) (by omega) (rc_at e8).2 e10) rfl rfl (by simp [cat_i, cat_l, cat_rf]) dX11_goods_43 ?_
      refine g_astore (i := 6) (ls' := [(6, va_rf x9), (5, va_rf x5), (0, va_rf (some a0)), (1, .int v1), (2, .int v2), (3, .int v3), (4, .int v4)]) o dX11_goods_46 (ltL hL (by decide)) (by simp [cat_rf]) ?_
      refine g_aload o dX11_goods_48 0 rfl ?_
      refine g_ifnonnull (tgt := 60) o dX11_goods_50 (by decide) (fun z => ?_) (fun z => ?_)
      · have h := (if_neg z).symm.trans h
        refine g_aload o dX11_goods_60 0 rfl ?_
        refine g_iload_n o dX11_goods_62 5 rfl ?_
        obtain ⟨a11, e12, h⟩ := ob h
        obtain ⟨x13, e14, h⟩ := ob h
        refine g_invV0 o e12 (by decide) ml_X11_275 kb_X2_isTold kv_X2_isTold rfl (c_X2_isTold (cq X) (cD X) (cY X) (cB X) (d := d) (by omega) (rc_at e12).2 e14) rfl rfl (by simp [cat_i, cat_l, cat_rf]) dX11_goods_63 ?_
        refine g_if_ne (tgt := 76) o dX11_goods_66 (by decide) (fun z => ?_) (fun z => ?_)
        · have h := (if_neg z).symm.trans h
          refine g_iload o dX11_goods_76 6 rfl ?_
          refine g_aload o dX11_goods_78 0 rfl ?_
          refine g_iload_n o dX11_goods_80 5 rfl ?_
          obtain ⟨x15, e16, h⟩ := ob h
          refine g_invV0 o e12 (by decide) ml_X11_278 kb_X2_callsAt kv_X2_callsAt rfl (c_X2_callsAt (cq X) (cD X) (cY X) (cB X) (d := d) (by omega) (rc_at e12).2 e16) rfl rfl (by simp [cat_i, cat_l, cat_rf]) dX11_goods_81 ?_
          obtain ⟨x17, e18, h⟩ := ob h
          refine g_invS0 o ml_X11_42 kb_X11_within ks_X11_within (c_X11_within (cq X) (cD X) (cY X) (cB X) (d := d) (by omega) e18) rfl rfl (by simp [cat_i, cat_l, cat_rf]) dX11_goods_84 ?_
          refine g_if_ne (tgt := 97) o dX11_goods_87 (by decide) (fun z => ?_) (fun z => ?_)
          · have h := (if_neg z).symm.trans h
            refine g_aload o dX11_goods_97 0 rfl ?_
            refine g_iload_n o dX11_goods_99 5 rfl ?_
            refine g_iload o dX11_goods_100 6 rfl ?_
            obtain ⟨x19, e20, h⟩ := ob h
            refine g_invV0 o e12 (by decide) ml_X11_281 kb_X2_tellGoods kv_X2_tellGoods rfl (c_X2_tellGoods (cq X) (cD X) (cY X) (cB X) (d := d) (by omega) (rc_at e12).2 e20) rfl rfl (by simp [cat_i, cat_l, cat_rf]) dX11_goods_102 ?_
            refine g_iconst (v := (1 : Int32)) o dX11_goods_105 (by decide) ?_
            cases h
            exact g_iret o hr hE dX11_goods_106
          · have h := (if_pos z).symm.trans h
            refine g_aload_n o dX11_goods_90 2 rfl ?_
            refine g_bipush (v := (-12 : Int32)) o dX11_goods_91 (by decide) ?_
            obtain ⟨x21, e22, h⟩ := ob h
            refine g_invV0 o (rc_self hk0) (by decide) ml_X11_46 kb_X11_refuse kv_X11_refuse rfl (c_X11_refuse (cq X) (cD X) (cY X) (cB X) (d := d) (by omega) (rc_at (rc_self hk0)).2 e22) rfl rfl (by simp [cat_i, cat_l, cat_rf]) dX11_goods_93 ?_
            cases h
            exact g_iret o hr hE dX11_goods_96
        · have h := (if_pos z).symm.trans h
          refine g_aload_n o dX11_goods_69 2 rfl ?_
          refine g_bipush (v := (-8 : Int32)) o dX11_goods_70 (by decide) ?_
          obtain ⟨x23, e24, h⟩ := ob h
          refine g_invV0 o (rc_self hk0) (by decide) ml_X11_46 kb_X11_refuse kv_X11_refuse rfl (c_X11_refuse (cq X) (cD X) (cY X) (cB X) (d := d) (by omega) (rc_at (rc_self hk0)).2 e24) rfl rfl (by simp [cat_i, cat_l, cat_rf]) dX11_goods_72 ?_
          cases h
          exact g_iret o hr hE dX11_goods_75
      · have h := (if_pos z).symm.trans h
        refine g_aload_n o dX11_goods_53 2 rfl ?_
        refine g_bipush (v := (-2 : Int32)) o dX11_goods_54 (by decide) ?_
        obtain ⟨x25, e26, h⟩ := ob h
        refine g_invV0 o (rc_self hk0) (by decide) ml_X11_46 kb_X11_refuse kv_X11_refuse rfl (c_X11_refuse (cq X) (cD X) (cY X) (cB X) (d := d) (by omega) (rc_at (rc_self hk0)).2 e26) rfl rfl (by simp [cat_i, cat_l, cat_rf]) dX11_goods_56 ?_
        cases h
        exact g_iret o hr hE dX11_goods_59
    · have h := (if_pos z).symm.trans h
      refine g_aload_n o dX11_goods_32 1 rfl ?_
      refine g_iload_n o dX11_goods_33 2 rfl ?_
      refine g_bipush (v := (31 : Int32)) o dX11_goods_34 (by decide) ?_
      obtain ⟨x27, e28, h⟩ := ob h
      refine g_invV0 o (rc_self hk0) (by decide) ml_X11_58 kb_X11_refuseAt kv_X11_refuseAt rfl (c_X11_refuseAt (cq X) (cD X) (cY X) (cB X) (d := d) (by omega) (rc_at (rc_self hk0)).2 e28) rfl rfl (by simp [cat_i, cat_l, cat_rf]) dX11_goods_36 ?_
      cases h
      exact g_iret o hr hE dX11_goods_39
  · have h := (if_pos z).symm.trans h
    refine g_aload_n o dX11_goods_8 0 rfl ?_
    refine g_bipush (v := (-3 : Int32)) o dX11_goods_9 (by decide) ?_
    obtain ⟨x29, e30, h⟩ := ob h
    refine g_invV0 o (rc_self hk0) (by decide) ml_X11_46 kb_X11_refuse kv_X11_refuse rfl (c_X11_refuse (cq X) (cD X) (cY X) (cB X) (d := d) (by omega) (rc_at (rc_self hk0)).2 e30) rfl rfl (by simp [cat_i, cat_l, cat_rf]) dX11_goods_11 ?_
    cases h
    exact g_iret o hr hE dX11_goods_14
theorem c_X11_goods (l : Launch) (D : va_G) (Y : Nat → ClassId) (B : Nat) {d : Nat} {n : Nat} {K L : Nat → Nat} {M : Mm} {a0 : Nat} {v1 : Int32} {v2 : Int32} {v3 : Int32} {v4 : Int32} {r : (Int32 × Mm)} (hd : 4 ≤ d) (hk0 : K a0 = 11) (h : f_X11_goods K L a0 v1 v2 v3 v4 M = some r) : mC l D Y B d yX11_goods cX11_goods 7 (some .int) [va_rf (some a0), .int v1, .int v2, .int v3, .int v4] n K L M n K L r.2 (some (.int r.1)) 0 0 := by
  obtain ⟨d, rfl⟩ : ∃ e, d = e + 1 := ⟨d - 1, by omega⟩
  refine mk_met (by decide) (by simp [lgs_r, lgs_i, lgs_l, lgs_n]) (fun X e1 e2 e3 e4 o hL hr hnm hz hc hs hE => ?_)
  subst e1 e2 e3 e4
  rw [show lv_args 0 [va_rf (some a0), .int v1, .int v2, .int v3, .int v4] = [(0, va_rf (some a0)), (1, .int v1), (2, .int v2), (3, .int v3), (4, .int v4)] by simp [lva_r, lva_i, lva_l, lva_n]]
  exact w_X11_goods_0 o hL hr hz hk0 hE hd h
def f_X11_counts_54 (K L : Nat → Nat) (a0 : Nat) (v2 : Int32) (v3 : Int32) (v4 : (Option Nat)) (s0 : Int32) (M : Mm) : Option (Int32 × Mm) :=
  Option.bind (rc K v4 9) (fun a1 =>
  Option.bind (f_X9_beginRow K L a1 v2 v3 M) (fun x3 =>
  some (s0, x3)))
set_option maxHeartbeats 4000000 in
theorem w_X11_counts_54 {X : Cx} {d n : Nat} {K L : Nat → Nat} {a0 : Nat} {r : (Int32 × Mm)} {v2 : Int32} {v3 : Int32} {v4 : (Option Nat)} {s0 : Int32} {M : Mm} (o : cOk X cX11_counts RX11 (d + 1)) (hL : cL X = 6) (hr : (ch X).sig.returnType = some .int) (hz : (cs X).heap.size + 0 = cB X + n) (hk0 : K a0 = 11) (hE : cE X n K L r.2 (some (.int r.1)) 0 0) (hd : 4 ≤ d + 1) (h : f_X11_counts_54 K L a0 v2 v3 v4 s0 M = some r) : gW X 0 0 n K L M 54 [(0, va_rf (some a0)), (2, .int v2), (3, .int v3), (4, va_rf v4)] [.int s0] := by
  unfold f_X11_counts_54 at h
  refine g_istore (i := 5) (ls' := [(5, .int s0), (0, va_rf (some a0)), (2, .int v2), (3, .int v3), (4, va_rf v4)]) o dX11_counts_54 (ltL hL (by decide)) (by simp [cat_rf]) ?_
  refine g_aload o dX11_counts_56 4 rfl ?_
  refine g_iload_n o dX11_counts_58 2 rfl ?_
  refine g_iload_n o dX11_counts_59 3 rfl ?_
  obtain ⟨a1, e2, h⟩ := ob h
  obtain ⟨x3, e4, h⟩ := ob h
  refine g_invV0 o e2 (by decide) ml_X11_284 kb_X9_beginRow kv_X9_beginRow rfl (c_X9_beginRow (cq X) (cD X) (cY X) (cB X) (d := d) (by omega) (rc_at e2).2 e4) rfl rfl (by simp [cat_i, cat_l, cat_rf]) dX11_counts_60 ?_
  refine g_iload o dX11_counts_63 0 rfl ?_
  cases h
  exact g_iret o hr hE dX11_counts_65
def f_X11_counts (K L : Nat → Nat) (a0 : Nat) (v1 : Int32) (v2 : Int32) (v3 : Int32) (M : Mm) : Option (Int32 × Mm) :=
  Option.bind (f_X11_within v2 (3 : Int32)) (fun x1 =>
  if x1 = 0 then
    Option.bind (f_X11_refuse K L a0 (-3 : Int32) M) (fun x13 =>
    some (x13.1, x13.2))
  else
    Option.bind (rc K (mm_R M (32 * 11 + 0) a0) 8) (fun a3 =>
    Option.bind (f_X8_find K L M a3 v1 (31 : Int32)) (fun x5 =>
    if x5 = none then
      Option.bind (f_X11_refuseAt K L a0 v1 (31 : Int32) M) (fun x11 =>
      some (x11.1, x11.2))
    else
      Option.bind (rc K x5 9) (fun a7 =>
      Option.bind (f_X9_rowOf K L M a7 v2) (fun x9 =>
      if x9 = none then
        f_X11_counts_54 K L a0 v2 v3 x5 (0 : Int32) M
      else
        f_X11_counts_54 K L a0 v2 v3 x5 (1 : Int32) M)))))
set_option maxHeartbeats 4000000 in
theorem w_X11_counts_0 {X : Cx} {d n : Nat} {K L : Nat → Nat} {a0 : Nat} {r : (Int32 × Mm)} {v1 : Int32} {v2 : Int32} {v3 : Int32} {M : Mm} (o : cOk X cX11_counts RX11 (d + 1)) (hL : cL X = 6) (hr : (ch X).sig.returnType = some .int) (hz : (cs X).heap.size + 0 = cB X + n) (hk0 : K a0 = 11) (hE : cE X n K L r.2 (some (.int r.1)) 0 0) (hd : 4 ≤ d + 1) (h : f_X11_counts K L a0 v1 v2 v3 M = some r) : gW X 0 0 n K L M 0 [(0, va_rf (some a0)), (1, .int v1), (2, .int v2), (3, .int v3)] [] := by
  unfold f_X11_counts at h
  refine g_iload_n o dX11_counts_0 2 rfl ?_
  refine g_iconst (v := (3 : Int32)) o dX11_counts_1 (by decide) ?_
  obtain ⟨x1, e2, h⟩ := ob h
  refine g_invS0 o ml_X11_42 kb_X11_within ks_X11_within (c_X11_within (cq X) (cD X) (cY X) (cB X) (d := d) (by omega) e2) rfl rfl (by simp [cat_i, cat_l, cat_rf]) dX11_counts_2 ?_
  refine g_if_ne (tgt := 15) o dX11_counts_5 (by decide) (fun z => ?_) (fun z => ?_)
  · have h := (if_neg z).symm.trans h
    refine g_aload_n o dX11_counts_15 0 rfl ?_
    refine g_getR o fl_X11_10 (rc_self hk0) (by decide) rfl dX11_counts_16 ?_
    refine g_iload_n o dX11_counts_19 1 rfl ?_
    refine g_bipush (v := (31 : Int32)) o dX11_counts_20 (by decide) ?_
    obtain ⟨a3, e4, h⟩ := ob h
    obtain ⟨x5, e6, h⟩ := ob h
    refine g_invV0 o e4 (by decide) ml_X11_54 kb_X8_find kv_X8_find rfl (c_X8_find (cq X) (cD X) (cY X) (cB X) (d := d) (by omega) (rc_at e4).2 e6) rfl rfl (by simp [cat_i, cat_l, cat_rf]) dX11_counts_22 ?_
    refine g_astore (i := 4) (ls' := [(4, va_rf x5), (0, va_rf (some a0)), (1, .int v1), (2, .int v2), (3, .int v3)]) o dX11_counts_25 (ltL hL (by decide)) rfl ?_
    refine g_aload o dX11_counts_27 0 rfl ?_
    refine g_ifnonnull (tgt := 40) o dX11_counts_29 (by decide) (fun z => ?_) (fun z => ?_)
    · have h := (if_neg z).symm.trans h
      refine g_aload o dX11_counts_40 0 rfl ?_
      refine g_iload_n o dX11_counts_42 3 rfl ?_
      obtain ⟨a7, e8, h⟩ := ob h
      obtain ⟨x9, e10, h⟩ := ob h
      refine g_invV0 o e8 (by decide) ml_X11_263 kb_X9_rowOf kv_X9_rowOf rfl (c_X9_rowOf (cq X) (cD X) (cY X) (cB X) (d := d) (by omega) (rc_at e8).2 e10) rfl rfl (by simp [cat_i, cat_l, cat_rf]) dX11_counts_43 ?_
      refine g_ifnonnull (tgt := 53) o dX11_counts_46 (by decide) (fun z => ?_) (fun z => ?_)
      · have h := (if_neg z).symm.trans h
        refine g_iconst (v := (1 : Int32)) o dX11_counts_53 (by decide) ?_
        refine gsub [1, 3, 4, 0] rfl ?_
        exact w_X11_counts_54 o hL hr hz hk0 hE hd h
      · have h := (if_pos z).symm.trans h
        refine g_iconst (v := (0 : Int32)) o dX11_counts_49 (by decide) ?_
        refine g_goto (tgt := 54) o dX11_counts_50 (by decide) ?_
        refine gsub [1, 3, 4, 0] rfl ?_
        exact w_X11_counts_54 o hL hr hz hk0 hE hd h
    · have h := (if_pos z).symm.trans h
      refine g_aload_n o dX11_counts_32 1 rfl ?_
      refine g_iload_n o dX11_counts_33 2 rfl ?_
      refine g_bipush (v := (31 : Int32)) o dX11_counts_34 (by decide) ?_
      obtain ⟨x11, e12, h⟩ := ob h
      refine g_invV0 o (rc_self hk0) (by decide) ml_X11_58 kb_X11_refuseAt kv_X11_refuseAt rfl (c_X11_refuseAt (cq X) (cD X) (cY X) (cB X) (d := d) (by omega) (rc_at (rc_self hk0)).2 e12) rfl rfl (by simp [cat_i, cat_l, cat_rf]) dX11_counts_36 ?_
      cases h
      exact g_iret o hr hE dX11_counts_39
  · have h := (if_pos z).symm.trans h
    refine g_aload_n o dX11_counts_8 0 rfl ?_
    refine g_bipush (v := (-3 : Int32)) o dX11_counts_9 (by decide) ?_
    obtain ⟨x13, e14, h⟩ := ob h
    refine g_invV0 o (rc_self hk0) (by decide) ml_X11_46 kb_X11_refuse kv_X11_refuse rfl (c_X11_refuse (cq X) (cD X) (cY X) (cB X) (d := d) (by omega) (rc_at (rc_self hk0)).2 e14) rfl rfl (by simp [cat_i, cat_l, cat_rf]) dX11_counts_11 ?_
    cases h
    exact g_iret o hr hE dX11_counts_14
theorem c_X11_counts (l : Launch) (D : va_G) (Y : Nat → ClassId) (B : Nat) {d : Nat} {n : Nat} {K L : Nat → Nat} {M : Mm} {a0 : Nat} {v1 : Int32} {v2 : Int32} {v3 : Int32} {r : (Int32 × Mm)} (hd : 4 ≤ d) (hk0 : K a0 = 11) (h : f_X11_counts K L a0 v1 v2 v3 M = some r) : mC l D Y B d yX11_counts cX11_counts 6 (some .int) [va_rf (some a0), .int v1, .int v2, .int v3] n K L M n K L r.2 (some (.int r.1)) 0 0 := by
  obtain ⟨d, rfl⟩ : ∃ e, d = e + 1 := ⟨d - 1, by omega⟩
  refine mk_met (by decide) (by simp [lgs_r, lgs_i, lgs_l, lgs_n]) (fun X e1 e2 e3 e4 o hL hr hnm hz hc hs hE => ?_)
  subst e1 e2 e3 e4
  rw [show lv_args 0 [va_rf (some a0), .int v1, .int v2, .int v3] = [(0, va_rf (some a0)), (1, .int v1), (2, .int v2), (3, .int v3)] by simp [lva_r, lva_i, lva_l, lva_n]]
  exact w_X11_counts_0 o hL hr hz hk0 hE hd h
def f_X11_told (K L : Nat → Nat) (a0 : Nat) (v1 : Int32) (v2 : Int32) (v3 : Int32) (v4 : Int32) (M : Mm) : Option (Int32 × Mm) :=
  Option.bind (f_X11_isCountedAt v2 v3) (fun x1 =>
  if x1 = 0 then
    Option.bind (f_X11_refuse K L a0 (-3 : Int32) M) (fun x29 =>
    some (x29.1, x29.2))
  else
    Option.bind (rc K (mm_R M (32 * 11 + 0) a0) 8) (fun a3 =>
    Option.bind (f_X8_find K L M a3 v1 (31 : Int32)) (fun x5 =>
    if x5 = none then
      Option.bind (f_X11_refuseAt K L a0 v1 (31 : Int32) M) (fun x27 =>
      some (x27.1, x27.2))
    else
      Option.bind (rc K x5 9) (fun a7 =>
      Option.bind (f_X9_rowOf K L M a7 v2) (fun x9 =>
      if x9 = none then
        Option.bind (f_X11_refuse K L a0 (-2 : Int32) M) (fun x25 =>
        some (x25.1, x25.2))
      else
        Option.bind (rc K x9 2) (fun a11 =>
        Option.bind (f_X2_isTold K L M a11 v3) (fun x13 =>
        if x13 = 0 then
          Option.bind (f_X11_refuse K L a0 (-8 : Int32) M) (fun x23 =>
          some (x23.1, x23.2))
        else
          if v4 = (0 : Int32) then
            Option.bind (f_X2_callsAt K L M a11 v3) (fun x15 =>
            some (x15, M))
          else
            if v4 = (1 : Int32) then
              Option.bind (f_X2_faultsAt K L M a11 v3) (fun x17 =>
              some (x17, M))
            else
              if v4 = (2 : Int32) then
                Option.bind (f_X2_goodsAt K L M a11 v3) (fun x19 =>
                some (x19, M))
              else
                Option.bind (f_X11_refuse K L a0 (-12 : Int32) M) (fun x21 =>
                some (x21.1, x21.2)))))))))
set_option maxHeartbeats 4000000 in
theorem w_X11_told_0 {X : Cx} {d n : Nat} {K L : Nat → Nat} {a0 : Nat} {r : (Int32 × Mm)} {v1 : Int32} {v2 : Int32} {v3 : Int32} {v4 : Int32} {M : Mm} (o : cOk X cX11_told RX11 (d + 1)) (hL : cL X = 7) (hr : (ch X).sig.returnType = some .int) (hz : (cs X).heap.size + 0 = cB X + n) (hk0 : K a0 = 11) (hE : cE X n K L r.2 (some (.int r.1)) 0 0) (hd : 4 ≤ d + 1) (h : f_X11_told K L a0 v1 v2 v3 v4 M = some r) : gW X 0 0 n K L M 0 [(0, va_rf (some a0)), (1, .int v1), (2, .int v2), (3, .int v3), (4, .int v4)] [] := by
  unfold f_X11_told at h
  refine g_iload_n o dX11_told_0 2 rfl ?_
  refine g_iload_n o dX11_told_1 3 rfl ?_
  obtain ⟨x1, e2, h⟩ := ob h
  refine g_invS0 o ml_X11_260 kb_X11_isCountedAt ks_X11_isCountedAt (c_X11_isCountedAt (cq X) (cD X) (cY X) (cB X) (d := d) (by omega) e2) rfl rfl (by simp [cat_i, cat_l, cat_rf]) dX11_told_2 ?_
  refine g_if_ne (tgt := 15) o dX11_told_5 (by decide) (fun z => ?_) (fun z => ?_)
  · have h := (if_neg z).symm.trans h
    refine g_aload_n o dX11_told_15 0 rfl ?_
    refine g_getR o fl_X11_10 (rc_self hk0) (by decide) rfl dX11_told_16 ?_
    refine g_iload_n o dX11_told_19 1 rfl ?_
    refine g_bipush (v := (31 : Int32)) o dX11_told_20 (by decide) ?_
    obtain ⟨a3, e4, h⟩ := ob h
    obtain ⟨x5, e6, h⟩ := ob h
    refine g_invV0 o e4 (by decide) ml_X11_54 kb_X8_find kv_X8_find rfl (c_X8_find (cq X) (cD X) (cY X) (cB X) (d := d) (by omega) (rc_at e4).2 e6) rfl rfl (by simp [cat_i, cat_l, cat_rf]) dX11_told_22 ?_
    refine g_astore (i := 5) (ls' := [(5, va_rf x5), (0, va_rf (some a0)), (1, .int v1), (2, .int v2), (3, .int v3), (4, .int v4)]) o dX11_told_25 (ltL hL (by decide)) rfl ?_
    refine g_aload o dX11_told_27 0 rfl ?_
    refine g_ifnonnull (tgt := 40) o dX11_told_29 (by decide) (fun z => ?_) (fun z => ?_)
    · have h := (if_neg z).symm.trans h
      refine g_aload o dX11_told_40 0 rfl ?_
      refine g_iload_n o dX11_told_42 3 rfl ?_
      obtain ⟨a7, e8, h⟩ := ob h
      obtain ⟨x9, e10, h⟩ := ob h
      refine g_invV0 o e8 (by decide) ml_X11_263 kb_X9_rowOf kv_X9_rowOf rfl (c_X9_rowOf (cq X) (cD X) (cY X) (cB X) (d := d) (by omega) (rc_at e8).2 e10) rfl rfl (by simp [cat_i, cat_l, cat_rf]) dX11_told_43 ?_
      refine g_astore (i := 6) (ls' := [(6, va_rf x9), (5, va_rf x5), (0, va_rf (some a0)), (1, .int v1), (2, .int v2), (3, .int v3), (4, .int v4)]) o dX11_told_46 (ltL hL (by decide)) (by simp [cat_rf]) ?_
      refine g_aload o dX11_told_48 0 rfl ?_
      refine g_ifnonnull (tgt := 60) o dX11_told_50 (by decide) (fun z => ?_) (fun z => ?_)
      · have h := (if_neg z).symm.trans h
        refine g_aload o dX11_told_60 0 rfl ?_
        refine g_iload_n o dX11_told_62 5 rfl ?_
        obtain ⟨a11, e12, h⟩ := ob h
        obtain ⟨x13, e14, h⟩ := ob h
        refine g_invV0 o e12 (by decide) ml_X11_275 kb_X2_isTold kv_X2_isTold rfl (c_X2_isTold (cq X) (cD X) (cY X) (cB X) (d := d) (by omega) (rc_at e12).2 e14) rfl rfl (by simp [cat_i, cat_l, cat_rf]) dX11_told_63 ?_
        refine g_if_ne (tgt := 76) o dX11_told_66 (by decide) (fun z => ?_) (fun z => ?_)
        · have h := (if_neg z).symm.trans h
          refine g_iload o dX11_told_76 6 rfl ?_
          by_cases z0 : v4 = (0 : Int32)
          · have h := (if_pos z0).symm.trans h
            refine g_tableIn (tgt := 104) o dX11_told_78 (by rw [z0]; decide) (by rw [z0]; decide) (by first | (rw [z0]; done) | (rw [z0]; rfl)) (by decide) ?_
            refine g_aload o dX11_told_104 0 rfl ?_
            refine g_iload_n o dX11_told_106 5 rfl ?_
            obtain ⟨x15, e16, h⟩ := ob h
            refine g_invV0 o e12 (by decide) ml_X11_278 kb_X2_callsAt kv_X2_callsAt rfl (c_X2_callsAt (cq X) (cD X) (cY X) (cB X) (d := d) (by omega) (rc_at e12).2 e16) rfl rfl (by simp [cat_i, cat_l, cat_rf]) dX11_told_107 ?_
            cases h
            exact g_iret o hr hE dX11_told_110
          · have h := (if_neg z0).symm.trans h
            by_cases z1 : v4 = (1 : Int32)
            · have h := (if_pos z1).symm.trans h
              refine g_tableIn (tgt := 111) o dX11_told_78 (by rw [z1]; decide) (by rw [z1]; decide) (by first | (rw [z1]; done) | (rw [z1]; rfl)) (by decide) ?_
              refine g_aload o dX11_told_111 0 rfl ?_
              refine g_iload_n o dX11_told_113 5 rfl ?_
              obtain ⟨x17, e18, h⟩ := ob h
              refine g_invV0 o e12 (by decide) ml_X11_288 kb_X2_faultsAt kv_X2_faultsAt rfl (c_X2_faultsAt (cq X) (cD X) (cY X) (cB X) (d := d) (by omega) (rc_at e12).2 e18) rfl rfl (by simp [cat_i, cat_l, cat_rf]) dX11_told_114 ?_
              cases h
              exact g_iret o hr hE dX11_told_117
            · have h := (if_neg z1).symm.trans h
              by_cases z2 : v4 = (2 : Int32)
              · have h := (if_pos z2).symm.trans h
                refine g_tableIn (tgt := 118) o dX11_told_78 (by rw [z2]; decide) (by rw [z2]; decide) (by first | (rw [z2]; done) | (rw [z2]; rfl)) (by decide) ?_
                refine g_aload o dX11_told_118 0 rfl ?_
                refine g_iload_n o dX11_told_120 5 rfl ?_
                obtain ⟨x19, e20, h⟩ := ob h
                refine g_invV0 o e12 (by decide) ml_X11_291 kb_X2_goodsAt kv_X2_goodsAt rfl (c_X2_goodsAt (cq X) (cD X) (cY X) (cB X) (d := d) (by omega) (rc_at e12).2 e20) rfl rfl (by simp [cat_i, cat_l, cat_rf]) dX11_told_121 ?_
                cases h
                exact g_iret o hr hE dX11_told_124
              · have h := (if_neg z2).symm.trans h
                refine g_tableOut (tgt := 125) o dX11_told_78 (ts_d 3 (by decide) (fun q hq => by rcases (show q = 0 ∨ q = 1 ∨ q = 2 by omega) with rfl | rfl | rfl <;> assumption)) (by decide) ?_
                refine g_aload_n o dX11_told_125 2 rfl ?_
                refine g_bipush (v := (-12 : Int32)) o dX11_told_126 (by decide) ?_
                obtain ⟨x21, e22, h⟩ := ob h
                refine g_invV0 o (rc_self hk0) (by decide) ml_X11_46 kb_X11_refuse kv_X11_refuse rfl (c_X11_refuse (cq X) (cD X) (cY X) (cB X) (d := d) (by omega) (rc_at (rc_self hk0)).2 e22) rfl rfl (by simp [cat_i, cat_l, cat_rf]) dX11_told_128 ?_
                cases h
                exact g_iret o hr hE dX11_told_131
        · have h := (if_pos z).symm.trans h
          refine g_aload_n o dX11_told_69 2 rfl ?_
          refine g_bipush (v := (-8 : Int32)) o dX11_told_70 (by decide) ?_
          obtain ⟨x23, e24, h⟩ := ob h
          refine g_invV0 o (rc_self hk0) (by decide) ml_X11_46 kb_X11_refuse kv_X11_refuse rfl (c_X11_refuse (cq X) (cD X) (cY X) (cB X) (d := d) (by omega) (rc_at (rc_self hk0)).2 e24) rfl rfl (by simp [cat_i, cat_l, cat_rf]) dX11_told_72 ?_
          cases h
          exact g_iret o hr hE dX11_told_75
      · have h := (if_pos z).symm.trans h
        refine g_aload_n o dX11_told_53 2 rfl ?_
        refine g_bipush (v := (-2 : Int32)) o dX11_told_54 (by decide) ?_
        obtain ⟨x25, e26, h⟩ := ob h
        refine g_invV0 o (rc_self hk0) (by decide) ml_X11_46 kb_X11_refuse kv_X11_refuse rfl (c_X11_refuse (cq X) (cD X) (cY X) (cB X) (d := d) (by omega) (rc_at (rc_self hk0)).2 e26) rfl rfl (by simp [cat_i, cat_l, cat_rf]) dX11_told_56 ?_
        cases h
        exact g_iret o hr hE dX11_told_59
    · have h := (if_pos z).symm.trans h
      refine g_aload_n o dX11_told_32 1 rfl ?_
      refine g_iload_n o dX11_told_33 2 rfl ?_
      refine g_bipush (v := (31 : Int32)) o dX11_told_34 (by decide) ?_
      obtain ⟨x27, e28, h⟩ := ob h
      refine g_invV0 o (rc_self hk0) (by decide) ml_X11_58 kb_X11_refuseAt kv_X11_refuseAt rfl (c_X11_refuseAt (cq X) (cD X) (cY X) (cB X) (d := d) (by omega) (rc_at (rc_self hk0)).2 e28) rfl rfl (by simp [cat_i, cat_l, cat_rf]) dX11_told_36 ?_
      cases h
      exact g_iret o hr hE dX11_told_39
  · have h := (if_pos z).symm.trans h
    refine g_aload_n o dX11_told_8 0 rfl ?_
    refine g_bipush (v := (-3 : Int32)) o dX11_told_9 (by decide) ?_
    obtain ⟨x29, e30, h⟩ := ob h
    refine g_invV0 o (rc_self hk0) (by decide) ml_X11_46 kb_X11_refuse kv_X11_refuse rfl (c_X11_refuse (cq X) (cD X) (cY X) (cB X) (d := d) (by omega) (rc_at (rc_self hk0)).2 e30) rfl rfl (by simp [cat_i, cat_l, cat_rf]) dX11_told_11 ?_
    cases h
    exact g_iret o hr hE dX11_told_14
theorem c_X11_told (l : Launch) (D : va_G) (Y : Nat → ClassId) (B : Nat) {d : Nat} {n : Nat} {K L : Nat → Nat} {M : Mm} {a0 : Nat} {v1 : Int32} {v2 : Int32} {v3 : Int32} {v4 : Int32} {r : (Int32 × Mm)} (hd : 4 ≤ d) (hk0 : K a0 = 11) (h : f_X11_told K L a0 v1 v2 v3 v4 M = some r) : mC l D Y B d yX11_told cX11_told 7 (some .int) [va_rf (some a0), .int v1, .int v2, .int v3, .int v4] n K L M n K L r.2 (some (.int r.1)) 0 0 := by
  obtain ⟨d, rfl⟩ : ∃ e, d = e + 1 := ⟨d - 1, by omega⟩
  refine mk_met (by decide) (by simp [lgs_r, lgs_i, lgs_l, lgs_n]) (fun X e1 e2 e3 e4 o hL hr hnm hz hc hs hE => ?_)
  subst e1 e2 e3 e4
  rw [show lv_args 0 [va_rf (some a0), .int v1, .int v2, .int v3, .int v4] = [(0, va_rf (some a0)), (1, .int v1), (2, .int v2), (3, .int v3), (4, .int v4)] by simp [lva_r, lva_i, lva_l, lva_n]]
  exact w_X11_told_0 o hL hr hz hk0 hE hd h
def f_X11_left (K L : Nat → Nat) (fu : Nat) (a0 : Nat) (v1 : Int32) (v2 : Int32) (M : Mm) : Option (Int32 × Mm) :=
  Option.bind (f_X11_within v2 (239 : Int32)) (fun x1 =>
  if x1 = 0 then
    Option.bind (f_X11_refuse K L a0 (-3 : Int32) M) (fun x27 =>
    some (x27.1, x27.2))
  else
    Option.bind (rc K (mm_R M (32 * 11 + 0) a0) 8) (fun a3 =>
    Option.bind (f_X8_find K L M a3 v1 (6 : Int32)) (fun x5 =>
    if x5 = none then
      Option.bind (f_X11_refuseAt K L a0 v1 (6 : Int32) M) (fun x25 =>
      some (x25.1, x25.2))
    else
      Option.bind (rc K x5 9) (fun a7 =>
      Option.bind (f_X9_rowOf K L M a7 (1 : Int32)) (fun x9 =>
      if x9 = none then
        Option.bind (f_X11_refuse K L a0 (-2 : Int32) M) (fun x23 =>
        some (x23.1, x23.2))
      else
        Option.bind (rc K (mm_R M (32 * 9 + 10) a7) 0) (fun a11 =>
        Option.bind (f_X0_windowStart K L M a11 v2) (fun x13 =>
        Option.bind (rc K x9 2) (fun a15 =>
        Option.bind (f_X2_areTold K L fu M a15 x13 v2) (fun x17 =>
        if x17 = 0 then
          Option.bind (f_X11_refuse K L a0 (-8 : Int32) M) (fun x21 =>
          some (x21.1, x21.2))
        else
          Option.bind (f_X0_faultsLeft K L fu M a11 x9 v2) (fun x19 =>
          some (x19, M)))))))))))
set_option maxHeartbeats 4000000 in
theorem w_X11_left_0 {X : Cx} {d n : Nat} {K L : Nat → Nat} {fu : Nat} {a0 : Nat} {r : (Int32 × Mm)} {v1 : Int32} {v2 : Int32} {M : Mm} (o : cOk X cX11_left RX11 (d + 1)) (hL : cL X = 5) (hr : (ch X).sig.returnType = some .int) (hz : (cs X).heap.size + 0 = cB X + n) (hk0 : K a0 = 11) (hE : cE X n K L r.2 (some (.int r.1)) 0 0) (hd : 4 ≤ d + 1) (h : f_X11_left K L fu a0 v1 v2 M = some r) : gW X 0 0 n K L M 0 [(0, va_rf (some a0)), (1, .int v1), (2, .int v2)] [] := by
  unfold f_X11_left at h
  refine g_iload_n o dX11_left_0 2 rfl ?_
  refine g_sipush (v := (239 : Int32)) o dX11_left_1 (by decide) ?_
  obtain ⟨x1, e2, h⟩ := ob h
  refine g_invS0 o ml_X11_42 kb_X11_within ks_X11_within (c_X11_within (cq X) (cD X) (cY X) (cB X) (d := d) (by omega) e2) rfl rfl (by simp [cat_i, cat_l, cat_rf]) dX11_left_4 ?_
  refine g_if_ne (tgt := 17) o dX11_left_7 (by decide) (fun z => ?_) (fun z => ?_)
  · have h := (if_neg z).symm.trans h
    refine g_aload_n o dX11_left_17 0 rfl ?_
    refine g_getR o fl_X11_10 (rc_self hk0) (by decide) rfl dX11_left_18 ?_
    refine g_iload_n o dX11_left_21 1 rfl ?_
    refine g_bipush (v := (6 : Int32)) o dX11_left_22 (by decide) ?_
    obtain ⟨a3, e4, h⟩ := ob h
    obtain ⟨x5, e6, h⟩ := ob h
    refine g_invV0 o e4 (by decide) ml_X11_54 kb_X8_find kv_X8_find rfl (c_X8_find (cq X) (cD X) (cY X) (cB X) (d := d) (by omega) (rc_at e4).2 e6) rfl rfl (by simp [cat_i, cat_l, cat_rf]) dX11_left_24 ?_
    refine g_astore_n (i := 3) (ls' := [(3, va_rf x5), (0, va_rf (some a0)), (1, .int v1), (2, .int v2)]) o dX11_left_27 rfl (ltL hL (by decide)) rfl ?_
    refine g_aload_n o dX11_left_28 0 rfl ?_
    refine g_ifnonnull (tgt := 40) o dX11_left_29 (by decide) (fun z => ?_) (fun z => ?_)
    · have h := (if_neg z).symm.trans h
      refine g_aload_n o dX11_left_40 0 rfl ?_
      refine g_iconst (v := (1 : Int32)) o dX11_left_41 (by decide) ?_
      obtain ⟨a7, e8, h⟩ := ob h
      obtain ⟨x9, e10, h⟩ := ob h
      refine g_invV0 o e8 (by decide) ml_X11_263 kb_X9_rowOf kv_X9_rowOf rfl (c_X9_rowOf (cq X) (cD X) (cY X) (cB X) (d := d) (by omega) (rc_at e8).2 e10) rfl rfl (by simp [cat_i, cat_l, cat_rf]) dX11_left_42 ?_
      refine g_astore (i := 4) (ls' := [(4, va_rf x9), (3, va_rf x5), (0, va_rf (some a0)), (1, .int v1), (2, .int v2)]) o dX11_left_45 (ltL hL (by decide)) (by simp [cat_rf]) ?_
      refine g_aload o dX11_left_47 0 rfl ?_
      refine g_ifnonnull (tgt := 59) o dX11_left_49 (by decide) (fun z => ?_) (fun z => ?_)
      · have h := (if_neg z).symm.trans h
        refine g_aload o dX11_left_59 0 rfl ?_
        refine g_aload_n o dX11_left_61 1 rfl ?_
        refine g_getR o fl_X11_240 e8 (by decide) rfl dX11_left_62 ?_
        refine g_iload_n o dX11_left_65 4 rfl ?_
        obtain ⟨a11, e12, h⟩ := ob h
        obtain ⟨x13, e14, h⟩ := ob h
        refine g_invV0 o e12 (by decide) ml_X11_294 kb_X0_windowStart kv_X0_windowStart rfl (c_X0_windowStart (cq X) (cD X) (cY X) (cB X) (d := d) (by omega) (rc_at e12).2 e14) rfl rfl (by simp [cat_i, cat_l, cat_rf]) dX11_left_66 ?_
        refine g_iload_n o dX11_left_69 4 rfl ?_
        obtain ⟨a15, e16, h⟩ := ob h
        obtain ⟨x17, e18, h⟩ := ob h
        refine g_invV0 o e16 (by decide) ml_X11_297 kb_X2_areTold kv_X2_areTold rfl (c_X2_areTold (cq X) (cD X) (cY X) (cB X) (d := d) (by omega) (rc_at e16).2 e18) rfl rfl (by simp [cat_i, cat_l, cat_rf]) dX11_left_70 ?_
        refine g_if_ne (tgt := 83) o dX11_left_73 (by decide) (fun z => ?_) (fun z => ?_)
        · have h := (if_neg z).symm.trans h
          refine g_aload_n o dX11_left_83 1 rfl ?_
          refine g_getR o fl_X11_240 e8 (by decide) rfl dX11_left_84 ?_
          refine g_aload o dX11_left_87 0 rfl ?_
          refine g_iload_n o dX11_left_89 4 rfl ?_
          obtain ⟨x19, e20, h⟩ := ob h
          refine g_invV0 o e12 (by decide) ml_X11_300 kb_X0_faultsLeft kv_X0_faultsLeft rfl (c_X0_faultsLeft (cq X) (cD X) (cY X) (cB X) (d := d) (by omega) (rc_at e12).2 e20) rfl rfl (by simp [cat_i, cat_l, cat_rf]) dX11_left_90 ?_
          cases h
          exact g_iret o hr hE dX11_left_93
        · have h := (if_pos z).symm.trans h
          refine g_aload_n o dX11_left_76 2 rfl ?_
          refine g_bipush (v := (-8 : Int32)) o dX11_left_77 (by decide) ?_
          obtain ⟨x21, e22, h⟩ := ob h
          refine g_invV0 o (rc_self hk0) (by decide) ml_X11_46 kb_X11_refuse kv_X11_refuse rfl (c_X11_refuse (cq X) (cD X) (cY X) (cB X) (d := d) (by omega) (rc_at (rc_self hk0)).2 e22) rfl rfl (by simp [cat_i, cat_l, cat_rf]) dX11_left_79 ?_
          cases h
          exact g_iret o hr hE dX11_left_82
      · have h := (if_pos z).symm.trans h
        refine g_aload_n o dX11_left_52 2 rfl ?_
        refine g_bipush (v := (-2 : Int32)) o dX11_left_53 (by decide) ?_
        obtain ⟨x23, e24, h⟩ := ob h
        refine g_invV0 o (rc_self hk0) (by decide) ml_X11_46 kb_X11_refuse kv_X11_refuse rfl (c_X11_refuse (cq X) (cD X) (cY X) (cB X) (d := d) (by omega) (rc_at (rc_self hk0)).2 e24) rfl rfl (by simp [cat_i, cat_l, cat_rf]) dX11_left_55 ?_
        cases h
        exact g_iret o hr hE dX11_left_58
    · have h := (if_pos z).symm.trans h
      refine g_aload_n o dX11_left_32 1 rfl ?_
      refine g_iload_n o dX11_left_33 2 rfl ?_
      refine g_bipush (v := (6 : Int32)) o dX11_left_34 (by decide) ?_
      obtain ⟨x25, e26, h⟩ := ob h
      refine g_invV0 o (rc_self hk0) (by decide) ml_X11_58 kb_X11_refuseAt kv_X11_refuseAt rfl (c_X11_refuseAt (cq X) (cD X) (cY X) (cB X) (d := d) (by omega) (rc_at (rc_self hk0)).2 e26) rfl rfl (by simp [cat_i, cat_l, cat_rf]) dX11_left_36 ?_
      cases h
      exact g_iret o hr hE dX11_left_39
  · have h := (if_pos z).symm.trans h
    refine g_aload_n o dX11_left_10 0 rfl ?_
    refine g_bipush (v := (-3 : Int32)) o dX11_left_11 (by decide) ?_
    obtain ⟨x27, e28, h⟩ := ob h
    refine g_invV0 o (rc_self hk0) (by decide) ml_X11_46 kb_X11_refuse kv_X11_refuse rfl (c_X11_refuse (cq X) (cD X) (cY X) (cB X) (d := d) (by omega) (rc_at (rc_self hk0)).2 e28) rfl rfl (by simp [cat_i, cat_l, cat_rf]) dX11_left_13 ?_
    cases h
    exact g_iret o hr hE dX11_left_16
theorem c_X11_left (l : Launch) (D : va_G) (Y : Nat → ClassId) (B : Nat) {d : Nat} {n : Nat} {K L : Nat → Nat} {fu : Nat} {M : Mm} {a0 : Nat} {v1 : Int32} {v2 : Int32} {r : (Int32 × Mm)} (hd : 4 ≤ d) (hk0 : K a0 = 11) (h : f_X11_left K L fu a0 v1 v2 M = some r) : mC l D Y B d yX11_left cX11_left 5 (some .int) [va_rf (some a0), .int v1, .int v2] n K L M n K L r.2 (some (.int r.1)) 0 0 := by
  obtain ⟨d, rfl⟩ : ∃ e, d = e + 1 := ⟨d - 1, by omega⟩
  refine mk_met (by decide) (by simp [lgs_r, lgs_i, lgs_l, lgs_n]) (fun X e1 e2 e3 e4 o hL hr hnm hz hc hs hE => ?_)
  subst e1 e2 e3 e4
  rw [show lv_args 0 [va_rf (some a0), .int v1, .int v2] = [(0, va_rf (some a0)), (1, .int v1), (2, .int v2)] by simp [lva_r, lva_i, lva_l, lva_n]]
  exact w_X11_left_0 o hL hr hz hk0 hE hd h
def f_X11_trial_78 (K L : Nat → Nat) (a0 : Nat) (M : Mm) : Option (Int32 × Mm) :=
  Option.bind (f_X11_refuse K L a0 (-12 : Int32) M) (fun x1 =>
  some (x1.1, x1.2))
set_option maxHeartbeats 4000000 in
theorem w_X11_trial_78 {X : Cx} {d n : Nat} {K L : Nat → Nat} {a0 : Nat} {r : (Int32 × Mm)} {M : Mm} (o : cOk X cX11_trial RX11 (d + 1)) (hL : cL X = 7) (hr : (ch X).sig.returnType = some .int) (hz : (cs X).heap.size + 0 = cB X + n) (hk0 : K a0 = 11) (hE : cE X n K L r.2 (some (.int r.1)) 0 0) (hd : 4 ≤ d + 1) (h : f_X11_trial_78 K L a0  M = some r) : gW X 0 0 n K L M 78 [(0, va_rf (some a0))] [] := by
  unfold f_X11_trial_78 at h
  refine g_aload_n o dX11_trial_78 0 rfl ?_
  refine g_bipush (v := (-12 : Int32)) o dX11_trial_79 (by decide) ?_
  obtain ⟨x1, e2, h⟩ := ob h
  refine g_invV0 o (rc_self hk0) (by decide) ml_X11_46 kb_X11_refuse kv_X11_refuse rfl (c_X11_refuse (cq X) (cD X) (cY X) (cB X) (d := d) (by omega) (rc_at (rc_self hk0)).2 e2) rfl rfl (by simp [cat_i, cat_l, cat_rf]) dX11_trial_81 ?_
  cases h
  exact g_iret o hr hE dX11_trial_84
def f_X11_trial_16 (K L : Nat → Nat) (a0 : Nat) (M : Mm) : Option (Int32 × Mm) :=
  Option.bind (f_X11_refuse K L a0 (-3 : Int32) M) (fun x1 =>
  some (x1.1, x1.2))
set_option maxHeartbeats 4000000 in
theorem w_X11_trial_16 {X : Cx} {d n : Nat} {K L : Nat → Nat} {a0 : Nat} {r : (Int32 × Mm)} {M : Mm} (o : cOk X cX11_trial RX11 (d + 1)) (hL : cL X = 7) (hr : (ch X).sig.returnType = some .int) (hz : (cs X).heap.size + 0 = cB X + n) (hk0 : K a0 = 11) (hE : cE X n K L r.2 (some (.int r.1)) 0 0) (hd : 4 ≤ d + 1) (h : f_X11_trial_16 K L a0  M = some r) : gW X 0 0 n K L M 16 [(0, va_rf (some a0))] [] := by
  unfold f_X11_trial_16 at h
  refine g_aload_n o dX11_trial_16 0 rfl ?_
  refine g_bipush (v := (-3 : Int32)) o dX11_trial_17 (by decide) ?_
  obtain ⟨x1, e2, h⟩ := ob h
  refine g_invV0 o (rc_self hk0) (by decide) ml_X11_46 kb_X11_refuse kv_X11_refuse rfl (c_X11_refuse (cq X) (cD X) (cY X) (cB X) (d := d) (by omega) (rc_at (rc_self hk0)).2 e2) rfl rfl (by simp [cat_i, cat_l, cat_rf]) dX11_trial_19 ?_
  cases h
  exact g_iret o hr hE dX11_trial_22
def f_X11_trial (K L : Nat → Nat) (a0 : Nat) (v1 : Int32) (v2 : Int32) (v3 : Int32) (v4 : Int32) (v5 : Int32) (M : Mm) : Option (Int32 × Mm) :=
  Option.bind (f_X11_within v2 (3 : Int32)) (fun x1 =>
  if x1 = 0 then
    f_X11_trial_16 K L a0 M
  else
    Option.bind (f_X11_within v3 (3 : Int32)) (fun x3 =>
    if x3 = 0 then
      f_X11_trial_16 K L a0 M
    else
      Option.bind (rc K (mm_R M (32 * 11 + 0) a0) 8) (fun a5 =>
      Option.bind (f_X8_find K L M a5 v1 (4 : Int32)) (fun x7 =>
      if x7 = none then
        Option.bind (f_X11_refuseAt K L a0 v1 (4 : Int32) M) (fun x15 =>
        some (x15.1, x15.2))
      else
        if v2 = v3 then
          f_X11_trial_78 K L a0 M
        else
          if v4 < (1 : Int32) then
            f_X11_trial_78 K L a0 M
          else
            if (5000 : Int32) < v4 then
              f_X11_trial_78 K L a0 M
            else
              if v5 < (1 : Int32) then
                f_X11_trial_78 K L a0 M
              else
                if v5 ≤ (20 : Int32) then
                  Option.bind (rc K x7 9) (fun a9 =>
                  Option.bind (rc K (mm_R M (32 * 9 + 11) a9) 10) (fun a11 =>
                  Option.bind (f_X10_begin K L a11 v2 v3 v4 v5 M) (fun x13 =>
                  some ((1 : Int32), x13))))
                else
                  f_X11_trial_78 K L a0 M))))
set_option maxHeartbeats 4000000 in
theorem w_X11_trial_0 {X : Cx} {d n : Nat} {K L : Nat → Nat} {a0 : Nat} {r : (Int32 × Mm)} {v1 : Int32} {v2 : Int32} {v3 : Int32} {v4 : Int32} {v5 : Int32} {M : Mm} (o : cOk X cX11_trial RX11 (d + 1)) (hL : cL X = 7) (hr : (ch X).sig.returnType = some .int) (hz : (cs X).heap.size + 0 = cB X + n) (hk0 : K a0 = 11) (hE : cE X n K L r.2 (some (.int r.1)) 0 0) (hd : 4 ≤ d + 1) (h : f_X11_trial K L a0 v1 v2 v3 v4 v5 M = some r) : gW X 0 0 n K L M 0 [(0, va_rf (some a0)), (1, .int v1), (2, .int v2), (3, .int v3), (4, .int v4), (5, .int v5)] [] := by
  unfold f_X11_trial at h
  refine g_iload_n o dX11_trial_0 2 rfl ?_
  refine g_iconst (v := (3 : Int32)) o dX11_trial_1 (by decide) ?_
  obtain ⟨x1, e2, h⟩ := ob h
  refine g_invS0 o ml_X11_42 kb_X11_within ks_X11_within (c_X11_within (cq X) (cD X) (cY X) (cB X) (d := d) (by omega) e2) rfl rfl (by simp [cat_i, cat_l, cat_rf]) dX11_trial_2 ?_
  refine g_if_eq (tgt := 16) o dX11_trial_5 (by decide) (fun z => ?_) (fun z => ?_)
  · have h := (if_pos z).symm.trans h
    refine gsub [0] rfl ?_
    exact w_X11_trial_16 o hL hr hz hk0 hE hd h
  · have h := (if_neg z).symm.trans h
    refine g_iload_n o dX11_trial_8 3 rfl ?_
    refine g_iconst (v := (3 : Int32)) o dX11_trial_9 (by decide) ?_
    obtain ⟨x3, e4, h⟩ := ob h
    refine g_invS0 o ml_X11_42 kb_X11_within ks_X11_within (c_X11_within (cq X) (cD X) (cY X) (cB X) (d := d) (by omega) e4) rfl rfl (by simp [cat_i, cat_l, cat_rf]) dX11_trial_10 ?_
    refine g_if_ne (tgt := 23) o dX11_trial_13 (by decide) (fun z => ?_) (fun z => ?_)
    · have h := (if_neg z).symm.trans h
      refine g_aload_n o dX11_trial_23 0 rfl ?_
      refine g_getR o fl_X11_10 (rc_self hk0) (by decide) rfl dX11_trial_24 ?_
      refine g_iload_n o dX11_trial_27 1 rfl ?_
      refine g_iconst (v := (4 : Int32)) o dX11_trial_28 (by decide) ?_
      obtain ⟨a5, e6, h⟩ := ob h
      obtain ⟨x7, e8, h⟩ := ob h
      refine g_invV0 o e6 (by decide) ml_X11_54 kb_X8_find kv_X8_find rfl (c_X8_find (cq X) (cD X) (cY X) (cB X) (d := d) (by omega) (rc_at e6).2 e8) rfl rfl (by simp [cat_i, cat_l, cat_rf]) dX11_trial_29 ?_
      refine g_astore (i := 6) (ls' := [(6, va_rf x7), (0, va_rf (some a0)), (1, .int v1), (2, .int v2), (3, .int v3), (4, .int v4), (5, .int v5)]) o dX11_trial_32 (ltL hL (by decide)) rfl ?_
      refine g_aload o dX11_trial_34 0 rfl ?_
      refine g_ifnonnull (tgt := 46) o dX11_trial_36 (by decide) (fun z => ?_) (fun z => ?_)
      · have h := (if_neg z).symm.trans h
        refine g_iload_n o dX11_trial_46 3 rfl ?_
        refine g_iload_n o dX11_trial_47 4 rfl ?_
        refine g_icmp_eq (tgt := 78) o dX11_trial_48 (by decide) (fun z => ?_) (fun z => ?_)
        · have h := (if_pos z).symm.trans h
          refine gsub [1] rfl ?_
          exact w_X11_trial_78 o hL hr hz hk0 hE hd h
        · have h := (if_neg z).symm.trans h
          refine g_iload o dX11_trial_51 5 rfl ?_
          refine g_iconst (v := (1 : Int32)) o dX11_trial_53 (by decide) ?_
          refine g_icmp_lt (tgt := 78) o dX11_trial_54 (by decide) (fun z => ?_) (fun z => ?_)
          · have h := (if_pos z).symm.trans h
            refine gsub [1] rfl ?_
            exact w_X11_trial_78 o hL hr hz hk0 hE hd h
          · have h := (if_neg z).symm.trans h
            refine g_iload o dX11_trial_57 5 rfl ?_
            refine g_sipush (v := (5000 : Int32)) o dX11_trial_59 (by decide) ?_
            refine g_icmp_gt (tgt := 78) o dX11_trial_62 (by decide) (fun z => ?_) (fun z => ?_)
            · have h := (if_pos z).symm.trans h
              refine gsub [1] rfl ?_
              exact w_X11_trial_78 o hL hr hz hk0 hE hd h
            · have h := (if_neg z).symm.trans h
              refine g_iload o dX11_trial_65 6 rfl ?_
              refine g_iconst (v := (1 : Int32)) o dX11_trial_67 (by decide) ?_
              refine g_icmp_lt (tgt := 78) o dX11_trial_68 (by decide) (fun z => ?_) (fun z => ?_)
              · have h := (if_pos z).symm.trans h
                refine gsub [1] rfl ?_
                exact w_X11_trial_78 o hL hr hz hk0 hE hd h
              · have h := (if_neg z).symm.trans h
                refine g_iload o dX11_trial_71 6 rfl ?_
                refine g_bipush (v := (20 : Int32)) o dX11_trial_73 (by decide) ?_
                refine g_icmp_le (tgt := 85) o dX11_trial_75 (by decide) (fun z => ?_) (fun z => ?_)
                · have h := (if_pos z).symm.trans h
                  refine g_aload o dX11_trial_85 0 rfl ?_
                  obtain ⟨a9, e10, h⟩ := ob h
                  refine g_getR o fl_X11_304 e10 (by decide) rfl dX11_trial_87 ?_
                  refine g_iload_n o dX11_trial_90 3 rfl ?_
                  refine g_iload_n o dX11_trial_91 4 rfl ?_
                  refine g_iload o dX11_trial_92 5 rfl ?_
                  refine g_iload o dX11_trial_94 6 rfl ?_
                  obtain ⟨a11, e12, h⟩ := ob h
                  obtain ⟨x13, e14, h⟩ := ob h
                  refine g_invV0 o e12 (by decide) ml_X11_308 kb_X10_begin kv_X10_begin rfl (c_X10_begin (cq X) (cD X) (cY X) (cB X) (d := d) (by omega) (rc_at e12).2 e14) rfl rfl (by simp [cat_i, cat_l, cat_rf]) dX11_trial_96 ?_
                  refine g_iconst (v := (1 : Int32)) o dX11_trial_99 (by decide) ?_
                  cases h
                  exact g_iret o hr hE dX11_trial_100
                · have h := (if_neg z).symm.trans h
                  refine gsub [1] rfl ?_
                  exact w_X11_trial_78 o hL hr hz hk0 hE hd h
      · have h := (if_pos z).symm.trans h
        refine g_aload_n o dX11_trial_39 1 rfl ?_
        refine g_iload_n o dX11_trial_40 2 rfl ?_
        refine g_iconst (v := (4 : Int32)) o dX11_trial_41 (by decide) ?_
        obtain ⟨x15, e16, h⟩ := ob h
        refine g_invV0 o (rc_self hk0) (by decide) ml_X11_58 kb_X11_refuseAt kv_X11_refuseAt rfl (c_X11_refuseAt (cq X) (cD X) (cY X) (cB X) (d := d) (by omega) (rc_at (rc_self hk0)).2 e16) rfl rfl (by simp [cat_i, cat_l, cat_rf]) dX11_trial_42 ?_
        cases h
        exact g_iret o hr hE dX11_trial_45
    · have h := (if_pos z).symm.trans h
      refine gsub [0] rfl ?_
      exact w_X11_trial_16 o hL hr hz hk0 hE hd h
theorem c_X11_trial (l : Launch) (D : va_G) (Y : Nat → ClassId) (B : Nat) {d : Nat} {n : Nat} {K L : Nat → Nat} {M : Mm} {a0 : Nat} {v1 : Int32} {v2 : Int32} {v3 : Int32} {v4 : Int32} {v5 : Int32} {r : (Int32 × Mm)} (hd : 4 ≤ d) (hk0 : K a0 = 11) (h : f_X11_trial K L a0 v1 v2 v3 v4 v5 M = some r) : mC l D Y B d yX11_trial cX11_trial 7 (some .int) [va_rf (some a0), .int v1, .int v2, .int v3, .int v4, .int v5] n K L M n K L r.2 (some (.int r.1)) 0 0 := by
  obtain ⟨d, rfl⟩ : ∃ e, d = e + 1 := ⟨d - 1, by omega⟩
  refine mk_met (by decide) (by simp [lgs_r, lgs_i, lgs_l, lgs_n]) (fun X e1 e2 e3 e4 o hL hr hnm hz hc hs hE => ?_)
  subst e1 e2 e3 e4
  rw [show lv_args 0 [va_rf (some a0), .int v1, .int v2, .int v3, .int v4, .int v5] = [(0, va_rf (some a0)), (1, .int v1), (2, .int v2), (3, .int v3), (4, .int v4), (5, .int v5)] by simp [lva_r, lva_i, lva_l, lva_n]]
  exact w_X11_trial_0 o hL hr hz hk0 hE hd h
def f_X11_look_149 (K L : Nat → Nat) (fu : Nat) (a0 : Nat) (M : Mm) : Option (Int32 × Mm) :=
  Option.bind (f_X11_refuse K L a0 (-13 : Int32) M) (fun x1 =>
  some (x1.1, x1.2))
set_option maxHeartbeats 4000000 in
theorem w_X11_look_149 {X : Cx} {d n : Nat} {K L : Nat → Nat} {fu : Nat} {a0 : Nat} {r : (Int32 × Mm)} {M : Mm} (o : cOk X cX11_look RX11 (d + 1)) (hL : cL X = 8) (hr : (ch X).sig.returnType = some .int) (hz : (cs X).heap.size + 0 = cB X + n) (hk0 : K a0 = 11) (hE : cE X n K L r.2 (some (.int r.1)) 0 0) (hd : 4 ≤ d + 1) (h : f_X11_look_149 K L fu a0  M = some r) : gW X 0 0 n K L M 149 [(0, va_rf (some a0))] [] := by
  unfold f_X11_look_149 at h
  refine g_aload_n o dX11_look_149 0 rfl ?_
  refine g_bipush (v := (-13 : Int32)) o dX11_look_150 (by decide) ?_
  obtain ⟨x1, e2, h⟩ := ob h
  refine g_invV0 o (rc_self hk0) (by decide) ml_X11_46 kb_X11_refuse kv_X11_refuse rfl (c_X11_refuse (cq X) (cD X) (cY X) (cB X) (d := d) (by omega) (rc_at (rc_self hk0)).2 e2) rfl rfl (by simp [cat_i, cat_l, cat_rf]) dX11_look_152 ?_
  cases h
  exact g_iret o hr hE dX11_look_155
def f_X11_look_128 (K L : Nat → Nat) (fu : Nat) (a0 : Nat) (M : Mm) : Option (Int32 × Mm) :=
  Option.bind (f_X11_refuse K L a0 (-8 : Int32) M) (fun x1 =>
  some (x1.1, x1.2))
set_option maxHeartbeats 4000000 in
theorem w_X11_look_128 {X : Cx} {d n : Nat} {K L : Nat → Nat} {fu : Nat} {a0 : Nat} {r : (Int32 × Mm)} {M : Mm} (o : cOk X cX11_look RX11 (d + 1)) (hL : cL X = 8) (hr : (ch X).sig.returnType = some .int) (hz : (cs X).heap.size + 0 = cB X + n) (hk0 : K a0 = 11) (hE : cE X n K L r.2 (some (.int r.1)) 0 0) (hd : 4 ≤ d + 1) (h : f_X11_look_128 K L fu a0  M = some r) : gW X 0 0 n K L M 128 [(0, va_rf (some a0))] [] := by
  unfold f_X11_look_128 at h
  refine g_aload_n o dX11_look_128 0 rfl ?_
  refine g_bipush (v := (-8 : Int32)) o dX11_look_129 (by decide) ?_
  obtain ⟨x1, e2, h⟩ := ob h
  refine g_invV0 o (rc_self hk0) (by decide) ml_X11_46 kb_X11_refuse kv_X11_refuse rfl (c_X11_refuse (cq X) (cD X) (cY X) (cB X) (d := d) (by omega) (rc_at (rc_self hk0)).2 e2) rfl rfl (by simp [cat_i, cat_l, cat_rf]) dX11_look_131 ?_
  cases h
  exact g_iret o hr hE dX11_look_134
def f_X11_look_74 (K L : Nat → Nat) (fu : Nat) (a0 : Nat) (M : Mm) : Option (Int32 × Mm) :=
  Option.bind (f_X11_refuse K L a0 (-2 : Int32) M) (fun x1 =>
  some (x1.1, x1.2))
set_option maxHeartbeats 4000000 in
theorem w_X11_look_74 {X : Cx} {d n : Nat} {K L : Nat → Nat} {fu : Nat} {a0 : Nat} {r : (Int32 × Mm)} {M : Mm} (o : cOk X cX11_look RX11 (d + 1)) (hL : cL X = 8) (hr : (ch X).sig.returnType = some .int) (hz : (cs X).heap.size + 0 = cB X + n) (hk0 : K a0 = 11) (hE : cE X n K L r.2 (some (.int r.1)) 0 0) (hd : 4 ≤ d + 1) (h : f_X11_look_74 K L fu a0  M = some r) : gW X 0 0 n K L M 74 [(0, va_rf (some a0))] [] := by
  unfold f_X11_look_74 at h
  refine g_aload_n o dX11_look_74 0 rfl ?_
  refine g_bipush (v := (-2 : Int32)) o dX11_look_75 (by decide) ?_
  obtain ⟨x1, e2, h⟩ := ob h
  refine g_invV0 o (rc_self hk0) (by decide) ml_X11_46 kb_X11_refuse kv_X11_refuse rfl (c_X11_refuse (cq X) (cD X) (cY X) (cB X) (d := d) (by omega) (rc_at (rc_self hk0)).2 e2) rfl rfl (by simp [cat_i, cat_l, cat_rf]) dX11_look_77 ?_
  cases h
  exact g_iret o hr hE dX11_look_80
def f_X11_look (K L : Nat → Nat) (fu : Nat) (a0 : Nat) (v1 : Int32) (v2 : Int32) (M : Mm) : Option (Int32 × Mm) :=
  Option.bind (f_X11_within v2 (239 : Int32)) (fun x1 =>
  if x1 = 0 then
    Option.bind (f_X11_refuse K L a0 (-3 : Int32) M) (fun x33 =>
    some (x33.1, x33.2))
  else
    Option.bind (rc K (mm_R M (32 * 11 + 0) a0) 8) (fun a3 =>
    Option.bind (f_X8_find K L M a3 v1 (4 : Int32)) (fun x5 =>
    if x5 = none then
      Option.bind (f_X11_refuseAt K L a0 v1 (4 : Int32) M) (fun x31 =>
      some (x31.1, x31.2))
    else
      Option.bind (rc K x5 9) (fun a7 =>
      Option.bind (rc K (mm_R M (32 * 9 + 11) a7) 10) (fun a9 =>
      Option.bind (f_X9_rowOf K L M a7 (mm_I M (32 * 10 + 0) a9)) (fun x11 =>
      Option.bind (f_X9_rowOf K L M a7 (mm_I M (32 * 10 + 1) a9)) (fun x13 =>
      if x11 = none then
        f_X11_look_74 K L fu a0 M
      else
        if x13 = none then
          f_X11_look_74 K L fu a0 M
        else
          if (mm_I M (32 * 10 + 5) a9) = 0 then
            Option.bind (rc K x11 2) (fun a15 =>
            Option.bind (f_X2_callsBeside K L fu M a15 x13 v2) (fun x17 =>
            Option.bind (rc K x13 2) (fun a19 =>
            Option.bind (f_X2_callsBeside K L fu M a19 x11 v2) (fun x21 =>
            if x17 = 0 then
              f_X11_look_128 K L fu a0 M
            else
              if x21 = 0 then
                f_X11_look_128 K L fu a0 M
              else
                if (30 : Int32) < x17 then
                  f_X11_look_149 K L fu a0 M
                else
                  if x21 ≤ (30 : Int32) then
                    Option.bind (f_X2_goodsBeside K L fu M a15 x13 v2) (fun x23 =>
                    Option.bind (f_X2_goodsBeside K L fu M a19 x11 v2) (fun x25 =>
                    Option.bind (f_X10_judge K L fu a9 x17 x21 x23 x25 M) (fun x27 =>
                    some (x27.1, x27.2))))
                  else
                    f_X11_look_149 K L fu a0 M))))
          else
            Option.bind (f_X11_refuse K L a0 (-12 : Int32) M) (fun x29 =>
            some (x29.1, x29.2)))))))))
set_option maxHeartbeats 4000000 in
theorem w_X11_look_0 {X : Cx} {d n : Nat} {K L : Nat → Nat} {fu : Nat} {a0 : Nat} {r : (Int32 × Mm)} {v1 : Int32} {v2 : Int32} {M : Mm} (o : cOk X cX11_look RX11 (d + 1)) (hL : cL X = 8) (hr : (ch X).sig.returnType = some .int) (hz : (cs X).heap.size + 0 = cB X + n) (hk0 : K a0 = 11) (hE : cE X n K L r.2 (some (.int r.1)) 0 0) (hd : 4 ≤ d + 1) (h : f_X11_look K L fu a0 v1 v2 M = some r) : gW X 0 0 n K L M 0 [(0, va_rf (some a0)), (1, .int v1), (2, .int v2)] [] := by
  unfold f_X11_look at h
  refine g_iload_n o dX11_look_0 2 rfl ?_
  refine g_sipush (v := (239 : Int32)) o dX11_look_1 (by decide) ?_
  obtain ⟨x1, e2, h⟩ := ob h
  refine g_invS0 o ml_X11_42 kb_X11_within ks_X11_within (c_X11_within (cq X) (cD X) (cY X) (cB X) (d := d) (by omega) e2) rfl rfl (by simp [cat_i, cat_l, cat_rf]) dX11_look_4 ?_
  refine g_if_ne (tgt := 17) o dX11_look_7 (by decide) (fun z => ?_) (fun z => ?_)
  · have h := (if_neg z).symm.trans h
    refine g_aload_n o dX11_look_17 0 rfl ?_
    refine g_getR o fl_X11_10 (rc_self hk0) (by decide) rfl dX11_look_18 ?_
    refine g_iload_n o dX11_look_21 1 rfl ?_
    refine g_iconst (v := (4 : Int32)) o dX11_look_22 (by decide) ?_
    obtain ⟨a3, e4, h⟩ := ob h
    obtain ⟨x5, e6, h⟩ := ob h
    refine g_invV0 o e4 (by decide) ml_X11_54 kb_X8_find kv_X8_find rfl (c_X8_find (cq X) (cD X) (cY X) (cB X) (d := d) (by omega) (rc_at e4).2 e6) rfl rfl (by simp [cat_i, cat_l, cat_rf]) dX11_look_23 ?_
    refine g_astore_n (i := 3) (ls' := [(3, va_rf x5), (0, va_rf (some a0)), (1, .int v1), (2, .int v2)]) o dX11_look_26 rfl (ltL hL (by decide)) rfl ?_
    refine g_aload_n o dX11_look_27 0 rfl ?_
    refine g_ifnonnull (tgt := 38) o dX11_look_28 (by decide) (fun z => ?_) (fun z => ?_)
    · have h := (if_neg z).symm.trans h
      refine g_aload_n o dX11_look_38 0 rfl ?_
      refine g_aload_n o dX11_look_39 0 rfl ?_
      obtain ⟨a7, e8, h⟩ := ob h
      refine g_getR o fl_X11_304 e8 (by decide) rfl dX11_look_40 ?_
      obtain ⟨a9, e10, h⟩ := ob h
      refine g_getI o fl_X11_312 e10 (by decide) rfl dX11_look_43 ?_
      obtain ⟨x11, e12, h⟩ := ob h
      refine g_invV0 o e8 (by decide) ml_X11_263 kb_X9_rowOf kv_X9_rowOf rfl (c_X9_rowOf (cq X) (cD X) (cY X) (cB X) (d := d) (by omega) (rc_at e8).2 e12) rfl rfl (by simp [cat_i, cat_l, cat_rf]) dX11_look_46 ?_
      refine g_astore (i := 4) (ls' := [(4, va_rf x11), (3, va_rf x5), (0, va_rf (some a0)), (1, .int v1), (2, .int v2)]) o dX11_look_49 (ltL hL (by decide)) (by simp [cat_rf]) ?_
      refine g_aload_n o dX11_look_51 1 rfl ?_
      refine g_aload_n o dX11_look_52 1 rfl ?_
      refine g_getR o fl_X11_304 e8 (by decide) rfl dX11_look_53 ?_
      refine g_getI o fl_X11_315 e10 (by decide) rfl dX11_look_56 ?_
      obtain ⟨x13, e14, h⟩ := ob h
      refine g_invV0 o e8 (by decide) ml_X11_263 kb_X9_rowOf kv_X9_rowOf rfl (c_X9_rowOf (cq X) (cD X) (cY X) (cB X) (d := d) (by omega) (rc_at e8).2 e14) rfl rfl (by simp [cat_i, cat_l, cat_rf]) dX11_look_59 ?_
      refine g_astore (i := 5) (ls' := [(5, va_rf x13), (4, va_rf x11), (3, va_rf x5), (0, va_rf (some a0)), (1, .int v1), (2, .int v2)]) o dX11_look_62 (ltL hL (by decide)) (by simp [cat_rf]) ?_
      refine g_aload o dX11_look_64 1 rfl ?_
      refine g_ifnull (tgt := 74) o dX11_look_66 (by decide) (fun z => ?_) (fun z => ?_)
      · have h := (if_pos z).symm.trans h
        refine gsub [3] rfl ?_
        exact w_X11_look_74 o hL hr hz hk0 hE hd h
      · have h := (if_neg z).symm.trans h
        refine g_aload o dX11_look_69 0 rfl ?_
        refine g_ifnonnull (tgt := 81) o dX11_look_71 (by decide) (fun z => ?_) (fun z => ?_)
        · have h := (if_neg z).symm.trans h
          refine g_aload_n o dX11_look_81 2 rfl ?_
          refine g_getR o fl_X11_304 e8 (by decide) rfl dX11_look_82 ?_
          refine g_getI o fl_X11_318 e10 (by decide) rfl dX11_look_85 ?_
          refine g_if_eq (tgt := 98) o dX11_look_88 (by decide) (fun z => ?_) (fun z => ?_)
          · have h := (if_pos z).symm.trans h
            refine g_aload o dX11_look_98 1 rfl ?_
            refine g_aload o dX11_look_100 0 rfl ?_
            refine g_iload_n o dX11_look_102 5 rfl ?_
            obtain ⟨a15, e16, h⟩ := ob h
            obtain ⟨x17, e18, h⟩ := ob h
            refine g_invV0 o e16 (by decide) ml_X11_321 kb_X2_callsBeside kv_X2_callsBeside rfl (c_X2_callsBeside (cq X) (cD X) (cY X) (cB X) (d := d) (by omega) (rc_at e16).2 e18) rfl rfl (by simp [cat_i, cat_l, cat_rf]) dX11_look_103 ?_
            refine g_istore (i := 6) (ls' := [(6, .int x17), (5, va_rf x13), (4, va_rf x11), (3, va_rf x5), (0, va_rf (some a0)), (1, .int v1), (2, .int v2)]) o dX11_look_106 (ltL hL (by decide)) (by simp [cat_rf]) ?_
            refine g_aload o dX11_look_108 1 rfl ?_
            refine g_aload o dX11_look_110 2 rfl ?_
            refine g_iload_n o dX11_look_112 6 rfl ?_
            obtain ⟨a19, e20, h⟩ := ob h
            obtain ⟨x21, e22, h⟩ := ob h
            refine g_invV0 o e20 (by decide) ml_X11_321 kb_X2_callsBeside kv_X2_callsBeside rfl (c_X2_callsBeside (cq X) (cD X) (cY X) (cB X) (d := d) (by omega) (rc_at e20).2 e22) rfl rfl (by simp [cat_i, cat_l, cat_rf]) dX11_look_113 ?_
            refine g_istore (i := 7) (ls' := [(7, .int x21), (6, .int x17), (5, va_rf x13), (4, va_rf x11), (3, va_rf x5), (0, va_rf (some a0)), (1, .int v1), (2, .int v2)]) o dX11_look_116 (ltL hL (by decide)) rfl ?_
            refine g_iload o dX11_look_118 1 rfl ?_
            refine g_if_eq (tgt := 128) o dX11_look_120 (by decide) (fun z => ?_) (fun z => ?_)
            · have h := (if_pos z).symm.trans h
              refine gsub [5] rfl ?_
              exact w_X11_look_128 o hL hr hz hk0 hE hd h
            · have h := (if_neg z).symm.trans h
              refine g_iload o dX11_look_123 0 rfl ?_
              refine g_if_ne (tgt := 135) o dX11_look_125 (by decide) (fun z => ?_) (fun z => ?_)
              · have h := (if_neg z).symm.trans h
                refine g_iload o dX11_look_135 1 rfl ?_
                refine g_bipush (v := (30 : Int32)) o dX11_look_137 (by decide) ?_
                refine g_icmp_gt (tgt := 149) o dX11_look_139 (by decide) (fun z => ?_) (fun z => ?_)
                · have h := (if_pos z).symm.trans h
                  refine gsub [5] rfl ?_
                  exact w_X11_look_149 o hL hr hz hk0 hE hd h
                · have h := (if_neg z).symm.trans h
                  refine g_iload o dX11_look_142 0 rfl ?_
                  refine g_bipush (v := (30 : Int32)) o dX11_look_144 (by decide) ?_
                  refine g_icmp_le (tgt := 156) o dX11_look_146 (by decide) (fun z => ?_) (fun z => ?_)
                  · have h := (if_pos z).symm.trans h
                    refine g_aload_n o dX11_look_156 4 rfl ?_
                    refine g_getR o fl_X11_304 e8 (by decide) rfl dX11_look_157 ?_
                    refine g_iload o dX11_look_160 1 rfl ?_
                    refine g_iload o dX11_look_162 0 rfl ?_
                    refine g_aload o dX11_look_164 3 rfl ?_
                    refine g_aload o dX11_look_166 2 rfl ?_
                    refine g_iload_n o dX11_look_168 7 rfl ?_
                    obtain ⟨x23, e24, h⟩ := ob h
                    refine g_invV0 o e16 (by decide) ml_X11_324 kb_X2_goodsBeside kv_X2_goodsBeside rfl (c_X2_goodsBeside (cq X) (cD X) (cY X) (cB X) (d := d) (by omega) (rc_at e16).2 e24) rfl rfl (by simp [cat_i, cat_l, cat_rf]) dX11_look_169 ?_
                    refine g_aload o dX11_look_172 2 rfl ?_
                    refine g_aload o dX11_look_174 3 rfl ?_
                    refine g_iload_n o dX11_look_176 7 rfl ?_
                    obtain ⟨x25, e26, h⟩ := ob h
                    refine g_invV0 o e20 (by decide) ml_X11_324 kb_X2_goodsBeside kv_X2_goodsBeside rfl (c_X2_goodsBeside (cq X) (cD X) (cY X) (cB X) (d := d) (by omega) (rc_at e20).2 e26) rfl rfl (by simp [cat_i, cat_l, cat_rf]) dX11_look_177 ?_
                    obtain ⟨x27, e28, h⟩ := ob h
                    refine g_invV0 o e10 (by decide) ml_X11_327 kb_X10_judge kv_X10_judge rfl (c_X10_judge (cq X) (cD X) (cY X) (cB X) (d := d) (by omega) (rc_at e10).2 e28) rfl rfl (by simp [cat_i, cat_l, cat_rf]) dX11_look_180 ?_
                    cases h
                    exact g_iret o hr hE dX11_look_183
                  · have h := (if_neg z).symm.trans h
                    refine gsub [5] rfl ?_
                    exact w_X11_look_149 o hL hr hz hk0 hE hd h
              · have h := (if_pos z).symm.trans h
                refine gsub [5] rfl ?_
                exact w_X11_look_128 o hL hr hz hk0 hE hd h
          · have h := (if_neg z).symm.trans h
            refine g_aload_n o dX11_look_91 3 rfl ?_
            refine g_bipush (v := (-12 : Int32)) o dX11_look_92 (by decide) ?_
            obtain ⟨x29, e30, h⟩ := ob h
            refine g_invV0 o (rc_self hk0) (by decide) ml_X11_46 kb_X11_refuse kv_X11_refuse rfl (c_X11_refuse (cq X) (cD X) (cY X) (cB X) (d := d) (by omega) (rc_at (rc_self hk0)).2 e30) rfl rfl (by simp [cat_i, cat_l, cat_rf]) dX11_look_94 ?_
            cases h
            exact g_iret o hr hE dX11_look_97
        · have h := (if_pos z).symm.trans h
          refine gsub [3] rfl ?_
          exact w_X11_look_74 o hL hr hz hk0 hE hd h
    · have h := (if_pos z).symm.trans h
      refine g_aload_n o dX11_look_31 1 rfl ?_
      refine g_iload_n o dX11_look_32 2 rfl ?_
      refine g_iconst (v := (4 : Int32)) o dX11_look_33 (by decide) ?_
      obtain ⟨x31, e32, h⟩ := ob h
      refine g_invV0 o (rc_self hk0) (by decide) ml_X11_58 kb_X11_refuseAt kv_X11_refuseAt rfl (c_X11_refuseAt (cq X) (cD X) (cY X) (cB X) (d := d) (by omega) (rc_at (rc_self hk0)).2 e32) rfl rfl (by simp [cat_i, cat_l, cat_rf]) dX11_look_34 ?_
      cases h
      exact g_iret o hr hE dX11_look_37
  · have h := (if_pos z).symm.trans h
    refine g_aload_n o dX11_look_10 0 rfl ?_
    refine g_bipush (v := (-3 : Int32)) o dX11_look_11 (by decide) ?_
    obtain ⟨x33, e34, h⟩ := ob h
    refine g_invV0 o (rc_self hk0) (by decide) ml_X11_46 kb_X11_refuse kv_X11_refuse rfl (c_X11_refuse (cq X) (cD X) (cY X) (cB X) (d := d) (by omega) (rc_at (rc_self hk0)).2 e34) rfl rfl (by simp [cat_i, cat_l, cat_rf]) dX11_look_13 ?_
    cases h
    exact g_iret o hr hE dX11_look_16
theorem c_X11_look (l : Launch) (D : va_G) (Y : Nat → ClassId) (B : Nat) {d : Nat} {n : Nat} {K L : Nat → Nat} {fu : Nat} {M : Mm} {a0 : Nat} {v1 : Int32} {v2 : Int32} {r : (Int32 × Mm)} (hd : 4 ≤ d) (hk0 : K a0 = 11) (h : f_X11_look K L fu a0 v1 v2 M = some r) : mC l D Y B d yX11_look cX11_look 8 (some .int) [va_rf (some a0), .int v1, .int v2] n K L M n K L r.2 (some (.int r.1)) 0 0 := by
  obtain ⟨d, rfl⟩ : ∃ e, d = e + 1 := ⟨d - 1, by omega⟩
  refine mk_met (by decide) (by simp [lgs_r, lgs_i, lgs_l, lgs_n]) (fun X e1 e2 e3 e4 o hL hr hnm hz hc hs hE => ?_)
  subst e1 e2 e3 e4
  rw [show lv_args 0 [va_rf (some a0), .int v1, .int v2] = [(0, va_rf (some a0)), (1, .int v1), (2, .int v2)] by simp [lva_r, lva_i, lva_l, lva_n]]
  exact w_X11_look_0 o hL hr hz hk0 hE hd h
def f_X11_trialTold (K L : Nat → Nat) (a0 : Nat) (v1 : Int32) (v2 : Int32) (M : Mm) : Option (Int32 × Mm) :=
  Option.bind (rc K (mm_R M (32 * 11 + 0) a0) 8) (fun a1 =>
  Option.bind (f_X8_find K L M a1 v1 (4 : Int32)) (fun x3 =>
  if x3 = none then
    Option.bind (f_X11_refuseAt K L a0 v1 (4 : Int32) M) (fun x35 =>
    some (x35.1, x35.2))
  else
    if v2 = (0 : Int32) then
      Option.bind (rc K x3 9) (fun a5 =>
      Option.bind (rc K (mm_R M (32 * 9 + 11) a5) 10) (fun a7 =>
      some (mm_I M (32 * 10 + 6) a7, M)))
    else
      if v2 = (1 : Int32) then
        Option.bind (rc K x3 9) (fun a9 =>
        Option.bind (rc K (mm_R M (32 * 9 + 11) a9) 10) (fun a11 =>
        some (mm_I M (32 * 10 + 7) a11, M)))
      else
        if v2 = (2 : Int32) then
          Option.bind (rc K x3 9) (fun a13 =>
          Option.bind (rc K (mm_R M (32 * 9 + 11) a13) 10) (fun a15 =>
          some (mm_I M (32 * 10 + 8) a15, M)))
        else
          if v2 = (3 : Int32) then
            Option.bind (rc K x3 9) (fun a17 =>
            Option.bind (rc K (mm_R M (32 * 9 + 11) a17) 10) (fun a19 =>
            some (mm_I M (32 * 10 + 9) a19, M)))
          else
            if v2 = (4 : Int32) then
              Option.bind (rc K x3 9) (fun a21 =>
              Option.bind (rc K (mm_R M (32 * 9 + 11) a21) 10) (fun a23 =>
              some (mm_I M (32 * 10 + 10) a23, M)))
            else
              if v2 = (5 : Int32) then
                Option.bind (rc K x3 9) (fun a25 =>
                Option.bind (rc K (mm_R M (32 * 9 + 11) a25) 10) (fun a27 =>
                some (mm_I M (32 * 10 + 4) a27, M)))
              else
                if v2 = (6 : Int32) then
                  Option.bind (rc K x3 9) (fun a29 =>
                  Option.bind (rc K (mm_R M (32 * 9 + 11) a29) 10) (fun a31 =>
                  some (mm_I M (32 * 10 + 5) a31, M)))
                else
                  Option.bind (f_X11_refuse K L a0 (-12 : Int32) M) (fun x33 =>
                  some (x33.1, x33.2))))
set_option maxHeartbeats 4000000 in
theorem w_X11_trialTold_0 {X : Cx} {d n : Nat} {K L : Nat → Nat} {a0 : Nat} {r : (Int32 × Mm)} {v1 : Int32} {v2 : Int32} {M : Mm} (o : cOk X cX11_trialTold RX11 (d + 1)) (hL : cL X = 4) (hr : (ch X).sig.returnType = some .int) (hz : (cs X).heap.size + 0 = cB X + n) (hk0 : K a0 = 11) (hE : cE X n K L r.2 (some (.int r.1)) 0 0) (hd : 4 ≤ d + 1) (h : f_X11_trialTold K L a0 v1 v2 M = some r) : gW X 0 0 n K L M 0 [(0, va_rf (some a0)), (1, .int v1), (2, .int v2)] [] := by
  unfold f_X11_trialTold at h
  refine g_aload_n o dX11_trialTold_0 0 rfl ?_
  refine g_getR o fl_X11_10 (rc_self hk0) (by decide) rfl dX11_trialTold_1 ?_
  refine g_iload_n o dX11_trialTold_4 1 rfl ?_
  refine g_iconst (v := (4 : Int32)) o dX11_trialTold_5 (by decide) ?_
  obtain ⟨a1, e2, h⟩ := ob h
  obtain ⟨x3, e4, h⟩ := ob h
  refine g_invV0 o e2 (by decide) ml_X11_54 kb_X8_find kv_X8_find rfl (c_X8_find (cq X) (cD X) (cY X) (cB X) (d := d) (by omega) (rc_at e2).2 e4) rfl rfl (by simp [cat_i, cat_l, cat_rf]) dX11_trialTold_6 ?_
  refine g_astore_n (i := 3) (ls' := [(3, va_rf x3), (0, va_rf (some a0)), (1, .int v1), (2, .int v2)]) o dX11_trialTold_9 rfl (ltL hL (by decide)) rfl ?_
  refine g_aload_n o dX11_trialTold_10 0 rfl ?_
  refine g_ifnonnull (tgt := 21) o dX11_trialTold_11 (by decide) (fun z => ?_) (fun z => ?_)
  · have h := (if_neg z).symm.trans h
    refine g_iload_n o dX11_trialTold_21 3 rfl ?_
    by_cases z0 : v2 = (0 : Int32)
    · have h := (if_pos z0).symm.trans h
      refine g_tableIn (tgt := 64) o dX11_trialTold_22 (by rw [z0]; decide) (by rw [z0]; decide) (by first | (rw [z0]; done) | (rw [z0]; rfl)) (by decide) ?_
      refine g_aload_n o dX11_trialTold_64 0 rfl ?_
      obtain ⟨a5, e6, h⟩ := ob h
      refine g_getR o fl_X11_304 e6 (by decide) rfl dX11_trialTold_65 ?_
      obtain ⟨a7, e8, h⟩ := ob h
      refine g_getI o fl_X11_330 e8 (by decide) rfl dX11_trialTold_68 ?_
      cases h
      exact g_iret o hr hE dX11_trialTold_71
    · have h := (if_neg z0).symm.trans h
      by_cases z1 : v2 = (1 : Int32)
      · have h := (if_pos z1).symm.trans h
        refine g_tableIn (tgt := 72) o dX11_trialTold_22 (by rw [z1]; decide) (by rw [z1]; decide) (by first | (rw [z1]; done) | (rw [z1]; rfl)) (by decide) ?_
        refine g_aload_n o dX11_trialTold_72 0 rfl ?_
        obtain ⟨a9, e10, h⟩ := ob h
        refine g_getR o fl_X11_304 e10 (by decide) rfl dX11_trialTold_73 ?_
        obtain ⟨a11, e12, h⟩ := ob h
        refine g_getI o fl_X11_333 e12 (by decide) rfl dX11_trialTold_76 ?_
        cases h
        exact g_iret o hr hE dX11_trialTold_79
      · have h := (if_neg z1).symm.trans h
        by_cases z2 : v2 = (2 : Int32)
        · have h := (if_pos z2).symm.trans h
          refine g_tableIn (tgt := 80) o dX11_trialTold_22 (by rw [z2]; decide) (by rw [z2]; decide) (by first | (rw [z2]; done) | (rw [z2]; rfl)) (by decide) ?_
          refine g_aload_n o dX11_trialTold_80 0 rfl ?_
          obtain ⟨a13, e14, h⟩ := ob h
          refine g_getR o fl_X11_304 e14 (by decide) rfl dX11_trialTold_81 ?_
          obtain ⟨a15, e16, h⟩ := ob h
          refine g_getI o fl_X11_336 e16 (by decide) rfl dX11_trialTold_84 ?_
          cases h
          exact g_iret o hr hE dX11_trialTold_87
        · have h := (if_neg z2).symm.trans h
          by_cases z3 : v2 = (3 : Int32)
          · have h := (if_pos z3).symm.trans h
            refine g_tableIn (tgt := 88) o dX11_trialTold_22 (by rw [z3]; decide) (by rw [z3]; decide) (by first | (rw [z3]; done) | (rw [z3]; rfl)) (by decide) ?_
            refine g_aload_n o dX11_trialTold_88 0 rfl ?_
            obtain ⟨a17, e18, h⟩ := ob h
            refine g_getR o fl_X11_304 e18 (by decide) rfl dX11_trialTold_89 ?_
            obtain ⟨a19, e20, h⟩ := ob h
            refine g_getI o fl_X11_339 e20 (by decide) rfl dX11_trialTold_92 ?_
            cases h
            exact g_iret o hr hE dX11_trialTold_95
          · have h := (if_neg z3).symm.trans h
            by_cases z4 : v2 = (4 : Int32)
            · have h := (if_pos z4).symm.trans h
              refine g_tableIn (tgt := 96) o dX11_trialTold_22 (by rw [z4]; decide) (by rw [z4]; decide) (by first | (rw [z4]; done) | (rw [z4]; rfl)) (by decide) ?_
              refine g_aload_n o dX11_trialTold_96 0 rfl ?_
              obtain ⟨a21, e22, h⟩ := ob h
              refine g_getR o fl_X11_304 e22 (by decide) rfl dX11_trialTold_97 ?_
              obtain ⟨a23, e24, h⟩ := ob h
              refine g_getI o fl_X11_342 e24 (by decide) rfl dX11_trialTold_100 ?_
              cases h
              exact g_iret o hr hE dX11_trialTold_103
            · have h := (if_neg z4).symm.trans h
              by_cases z5 : v2 = (5 : Int32)
              · have h := (if_pos z5).symm.trans h
                refine g_tableIn (tgt := 104) o dX11_trialTold_22 (by rw [z5]; decide) (by rw [z5]; decide) (by first | (rw [z5]; done) | (rw [z5]; rfl)) (by decide) ?_
                refine g_aload_n o dX11_trialTold_104 0 rfl ?_
                obtain ⟨a25, e26, h⟩ := ob h
                refine g_getR o fl_X11_304 e26 (by decide) rfl dX11_trialTold_105 ?_
                obtain ⟨a27, e28, h⟩ := ob h
                refine g_getI o fl_X11_345 e28 (by decide) rfl dX11_trialTold_108 ?_
                cases h
                exact g_iret o hr hE dX11_trialTold_111
              · have h := (if_neg z5).symm.trans h
                by_cases z6 : v2 = (6 : Int32)
                · have h := (if_pos z6).symm.trans h
                  refine g_tableIn (tgt := 112) o dX11_trialTold_22 (by rw [z6]; decide) (by rw [z6]; decide) (by first | (rw [z6]; done) | (rw [z6]; rfl)) (by decide) ?_
                  refine g_aload_n o dX11_trialTold_112 0 rfl ?_
                  obtain ⟨a29, e30, h⟩ := ob h
                  refine g_getR o fl_X11_304 e30 (by decide) rfl dX11_trialTold_113 ?_
                  obtain ⟨a31, e32, h⟩ := ob h
                  refine g_getI o fl_X11_318 e32 (by decide) rfl dX11_trialTold_116 ?_
                  cases h
                  exact g_iret o hr hE dX11_trialTold_119
                · have h := (if_neg z6).symm.trans h
                  refine g_tableOut (tgt := 120) o dX11_trialTold_22 (ts_d 7 (by decide) (fun q hq => by rcases (show q = 0 ∨ q = 1 ∨ q = 2 ∨ q = 3 ∨ q = 4 ∨ q = 5 ∨ q = 6 by omega) with rfl | rfl | rfl | rfl | rfl | rfl | rfl <;> assumption)) (by decide) ?_
                  refine g_aload_n o dX11_trialTold_120 1 rfl ?_
                  refine g_bipush (v := (-12 : Int32)) o dX11_trialTold_121 (by decide) ?_
                  obtain ⟨x33, e34, h⟩ := ob h
                  refine g_invV0 o (rc_self hk0) (by decide) ml_X11_46 kb_X11_refuse kv_X11_refuse rfl (c_X11_refuse (cq X) (cD X) (cY X) (cB X) (d := d) (by omega) (rc_at (rc_self hk0)).2 e34) rfl rfl (by simp [cat_i, cat_l, cat_rf]) dX11_trialTold_123 ?_
                  cases h
                  exact g_iret o hr hE dX11_trialTold_126
  · have h := (if_pos z).symm.trans h
    refine g_aload_n o dX11_trialTold_14 1 rfl ?_
    refine g_iload_n o dX11_trialTold_15 2 rfl ?_
    refine g_iconst (v := (4 : Int32)) o dX11_trialTold_16 (by decide) ?_
    obtain ⟨x35, e36, h⟩ := ob h
    refine g_invV0 o (rc_self hk0) (by decide) ml_X11_58 kb_X11_refuseAt kv_X11_refuseAt rfl (c_X11_refuseAt (cq X) (cD X) (cY X) (cB X) (d := d) (by omega) (rc_at (rc_self hk0)).2 e36) rfl rfl (by simp [cat_i, cat_l, cat_rf]) dX11_trialTold_17 ?_
    cases h
    exact g_iret o hr hE dX11_trialTold_20
theorem c_X11_trialTold (l : Launch) (D : va_G) (Y : Nat → ClassId) (B : Nat) {d : Nat} {n : Nat} {K L : Nat → Nat} {M : Mm} {a0 : Nat} {v1 : Int32} {v2 : Int32} {r : (Int32 × Mm)} (hd : 4 ≤ d) (hk0 : K a0 = 11) (h : f_X11_trialTold K L a0 v1 v2 M = some r) : mC l D Y B d yX11_trialTold cX11_trialTold 4 (some .int) [va_rf (some a0), .int v1, .int v2] n K L M n K L r.2 (some (.int r.1)) 0 0 := by
  obtain ⟨d, rfl⟩ : ∃ e, d = e + 1 := ⟨d - 1, by omega⟩
  refine mk_met (by decide) (by simp [lgs_r, lgs_i, lgs_l, lgs_n]) (fun X e1 e2 e3 e4 o hL hr hnm hz hc hs hE => ?_)
  subst e1 e2 e3 e4
  rw [show lv_args 0 [va_rf (some a0), .int v1, .int v2] = [(0, va_rf (some a0)), (1, .int v1), (2, .int v2)] by simp [lva_r, lva_i, lva_l, lva_n]]
  exact w_X11_trialTold_0 o hL hr hz hk0 hE hd h
def f_X11_crowdFault_34  (s0 : Int32) : Option Int32 :=
  if s0 = 0 then
    some (-12 : Int32)
  else
    some (0 : Int32)
set_option maxHeartbeats 4000000 in
theorem w_X11_crowdFault_34 {X : Cx} {d n : Nat} {K L : Nat → Nat} {M : Mm} {r : Int32} {s0 : Int32} (o : cOk X cX11_crowdFault RX11 d) (hL : cL X = 3) (hr : (ch X).sig.returnType = some .int) (hE : cE X n K L M (some (.int r)) 0 0) (h : f_X11_crowdFault_34  s0 = some r) : gW X 0 0 n K L M 34 [] [.int s0] := by
  unfold f_X11_crowdFault_34 at h
  refine g_istore_n (i := 2) (ls' := [(2, .int s0)]) o dX11_crowdFault_34 rfl (ltL hL (by decide)) rfl ?_
  refine g_iload_n o dX11_crowdFault_35 0 rfl ?_
  refine g_if_eq (tgt := 43) o dX11_crowdFault_36 (by decide) (fun z => ?_) (fun z => ?_)
  · have h := (if_pos z).symm.trans h
    refine g_bipush (v := (-12 : Int32)) o dX11_crowdFault_43 (by decide) ?_
    cases h
    exact g_iret o hr hE dX11_crowdFault_45
  · have h := (if_neg z).symm.trans h
    refine g_iconst (v := (0 : Int32)) o dX11_crowdFault_39 (by decide) ?_
    refine g_goto (tgt := 45) o dX11_crowdFault_40 (by decide) ?_
    cases h
    exact g_iret o hr hE dX11_crowdFault_45
def f_X11_crowdFault_33  : Option Int32 :=
  f_X11_crowdFault_34  (0 : Int32)
set_option maxHeartbeats 4000000 in
theorem w_X11_crowdFault_33 {X : Cx} {d n : Nat} {K L : Nat → Nat} {M : Mm} {r : Int32} (o : cOk X cX11_crowdFault RX11 d) (hL : cL X = 3) (hr : (ch X).sig.returnType = some .int) (hE : cE X n K L M (some (.int r)) 0 0) (h : f_X11_crowdFault_33   = some r) : gW X 0 0 n K L M 33 [] [] := by
  unfold f_X11_crowdFault_33 at h
  refine g_iconst (v := (0 : Int32)) o dX11_crowdFault_33 (by decide) ?_
  exact w_X11_crowdFault_34 o hL hr hE h
def f_X11_crowdFault  (v0 : Int32) (v1 : Int32) : Option Int32 :=
  if 0 ≤ v1 then
    if v1 < (1 : Int32) then
      f_X11_crowdFault_33  
    else
      if (2000 : Int32) < v1 then
        f_X11_crowdFault_33  
      else
        if (999999 : Int32) < ((v0 + v1) - (1 : Int32)) then
          f_X11_crowdFault_33  
        else
          f_X11_crowdFault_34  (1 : Int32)
  else
    some (-4 : Int32)
set_option maxHeartbeats 4000000 in
theorem w_X11_crowdFault_0 {X : Cx} {d n : Nat} {K L : Nat → Nat} {M : Mm} {r : Int32} {v0 : Int32} {v1 : Int32} (o : cOk X cX11_crowdFault RX11 d) (hL : cL X = 3) (hr : (ch X).sig.returnType = some .int) (hE : cE X n K L M (some (.int r)) 0 0) (h : f_X11_crowdFault  v0 v1 = some r) : gW X 0 0 n K L M 0 [(0, .int v0), (1, .int v1)] [] := by
  unfold f_X11_crowdFault at h
  refine g_iload_n o dX11_crowdFault_0 1 rfl ?_
  refine g_if_ge (tgt := 7) o dX11_crowdFault_1 (by decide) (fun z => ?_) (fun z => ?_)
  · have h := (if_pos z).symm.trans h
    refine g_iload_n o dX11_crowdFault_7 1 rfl ?_
    refine g_iconst (v := (1 : Int32)) o dX11_crowdFault_8 (by decide) ?_
    refine g_icmp_lt (tgt := 33) o dX11_crowdFault_9 (by decide) (fun z => ?_) (fun z => ?_)
    · have h := (if_pos z).symm.trans h
      refine gsub [] rfl ?_
      exact w_X11_crowdFault_33 o hL hr hE h
    · have h := (if_neg z).symm.trans h
      refine g_iload_n o dX11_crowdFault_12 1 rfl ?_
      refine g_sipush (v := (2000 : Int32)) o dX11_crowdFault_13 (by decide) ?_
      refine g_icmp_gt (tgt := 33) o dX11_crowdFault_16 (by decide) (fun z => ?_) (fun z => ?_)
      · have h := (if_pos z).symm.trans h
        refine gsub [] rfl ?_
        exact w_X11_crowdFault_33 o hL hr hE h
      · have h := (if_neg z).symm.trans h
        refine g_iload_n o dX11_crowdFault_19 0 rfl ?_
        refine g_iload_n o dX11_crowdFault_20 1 rfl ?_
        refine g_iadd o dX11_crowdFault_21 ?_
        refine g_iconst (v := (1 : Int32)) o dX11_crowdFault_22 (by decide) ?_
        refine g_isub o dX11_crowdFault_23 ?_
        refine g_ldc (v := (999999 : Int32)) o kc_X11_41 dX11_crowdFault_24 ?_
        refine g_icmp_gt (tgt := 33) o dX11_crowdFault_26 (by decide) (fun z => ?_) (fun z => ?_)
        · have h := (if_pos z).symm.trans h
          refine gsub [] rfl ?_
          exact w_X11_crowdFault_33 o hL hr hE h
        · have h := (if_neg z).symm.trans h
          refine g_iconst (v := (1 : Int32)) o dX11_crowdFault_29 (by decide) ?_
          refine g_goto (tgt := 34) o dX11_crowdFault_30 (by decide) ?_
          refine gsub [] rfl ?_
          exact w_X11_crowdFault_34 o hL hr hE h
  · have h := (if_neg z).symm.trans h
    refine g_bipush (v := (-4 : Int32)) o dX11_crowdFault_4 (by decide) ?_
    cases h
    exact g_iret o hr hE dX11_crowdFault_6
theorem c_X11_crowdFault (l : Launch) (D : va_G) (Y : Nat → ClassId) (B : Nat) {d : Nat} {n : Nat} {K L : Nat → Nat} {M : Mm} {v0 : Int32} {v1 : Int32} {r : Int32} (hd : 0 ≤ d) (h : f_X11_crowdFault  v0 v1 = some r) : mC l D Y B d yX11_crowdFault cX11_crowdFault 3 (some .int) [.int v0, .int v1] n K L M n K L M (some (.int r)) 0 0 := by
  refine mk_met (by decide) (by simp [lgs_r, lgs_i, lgs_l, lgs_n]) (fun X e1 e2 e3 e4 o hL hr hnm hz hc hs hE => ?_)
  subst e1 e2 e3 e4
  rw [show lv_args 0 [.int v0, .int v1] = [(0, .int v0), (1, .int v1)] by simp [lva_r, lva_i, lva_l, lva_n]]
  exact w_X11_crowdFault_0 o hL hr hE h
def f_X11_among_83b (K L : Nat → Nat) (fu : Nat) (k83 : Int32 → Int32 → Int32 → Int32 → Int32 → Int32 → Mm → Option (Int32 × Mm)) (a0 : Nat) (v1 : Int32) (v2 : Int32) (v3 : Int32) (v4 : Int32) (v6 : Int32) (v7 : Int32) (M : Mm) : Option (Int32 × Mm) :=
  if v4 ≤ v7 then
    some (v6, M)
  else
    Option.bind (rc K (mm_R M (32 * 11 + 3) a0) 1) (fun a1 =>
    Option.bind (f_X1_ask K L a1 (v3 + v7) M) (fun x3 =>
    Option.bind (rc K (mm_R x3 (32 * 11 + 3) a0) 1) (fun a5 =>
    Option.bind (f_X1_wayAt K L fu 20 a5 (mm_R x3 (32 * 11 + 0) a0) v1 (0 : Int32) x3) (fun x7 =>
    if (x7.1) = v2 then
      k83 v1 v2 v3 v4 (v6 + 1) (v7 + 1) (x7.2)
    else
      k83 v1 v2 v3 v4 v6 (v7 + 1) (x7.2)))))
def f_X11_among_83 (K L : Nat → Nat) (fu : Nat) (a0 : Nat) : Nat → Int32 → Int32 → Int32 → Int32 → Int32 → Int32 → Mm → Option (Int32 × Mm)
  | 0, _, _, _, _, _, _, _ => none
  | g + 1, v1, v2, v3, v4, v6, v7, M => f_X11_among_83b K L fu (f_X11_among_83 K L fu a0 g) a0 v1 v2 v3 v4 v6 v7 M
set_option maxHeartbeats 4000000 in
theorem w_X11_among_83b {X : Cx} {d n : Nat} {K L : Nat → Nat} {fu : Nat} {a0 : Nat} {r : (Int32 × Mm)} {k83 : Int32 → Int32 → Int32 → Int32 → Int32 → Int32 → Mm → Option (Int32 × Mm)} {v1 : Int32} {v2 : Int32} {v3 : Int32} {v4 : Int32} {v6 : Int32} {v7 : Int32} {M : Mm} (o : cOk X cX11_among RX11 (d + 1)) (hL : cL X = 8) (hr : (ch X).sig.returnType = some .int) (hz : (cs X).heap.size + 0 = cB X + n) (hk0 : K a0 = 11) (hE : cE X n K L r.2 (some (.int r.1)) 0 0) (hk83 : ∀ (v1 : Int32) (v2 : Int32) (v3 : Int32) (v4 : Int32) (v6 : Int32) (v7 : Int32) (M : Mm), k83 v1 v2 v3 v4 v6 v7 M = some r → gW X 0 0 n K L M 83 [(0, va_rf (some a0)), (1, .int v1), (2, .int v2), (3, .int v3), (4, .int v4), (6, .int v6), (7, .int v7)] []) (hd : 130 ≤ d + 1) (h : f_X11_among_83b K L fu k83 a0 v1 v2 v3 v4 v6 v7 M = some r) : gW X 0 0 n K L M 83 [(0, va_rf (some a0)), (1, .int v1), (2, .int v2), (3, .int v3), (4, .int v4), (6, .int v6), (7, .int v7)] [] := by
  unfold f_X11_among_83b at h
  refine g_iload o dX11_among_83 6 rfl ?_
  refine g_iload o dX11_among_85 4 rfl ?_
  refine g_icmp_ge (tgt := 127) o dX11_among_87 (by decide) (fun z => ?_) (fun z => ?_)
  · have h := (if_pos z).symm.trans h
    refine g_iload o dX11_among_127 5 rfl ?_
    cases h
    exact g_iret o hr hE dX11_among_129
  · have h := (if_neg z).symm.trans h
    refine g_aload_n o dX11_among_90 0 rfl ?_
    refine g_getR o fl_X11_26 (rc_self hk0) (by decide) rfl dX11_among_91 ?_
    refine g_iload_n o dX11_among_94 3 rfl ?_
    refine g_iload o dX11_among_95 6 rfl ?_
    refine g_iadd o dX11_among_97 ?_
    obtain ⟨a1, e2, h⟩ := ob h
    obtain ⟨x3, e4, h⟩ := ob h
    refine g_invV0 o e2 (by decide) ml_X11_75 kb_X1_ask kv_X1_ask rfl (c_X1_ask (cq X) (cD X) (cY X) (cB X) (d := d) (by omega) (rc_at e2).2 e4) rfl rfl (by simp [cat_i, cat_l, cat_rf]) dX11_among_98 ?_
    refine g_aload_n o dX11_among_101 0 rfl ?_
    refine g_getR o fl_X11_26 (rc_self hk0) (by decide) rfl dX11_among_102 ?_
    refine g_aload_n o dX11_among_105 0 rfl ?_
    refine g_getR o fl_X11_10 (rc_self hk0) (by decide) rfl dX11_among_106 ?_
    refine g_iload_n o dX11_among_109 1 rfl ?_
    refine g_iconst (v := (0 : Int32)) o dX11_among_110 (by decide) ?_
    obtain ⟨a5, e6, h⟩ := ob h
    obtain ⟨x7, e8, h⟩ := ob h
    refine g_invVN0 o e6 (by decide) mn_X11_79 kb_X1_wayAt kv_X1_wayAt rfl (cw_X1_wayAt (cq X) (cD X) (cY X) (cB X) 20 d (by omega) (rc_at e6).2 e8) rfl rfl (by simp [cat_i, cat_l, cat_rf]) dX11_among_111 ?_
    refine g_iload_n o dX11_among_114 2 rfl ?_
    refine g_icmp_ne (tgt := 121) o dX11_among_115 (by decide) (fun z => ?_) (fun z => ?_)
    · have h := (if_neg z).symm.trans h
      refine g_iinc (i := 7) (v := v7 + 1) (ls' := [(7, .int (v7 + 1)), (0, va_rf (some a0)), (1, .int v1), (2, .int v2), (3, .int v3), (4, .int v4), (6, .int v6)]) o dX11_among_121 6 rfl (by first | rfl | (congr 1)) (ltL hL (by decide)) rfl ?_
      refine g_goto (tgt := 83) o dX11_among_124 (by decide) ?_
      refine gsub [1, 2, 3, 4, 5, 6, 0] rfl ?_
      exact hk83 _ _ _ _ _ _ _ h
    · have h := (if_pos z).symm.trans h
      refine g_iinc (i := 6) (v := v6 + 1) (ls' := [(6, .int (v6 + 1)), (0, va_rf (some a0)), (1, .int v1), (2, .int v2), (3, .int v3), (4, .int v4), (7, .int v7)]) o dX11_among_118 5 rfl (by first | rfl | (congr 1)) (ltL hL (by decide)) rfl ?_
      refine g_iinc (i := 7) (v := v7 + 1) (ls' := [(7, .int (v7 + 1)), (6, .int (v6 + 1)), (0, va_rf (some a0)), (1, .int v1), (2, .int v2), (3, .int v3), (4, .int v4)]) o dX11_among_121 6 rfl (by first | rfl | (congr 1)) (ltL hL (by decide)) rfl ?_
      refine g_goto (tgt := 83) o dX11_among_124 (by decide) ?_
      refine gsub [2, 3, 4, 5, 6, 1, 0] rfl ?_
      exact hk83 _ _ _ _ _ _ _ h
theorem w_X11_among_83_n {X : Cx} {d n : Nat} {K L : Nat → Nat} {fu : Nat} {a0 : Nat} {r : (Int32 × Mm)} (o : cOk X cX11_among RX11 (d + 1)) (hL : cL X = 8) (hr : (ch X).sig.returnType = some .int) (hz : (cs X).heap.size + 0 = cB X + n) (hk0 : K a0 = 11) (hE : cE X n K L r.2 (some (.int r.1)) 0 0) (hd : 130 ≤ d + 1) : ∀ (g : Nat) (v1 : Int32) (v2 : Int32) (v3 : Int32) (v4 : Int32) (v6 : Int32) (v7 : Int32) (M : Mm), f_X11_among_83 K L fu a0 g v1 v2 v3 v4 v6 v7 M = some r → gW X 0 0 n K L M 83 [(0, va_rf (some a0)), (1, .int v1), (2, .int v2), (3, .int v3), (4, .int v4), (6, .int v6), (7, .int v7)] []
  | 0, _, _, _, _, _, _, _, h => by cases h
  | g + 1, v1, v2, v3, v4, v6, v7, M, h => w_X11_among_83b o hL hr hz hk0 hE (w_X11_among_83_n o hL hr hz hk0 hE hd g) hd h
theorem w_X11_among_83 {X : Cx} {d n : Nat} {K L : Nat → Nat} {fu : Nat} {a0 : Nat} {r : (Int32 × Mm)} {v1 : Int32} {v2 : Int32} {v3 : Int32} {v4 : Int32} {v6 : Int32} {v7 : Int32} {M : Mm} (o : cOk X cX11_among RX11 (d + 1)) (hL : cL X = 8) (hr : (ch X).sig.returnType = some .int) (hz : (cs X).heap.size + 0 = cB X + n) (hk0 : K a0 = 11) (hE : cE X n K L r.2 (some (.int r.1)) 0 0) (hd : 130 ≤ d + 1) (h : f_X11_among_83 K L fu a0 fu v1 v2 v3 v4 v6 v7 M = some r) : gW X 0 0 n K L M 83 [(0, va_rf (some a0)), (1, .int v1), (2, .int v2), (3, .int v3), (4, .int v4), (6, .int v6), (7, .int v7)] [] := w_X11_among_83_n o hL hr hz hk0 hE hd fu v1 v2 v3 v4 v6 v7 M h
def f_X11_among_18 (K L : Nat → Nat) (fu : Nat) (a0 : Nat) (M : Mm) : Option (Int32 × Mm) :=
  Option.bind (f_X11_refuse K L a0 (-3 : Int32) M) (fun x1 =>
  some (x1.1, x1.2))
set_option maxHeartbeats 4000000 in
theorem w_X11_among_18 {X : Cx} {d n : Nat} {K L : Nat → Nat} {fu : Nat} {a0 : Nat} {r : (Int32 × Mm)} {M : Mm} (o : cOk X cX11_among RX11 (d + 1)) (hL : cL X = 8) (hr : (ch X).sig.returnType = some .int) (hz : (cs X).heap.size + 0 = cB X + n) (hk0 : K a0 = 11) (hE : cE X n K L r.2 (some (.int r.1)) 0 0) (hd : 130 ≤ d + 1) (h : f_X11_among_18 K L fu a0  M = some r) : gW X 0 0 n K L M 18 [(0, va_rf (some a0))] [] := by
  unfold f_X11_among_18 at h
  refine g_aload_n o dX11_among_18 0 rfl ?_
  refine g_bipush (v := (-3 : Int32)) o dX11_among_19 (by decide) ?_
  obtain ⟨x1, e2, h⟩ := ob h
  refine g_invV0 o (rc_self hk0) (by decide) ml_X11_46 kb_X11_refuse kv_X11_refuse rfl (c_X11_refuse (cq X) (cD X) (cY X) (cB X) (d := d) (by omega) (rc_at (rc_self hk0)).2 e2) rfl rfl (by simp [cat_i, cat_l, cat_rf]) dX11_among_21 ?_
  cases h
  exact g_iret o hr hE dX11_among_24
def f_X11_among (K L : Nat → Nat) (fu : Nat) (a0 : Nat) (v1 : Int32) (v2 : Int32) (v3 : Int32) (v4 : Int32) (M : Mm) : Option (Int32 × Mm) :=
  Option.bind (f_X11_within v2 (7 : Int32)) (fun x1 =>
  if x1 = 0 then
    f_X11_among_18 K L fu a0 M
  else
    Option.bind (f_X11_within v3 (999999 : Int32)) (fun x3 =>
    if x3 = 0 then
      f_X11_among_18 K L fu a0 M
    else
      Option.bind (rc K (mm_R M (32 * 11 + 0) a0) 8) (fun a5 =>
      Option.bind (f_X8_find K L M a5 v1 (31 : Int32)) (fun x7 =>
      if x7 = none then
        Option.bind (f_X11_refuseAt K L a0 v1 (31 : Int32) M) (fun x17 =>
        some (x17.1, x17.2))
      else
        Option.bind (f_X11_crowdFault v3 v4) (fun x9 =>
        if x9 = 0 then
          Option.bind (rc K (mm_R M (32 * 11 + 3) a0) 1) (fun a11 =>
          Option.bind (f_X1_begin K L fu a11 (mm_R M (32 * 11 + 0) a0) M) (fun x13 =>
          f_X11_among_83 K L fu a0 fu v1 v2 v3 v4 (0 : Int32) (0 : Int32) x13))
        else
          Option.bind (f_X11_refuse K L a0 x9 M) (fun x15 =>
          some (x15.1, x15.2)))))))
set_option maxHeartbeats 4000000 in
theorem w_X11_among_0 {X : Cx} {d n : Nat} {K L : Nat → Nat} {fu : Nat} {a0 : Nat} {r : (Int32 × Mm)} {v1 : Int32} {v2 : Int32} {v3 : Int32} {v4 : Int32} {M : Mm} (o : cOk X cX11_among RX11 (d + 1)) (hL : cL X = 8) (hr : (ch X).sig.returnType = some .int) (hz : (cs X).heap.size + 0 = cB X + n) (hk0 : K a0 = 11) (hE : cE X n K L r.2 (some (.int r.1)) 0 0) (hd : 130 ≤ d + 1) (h : f_X11_among K L fu a0 v1 v2 v3 v4 M = some r) : gW X 0 0 n K L M 0 [(0, va_rf (some a0)), (1, .int v1), (2, .int v2), (3, .int v3), (4, .int v4)] [] := by
  unfold f_X11_among at h
  refine g_iload_n o dX11_among_0 2 rfl ?_
  refine g_bipush (v := (7 : Int32)) o dX11_among_1 (by decide) ?_
  obtain ⟨x1, e2, h⟩ := ob h
  refine g_invS0 o ml_X11_42 kb_X11_within ks_X11_within (c_X11_within (cq X) (cD X) (cY X) (cB X) (d := d) (by omega) e2) rfl rfl (by simp [cat_i, cat_l, cat_rf]) dX11_among_3 ?_
  refine g_if_eq (tgt := 18) o dX11_among_6 (by decide) (fun z => ?_) (fun z => ?_)
  · have h := (if_pos z).symm.trans h
    refine gsub [0] rfl ?_
    exact w_X11_among_18 o hL hr hz hk0 hE hd h
  · have h := (if_neg z).symm.trans h
    refine g_iload_n o dX11_among_9 3 rfl ?_
    refine g_ldc (v := (999999 : Int32)) o kc_X11_41 dX11_among_10 ?_
    obtain ⟨x3, e4, h⟩ := ob h
    refine g_invS0 o ml_X11_42 kb_X11_within ks_X11_within (c_X11_within (cq X) (cD X) (cY X) (cB X) (d := d) (by omega) e4) rfl rfl (by simp [cat_i, cat_l, cat_rf]) dX11_among_12 ?_
    refine g_if_ne (tgt := 25) o dX11_among_15 (by decide) (fun z => ?_) (fun z => ?_)
    · have h := (if_neg z).symm.trans h
      refine g_aload_n o dX11_among_25 0 rfl ?_
      refine g_getR o fl_X11_10 (rc_self hk0) (by decide) rfl dX11_among_26 ?_
      refine g_iload_n o dX11_among_29 1 rfl ?_
      refine g_bipush (v := (31 : Int32)) o dX11_among_30 (by decide) ?_
      obtain ⟨a5, e6, h⟩ := ob h
      obtain ⟨x7, e8, h⟩ := ob h
      refine g_invV0 o e6 (by decide) ml_X11_54 kb_X8_find kv_X8_find rfl (c_X8_find (cq X) (cD X) (cY X) (cB X) (d := d) (by omega) (rc_at e6).2 e8) rfl rfl (by simp [cat_i, cat_l, cat_rf]) dX11_among_32 ?_
      refine g_ifnonnull (tgt := 46) o dX11_among_35 (by decide) (fun z => ?_) (fun z => ?_)
      · have h := (if_neg z).symm.trans h
        refine g_iload_n o dX11_among_46 3 rfl ?_
        refine g_iload o dX11_among_47 4 rfl ?_
        obtain ⟨x9, e10, h⟩ := ob h
        refine g_invS0 o ml_X11_348 kb_X11_crowdFault ks_X11_crowdFault (c_X11_crowdFault (cq X) (cD X) (cY X) (cB X) (d := d) (by omega) e10) rfl rfl (by simp [cat_i, cat_l, cat_rf]) dX11_among_49 ?_
        refine g_istore (i := 5) (ls' := [(5, .int x9), (0, va_rf (some a0)), (1, .int v1), (2, .int v2), (3, .int v3), (4, .int v4)]) o dX11_among_52 (ltL hL (by decide)) rfl ?_
        refine g_iload o dX11_among_54 0 rfl ?_
        refine g_if_eq (tgt := 66) o dX11_among_56 (by decide) (fun z => ?_) (fun z => ?_)
        · have h := (if_pos z).symm.trans h
          refine g_aload_n o dX11_among_66 1 rfl ?_
          refine g_getR o fl_X11_26 (rc_self hk0) (by decide) rfl dX11_among_67 ?_
          refine g_aload_n o dX11_among_70 1 rfl ?_
          refine g_getR o fl_X11_10 (rc_self hk0) (by decide) rfl dX11_among_71 ?_
          obtain ⟨a11, e12, h⟩ := ob h
          obtain ⟨x13, e14, h⟩ := ob h
          refine g_invV0 o e12 (by decide) ml_X11_71 kb_X1_begin kv_X1_begin rfl (c_X1_begin (cq X) (cD X) (cY X) (cB X) (d := d) (by omega) (rc_at e12).2 e14) rfl rfl (by simp [cat_i, cat_l, cat_rf]) dX11_among_74 ?_
          refine g_iconst (v := (0 : Int32)) o dX11_among_77 (by decide) ?_
          refine g_istore (i := 6) (ls' := [(6, .int (0 : Int32)), (5, .int x9), (0, va_rf (some a0)), (1, .int v1), (2, .int v2), (3, .int v3), (4, .int v4)]) o dX11_among_78 (ltL hL (by decide)) rfl ?_
          refine g_iconst (v := (0 : Int32)) o dX11_among_80 (by decide) ?_
          refine g_istore (i := 7) (ls' := [(7, .int (0 : Int32)), (6, .int (0 : Int32)), (5, .int x9), (0, va_rf (some a0)), (1, .int v1), (2, .int v2), (3, .int v3), (4, .int v4)]) o dX11_among_81 (ltL hL (by decide)) rfl ?_
          refine gsub [3, 4, 5, 6, 7, 1, 0] rfl ?_
          exact w_X11_among_83 o hL hr hz hk0 hE hd h
        · have h := (if_neg z).symm.trans h
          refine g_aload_n o dX11_among_59 1 rfl ?_
          refine g_iload o dX11_among_60 0 rfl ?_
          obtain ⟨x15, e16, h⟩ := ob h
          refine g_invV0 o (rc_self hk0) (by decide) ml_X11_46 kb_X11_refuse kv_X11_refuse rfl (c_X11_refuse (cq X) (cD X) (cY X) (cB X) (d := d) (by omega) (rc_at (rc_self hk0)).2 e16) rfl rfl (by simp [cat_i, cat_l, cat_rf]) dX11_among_62 ?_
          cases h
          exact g_iret o hr hE dX11_among_65
      · have h := (if_pos z).symm.trans h
        refine g_aload_n o dX11_among_38 0 rfl ?_
        refine g_iload_n o dX11_among_39 1 rfl ?_
        refine g_bipush (v := (31 : Int32)) o dX11_among_40 (by decide) ?_
        obtain ⟨x17, e18, h⟩ := ob h
        refine g_invV0 o (rc_self hk0) (by decide) ml_X11_58 kb_X11_refuseAt kv_X11_refuseAt rfl (c_X11_refuseAt (cq X) (cD X) (cY X) (cB X) (d := d) (by omega) (rc_at (rc_self hk0)).2 e18) rfl rfl (by simp [cat_i, cat_l, cat_rf]) dX11_among_42 ?_
        cases h
        exact g_iret o hr hE dX11_among_45
    · have h := (if_pos z).symm.trans h
      refine gsub [0] rfl ?_
      exact w_X11_among_18 o hL hr hz hk0 hE hd h
theorem c_X11_among (l : Launch) (D : va_G) (Y : Nat → ClassId) (B : Nat) {d : Nat} {n : Nat} {K L : Nat → Nat} {fu : Nat} {M : Mm} {a0 : Nat} {v1 : Int32} {v2 : Int32} {v3 : Int32} {v4 : Int32} {r : (Int32 × Mm)} (hd : 130 ≤ d) (hk0 : K a0 = 11) (h : f_X11_among K L fu a0 v1 v2 v3 v4 M = some r) : mC l D Y B d yX11_among cX11_among 8 (some .int) [va_rf (some a0), .int v1, .int v2, .int v3, .int v4] n K L M n K L r.2 (some (.int r.1)) 0 0 := by
  obtain ⟨d, rfl⟩ : ∃ e, d = e + 1 := ⟨d - 1, by omega⟩
  refine mk_met (by decide) (by simp [lgs_r, lgs_i, lgs_l, lgs_n]) (fun X e1 e2 e3 e4 o hL hr hnm hz hc hs hE => ?_)
  subst e1 e2 e3 e4
  rw [show lv_args 0 [va_rf (some a0), .int v1, .int v2, .int v3, .int v4] = [(0, va_rf (some a0)), (1, .int v1), (2, .int v2), (3, .int v3), (4, .int v4)] by simp [lva_r, lva_i, lva_l, lva_n]]
  exact w_X11_among_0 o hL hr hz hk0 hE hd h
