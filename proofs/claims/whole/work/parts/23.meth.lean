/-! methods: X11_caller X11_refuseAt X11_seat X11_way X11_why X11_isFactor X11_note X11_empty X11_holds X11_read X11_answer X11_rule X11_unrule X11_share X11_shares X11_firstFault X11_hangFault X11_hang X11_stop X11_ring X11_row X11_tear X11_step X11_refuseAtEither X11_copy -/
def f_X11_caller_38 (K L : Nat → Nat) (a0 : Nat) (M : Mm) : Option (Int32 × Mm) :=
  Option.bind (f_X11_refuse K L a0 (-3 : Int32) M) (fun x1 =>
  some (x1.1, x1.2))
set_option maxHeartbeats 4000000 in
theorem w_X11_caller_38 {X : Cx} {d n : Nat} {K L : Nat → Nat} {a0 : Nat} {r : (Int32 × Mm)} {M : Mm} (o : cOk X cX11_caller RX11 (d + 1)) (hL : cL X = 5) (hr : (ch X).sig.returnType = some .int) (hz : (cs X).heap.size + 0 = cB X + n) (hk0 : K a0 = 11) (hE : cE X n K L r.2 (some (.int r.1)) 0 0) (hd : 2 ≤ d + 1) (h : f_X11_caller_38 K L a0  M = some r) : gW X 0 0 n K L M 38 [(0, va_rf (some a0))] [] := by
  unfold f_X11_caller_38 at h
  refine g_aload_n o dX11_caller_38 0 rfl ?_
  refine g_bipush (v := (-3 : Int32)) o dX11_caller_39 (by decide) ?_
  obtain ⟨x1, e2, h⟩ := ob h
  refine g_invV0 o (rc_self hk0) (by decide) ml_X11_46 kb_X11_refuse kv_X11_refuse rfl (c_X11_refuse (cq X) (cD X) (cY X) (cB X) (d := d) (by omega) (rc_at (rc_self hk0)).2 e2) rfl rfl (by simp [cat_i, cat_l, cat_rf]) dX11_caller_41 ?_
  cases h
  exact g_iret o hr hE dX11_caller_44
def f_X11_caller (K L : Nat → Nat) (a0 : Nat) (v1 : Int32) (v2 : Int32) (v3 : Int32) (v4 : Int32) (M : Mm) : Option (Int32 × Mm) :=
  Option.bind (f_X11_within v1 (999999 : Int32)) (fun x1 =>
  if x1 = 0 then
    f_X11_caller_38 K L a0 M
  else
    Option.bind (f_X11_within v2 (15 : Int32)) (fun x3 =>
    if x3 = 0 then
      f_X11_caller_38 K L a0 M
    else
      Option.bind (f_X11_within v3 (4000 : Int32)) (fun x5 =>
      if x5 = 0 then
        f_X11_caller_38 K L a0 M
      else
        Option.bind (f_X11_within v4 (7 : Int32)) (fun x7 =>
        if x7 = 0 then
          f_X11_caller_38 K L a0 M
        else
          Option.bind (rc K (mm_R M (32 * 11 + 3) a0) 1) (fun a9 =>
          Option.bind (f_X1_become K L a9 v1 v2 v3 v4 M) (fun x11 =>
          some ((1 : Int32), x11)))))))
set_option maxHeartbeats 4000000 in
theorem w_X11_caller_0 {X : Cx} {d n : Nat} {K L : Nat → Nat} {a0 : Nat} {r : (Int32 × Mm)} {v1 : Int32} {v2 : Int32} {v3 : Int32} {v4 : Int32} {M : Mm} (o : cOk X cX11_caller RX11 (d + 1)) (hL : cL X = 5) (hr : (ch X).sig.returnType = some .int) (hz : (cs X).heap.size + 0 = cB X + n) (hk0 : K a0 = 11) (hE : cE X n K L r.2 (some (.int r.1)) 0 0) (hd : 2 ≤ d + 1) (h : f_X11_caller K L a0 v1 v2 v3 v4 M = some r) : gW X 0 0 n K L M 0 [(0, va_rf (some a0)), (1, .int v1), (2, .int v2), (3, .int v3), (4, .int v4)] [] := by
  unfold f_X11_caller at h
  refine g_iload_n o dX11_caller_0 1 rfl ?_
  refine g_ldc (v := (999999 : Int32)) o kc_X11_41 dX11_caller_1 ?_
  obtain ⟨x1, e2, h⟩ := ob h
  refine g_invS0 o ml_X11_42 kb_X11_within ks_X11_within (c_X11_within (cq X) (cD X) (cY X) (cB X) (d := d) (by omega) e2) rfl rfl (by simp [cat_i, cat_l, cat_rf]) dX11_caller_3 ?_
  refine g_if_eq (tgt := 38) o dX11_caller_6 (by decide) (fun z => ?_) (fun z => ?_)
  · have h := (if_pos z).symm.trans h
    refine gsub [0] rfl ?_
    exact w_X11_caller_38 o hL hr hz hk0 hE hd h
  · have h := (if_neg z).symm.trans h
    refine g_iload_n o dX11_caller_9 2 rfl ?_
    refine g_bipush (v := (15 : Int32)) o dX11_caller_10 (by decide) ?_
    obtain ⟨x3, e4, h⟩ := ob h
    refine g_invS0 o ml_X11_42 kb_X11_within ks_X11_within (c_X11_within (cq X) (cD X) (cY X) (cB X) (d := d) (by omega) e4) rfl rfl (by simp [cat_i, cat_l, cat_rf]) dX11_caller_12 ?_
    refine g_if_eq (tgt := 38) o dX11_caller_15 (by decide) (fun z => ?_) (fun z => ?_)
    · have h := (if_pos z).symm.trans h
      refine gsub [0] rfl ?_
      exact w_X11_caller_38 o hL hr hz hk0 hE hd h
    · have h := (if_neg z).symm.trans h
      refine g_iload_n o dX11_caller_18 3 rfl ?_
      refine g_sipush (v := (4000 : Int32)) o dX11_caller_19 (by decide) ?_
      obtain ⟨x5, e6, h⟩ := ob h
      refine g_invS0 o ml_X11_42 kb_X11_within ks_X11_within (c_X11_within (cq X) (cD X) (cY X) (cB X) (d := d) (by omega) e6) rfl rfl (by simp [cat_i, cat_l, cat_rf]) dX11_caller_22 ?_
      refine g_if_eq (tgt := 38) o dX11_caller_25 (by decide) (fun z => ?_) (fun z => ?_)
      · have h := (if_pos z).symm.trans h
        refine gsub [0] rfl ?_
        exact w_X11_caller_38 o hL hr hz hk0 hE hd h
      · have h := (if_neg z).symm.trans h
        refine g_iload o dX11_caller_28 4 rfl ?_
        refine g_bipush (v := (7 : Int32)) o dX11_caller_30 (by decide) ?_
        obtain ⟨x7, e8, h⟩ := ob h
        refine g_invS0 o ml_X11_42 kb_X11_within ks_X11_within (c_X11_within (cq X) (cD X) (cY X) (cB X) (d := d) (by omega) e8) rfl rfl (by simp [cat_i, cat_l, cat_rf]) dX11_caller_32 ?_
        refine g_if_ne (tgt := 45) o dX11_caller_35 (by decide) (fun z => ?_) (fun z => ?_)
        · have h := (if_neg z).symm.trans h
          refine g_aload_n o dX11_caller_45 0 rfl ?_
          refine g_getR o fl_X11_26 (rc_self hk0) (by decide) rfl dX11_caller_46 ?_
          refine g_iload_n o dX11_caller_49 1 rfl ?_
          refine g_iload_n o dX11_caller_50 2 rfl ?_
          refine g_iload_n o dX11_caller_51 3 rfl ?_
          refine g_iload o dX11_caller_52 4 rfl ?_
          obtain ⟨a9, e10, h⟩ := ob h
          obtain ⟨x11, e12, h⟩ := ob h
          refine g_invV0 o e10 (by decide) ml_X11_50 kb_X1_become kv_X1_become rfl (c_X1_become (cq X) (cD X) (cY X) (cB X) (d := d) (by omega) (rc_at e10).2 e12) rfl rfl (by simp [cat_i, cat_l, cat_rf]) dX11_caller_54 ?_
          refine g_iconst (v := (1 : Int32)) o dX11_caller_57 (by decide) ?_
          cases h
          exact g_iret o hr hE dX11_caller_58
        · have h := (if_pos z).symm.trans h
          refine gsub [0] rfl ?_
          exact w_X11_caller_38 o hL hr hz hk0 hE hd h
theorem c_X11_caller (l : Launch) (D : va_G) (Y : Nat → ClassId) (B : Nat) {d : Nat} {n : Nat} {K L : Nat → Nat} {M : Mm} {a0 : Nat} {v1 : Int32} {v2 : Int32} {v3 : Int32} {v4 : Int32} {r : (Int32 × Mm)} (hd : 2 ≤ d) (hk0 : K a0 = 11) (h : f_X11_caller K L a0 v1 v2 v3 v4 M = some r) : mC l D Y B d yX11_caller cX11_caller 5 (some .int) [va_rf (some a0), .int v1, .int v2, .int v3, .int v4] n K L M n K L r.2 (some (.int r.1)) 0 0 := by
  obtain ⟨d, rfl⟩ : ∃ e, d = e + 1 := ⟨d - 1, by omega⟩
  refine mk_met (by decide) (by simp [lgs_r, lgs_i, lgs_l, lgs_n]) (fun X e1 e2 e3 e4 o hL hr hnm hz hc hs hE => ?_)
  subst e1 e2 e3 e4
  rw [show lv_args 0 [va_rf (some a0), .int v1, .int v2, .int v3, .int v4] = [(0, va_rf (some a0)), (1, .int v1), (2, .int v2), (3, .int v3), (4, .int v4)] by simp [lva_r, lva_i, lva_l, lva_n]]
  exact w_X11_caller_0 o hL hr hz hk0 hE hd h
def f_X11_refuseAt (K L : Nat → Nat) (a0 : Nat) (v1 : Int32) (v2 : Int32) (M : Mm) : Option (Int32 × Mm) :=
  Option.bind (rc K (mm_R M (32 * 11 + 0) a0) 8) (fun a1 =>
  Option.bind (f_X8_faultAt K L M a1 v1 v2) (fun x3 =>
  Option.bind (f_X11_refuse K L a0 x3 M) (fun x5 =>
  some (x5.1, x5.2))))
set_option maxHeartbeats 4000000 in
theorem w_X11_refuseAt_0 {X : Cx} {d n : Nat} {K L : Nat → Nat} {a0 : Nat} {r : (Int32 × Mm)} {v1 : Int32} {v2 : Int32} {M : Mm} (o : cOk X cX11_refuseAt RX11 (d + 1)) (hL : cL X = 3) (hr : (ch X).sig.returnType = some .int) (hz : (cs X).heap.size + 0 = cB X + n) (hk0 : K a0 = 11) (hE : cE X n K L r.2 (some (.int r.1)) 0 0) (hd : 3 ≤ d + 1) (h : f_X11_refuseAt K L a0 v1 v2 M = some r) : gW X 0 0 n K L M 0 [(0, va_rf (some a0)), (1, .int v1), (2, .int v2)] [] := by
  unfold f_X11_refuseAt at h
  refine g_aload_n o dX11_refuseAt_0 0 rfl ?_
  refine g_aload_n o dX11_refuseAt_1 0 rfl ?_
  refine g_getR o fl_X11_10 (rc_self hk0) (by decide) rfl dX11_refuseAt_2 ?_
  refine g_iload_n o dX11_refuseAt_5 1 rfl ?_
  refine g_iload_n o dX11_refuseAt_6 2 rfl ?_
  obtain ⟨a1, e2, h⟩ := ob h
  obtain ⟨x3, e4, h⟩ := ob h
  refine g_invV0 o e2 (by decide) ml_X11_363 kb_X8_faultAt kv_X8_faultAt rfl (c_X8_faultAt (cq X) (cD X) (cY X) (cB X) (d := d) (by omega) (rc_at e2).2 e4) rfl rfl (by simp [cat_i, cat_l, cat_rf]) dX11_refuseAt_7 ?_
  obtain ⟨x5, e6, h⟩ := ob h
  refine g_invV0 o (rc_self hk0) (by decide) ml_X11_46 kb_X11_refuse kv_X11_refuse rfl (c_X11_refuse (cq X) (cD X) (cY X) (cB X) (d := d) (by omega) (rc_at (rc_self hk0)).2 e6) rfl rfl (by simp [cat_i, cat_l, cat_rf]) dX11_refuseAt_10 ?_
  cases h
  exact g_iret o hr hE dX11_refuseAt_13
theorem c_X11_refuseAt (l : Launch) (D : va_G) (Y : Nat → ClassId) (B : Nat) {d : Nat} {n : Nat} {K L : Nat → Nat} {M : Mm} {a0 : Nat} {v1 : Int32} {v2 : Int32} {r : (Int32 × Mm)} (hd : 3 ≤ d) (hk0 : K a0 = 11) (h : f_X11_refuseAt K L a0 v1 v2 M = some r) : mC l D Y B d yX11_refuseAt cX11_refuseAt 3 (some .int) [va_rf (some a0), .int v1, .int v2] n K L M n K L r.2 (some (.int r.1)) 0 0 := by
  obtain ⟨d, rfl⟩ : ∃ e, d = e + 1 := ⟨d - 1, by omega⟩
  refine mk_met (by decide) (by simp [lgs_r, lgs_i, lgs_l, lgs_n]) (fun X e1 e2 e3 e4 o hL hr hnm hz hc hs hE => ?_)
  subst e1 e2 e3 e4
  rw [show lv_args 0 [va_rf (some a0), .int v1, .int v2] = [(0, va_rf (some a0)), (1, .int v1), (2, .int v2)] by simp [lva_r, lva_i, lva_l, lva_n]]
  exact w_X11_refuseAt_0 o hL hr hz hk0 hE hd h
def f_X11_seat (K L : Nat → Nat) (a0 : Nat) (v1 : Int32) (M : Mm) : Option (Int32 × Mm) :=
  Option.bind (rc K (mm_R M (32 * 11 + 0) a0) 8) (fun a1 =>
  Option.bind (f_X8_find K L M a1 v1 (31 : Int32)) (fun x3 =>
  if x3 = none then
    Option.bind (f_X11_refuseAt K L a0 v1 (31 : Int32) M) (fun x11 =>
    some (x11.1, x11.2))
  else
    Option.bind (rc K (mm_R M (32 * 11 + 3) a0) 1) (fun a5 =>
    Option.bind (rc K x3 9) (fun a7 =>
    Option.bind (f_X9_seatOf K L M a7 (mm_I M (32 * 1 + 0) a5)) (fun x9 =>
    some (x9, M))))))
set_option maxHeartbeats 4000000 in
theorem w_X11_seat_0 {X : Cx} {d n : Nat} {K L : Nat → Nat} {a0 : Nat} {r : (Int32 × Mm)} {v1 : Int32} {M : Mm} (o : cOk X cX11_seat RX11 (d + 1)) (hL : cL X = 3) (hr : (ch X).sig.returnType = some .int) (hz : (cs X).heap.size + 0 = cB X + n) (hk0 : K a0 = 11) (hE : cE X n K L r.2 (some (.int r.1)) 0 0) (hd : 4 ≤ d + 1) (h : f_X11_seat K L a0 v1 M = some r) : gW X 0 0 n K L M 0 [(0, va_rf (some a0)), (1, .int v1)] [] := by
  unfold f_X11_seat at h
  refine g_aload_n o dX11_seat_0 0 rfl ?_
  refine g_getR o fl_X11_10 (rc_self hk0) (by decide) rfl dX11_seat_1 ?_
  refine g_iload_n o dX11_seat_4 1 rfl ?_
  refine g_bipush (v := (31 : Int32)) o dX11_seat_5 (by decide) ?_
  obtain ⟨a1, e2, h⟩ := ob h
  obtain ⟨x3, e4, h⟩ := ob h
  refine g_invV0 o e2 (by decide) ml_X11_54 kb_X8_find kv_X8_find rfl (c_X8_find (cq X) (cD X) (cY X) (cB X) (d := d) (by omega) (rc_at e2).2 e4) rfl rfl (by simp [cat_i, cat_l, cat_rf]) dX11_seat_7 ?_
  refine g_astore_n (i := 2) (ls' := [(2, va_rf x3), (0, va_rf (some a0)), (1, .int v1)]) o dX11_seat_10 rfl (ltL hL (by decide)) rfl ?_
  refine g_aload_n o dX11_seat_11 0 rfl ?_
  refine g_ifnonnull (tgt := 23) o dX11_seat_12 (by decide) (fun z => ?_) (fun z => ?_)
  · have h := (if_neg z).symm.trans h
    refine g_aload_n o dX11_seat_23 0 rfl ?_
    refine g_aload_n o dX11_seat_24 1 rfl ?_
    refine g_getR o fl_X11_26 (rc_self hk0) (by decide) rfl dX11_seat_25 ?_
    obtain ⟨a5, e6, h⟩ := ob h
    refine g_getI o fl_X11_62 e6 (by decide) rfl dX11_seat_28 ?_
    obtain ⟨a7, e8, h⟩ := ob h
    obtain ⟨x9, e10, h⟩ := ob h
    refine g_invV0 o e8 (by decide) ml_X11_66 kb_X9_seatOf kv_X9_seatOf rfl (c_X9_seatOf (cq X) (cD X) (cY X) (cB X) (d := d) (by omega) (rc_at e8).2 e10) rfl rfl (by simp [cat_i, cat_l, cat_rf]) dX11_seat_31 ?_
    cases h
    exact g_iret o hr hE dX11_seat_34
  · have h := (if_pos z).symm.trans h
    refine g_aload_n o dX11_seat_15 1 rfl ?_
    refine g_iload_n o dX11_seat_16 2 rfl ?_
    refine g_bipush (v := (31 : Int32)) o dX11_seat_17 (by decide) ?_
    obtain ⟨x11, e12, h⟩ := ob h
    refine g_invV0 o (rc_self hk0) (by decide) ml_X11_58 kb_X11_refuseAt kv_X11_refuseAt rfl (c_X11_refuseAt (cq X) (cD X) (cY X) (cB X) (d := d) (by omega) (rc_at (rc_self hk0)).2 e12) rfl rfl (by simp [cat_i, cat_l, cat_rf]) dX11_seat_19 ?_
    cases h
    exact g_iret o hr hE dX11_seat_22
theorem c_X11_seat (l : Launch) (D : va_G) (Y : Nat → ClassId) (B : Nat) {d : Nat} {n : Nat} {K L : Nat → Nat} {M : Mm} {a0 : Nat} {v1 : Int32} {r : (Int32 × Mm)} (hd : 4 ≤ d) (hk0 : K a0 = 11) (h : f_X11_seat K L a0 v1 M = some r) : mC l D Y B d yX11_seat cX11_seat 3 (some .int) [va_rf (some a0), .int v1] n K L M n K L r.2 (some (.int r.1)) 0 0 := by
  obtain ⟨d, rfl⟩ : ∃ e, d = e + 1 := ⟨d - 1, by omega⟩
  refine mk_met (by decide) (by simp [lgs_r, lgs_i, lgs_l, lgs_n]) (fun X e1 e2 e3 e4 o hL hr hnm hz hc hs hE => ?_)
  subst e1 e2 e3 e4
  rw [show lv_args 0 [va_rf (some a0), .int v1] = [(0, va_rf (some a0)), (1, .int v1)] by simp [lva_r, lva_i, lva_l, lva_n]]
  exact w_X11_seat_0 o hL hr hz hk0 hE hd h
def f_X11_way (K L : Nat → Nat) (fu : Nat) (a0 : Nat) (v1 : Int32) (M : Mm) : Option (Int32 × Mm) :=
  Option.bind (rc K (mm_R M (32 * 11 + 0) a0) 8) (fun a1 =>
  Option.bind (f_X8_find K L M a1 v1 (31 : Int32)) (fun x3 =>
  if x3 = none then
    Option.bind (f_X11_refuseAt K L a0 v1 (31 : Int32) M) (fun x17 =>
    some (x17.1, x17.2))
  else
    Option.bind (rc K (mm_R M (32 * 11 + 3) a0) 1) (fun a5 =>
    Option.bind (f_X1_begin K L fu a5 (mm_R M (32 * 11 + 0) a0) M) (fun x7 =>
    Option.bind (rc K (mm_R x7 (32 * 11 + 3) a0) 1) (fun a9 =>
    Option.bind (f_X1_ask K L a9 (mm_I x7 (32 * 1 + 0) a9) x7) (fun x11 =>
    Option.bind (rc K (mm_R x11 (32 * 11 + 3) a0) 1) (fun a13 =>
    Option.bind (f_X1_wayAt K L fu 20 a13 (mm_R x11 (32 * 11 + 0) a0) v1 (0 : Int32) x11) (fun x15 =>
    some (x15.1, x15.2)))))))))
set_option maxHeartbeats 4000000 in
theorem w_X11_way_0 {X : Cx} {d n : Nat} {K L : Nat → Nat} {fu : Nat} {a0 : Nat} {r : (Int32 × Mm)} {v1 : Int32} {M : Mm} (o : cOk X cX11_way RX11 (d + 1)) (hL : cL X = 2) (hr : (ch X).sig.returnType = some .int) (hz : (cs X).heap.size + 0 = cB X + n) (hk0 : K a0 = 11) (hE : cE X n K L r.2 (some (.int r.1)) 0 0) (hd : 130 ≤ d + 1) (h : f_X11_way K L fu a0 v1 M = some r) : gW X 0 0 n K L M 0 [(0, va_rf (some a0)), (1, .int v1)] [] := by
  unfold f_X11_way at h
  refine g_aload_n o dX11_way_0 0 rfl ?_
  refine g_getR o fl_X11_10 (rc_self hk0) (by decide) rfl dX11_way_1 ?_
  refine g_iload_n o dX11_way_4 1 rfl ?_
  refine g_bipush (v := (31 : Int32)) o dX11_way_5 (by decide) ?_
  obtain ⟨a1, e2, h⟩ := ob h
  obtain ⟨x3, e4, h⟩ := ob h
  refine g_invV0 o e2 (by decide) ml_X11_54 kb_X8_find kv_X8_find rfl (c_X8_find (cq X) (cD X) (cY X) (cB X) (d := d) (by omega) (rc_at e2).2 e4) rfl rfl (by simp [cat_i, cat_l, cat_rf]) dX11_way_7 ?_
  refine g_ifnonnull (tgt := 21) o dX11_way_10 (by decide) (fun z => ?_) (fun z => ?_)
  · have h := (if_neg z).symm.trans h
    refine g_aload_n o dX11_way_21 0 rfl ?_
    refine g_getR o fl_X11_26 (rc_self hk0) (by decide) rfl dX11_way_22 ?_
    refine g_aload_n o dX11_way_25 0 rfl ?_
    refine g_getR o fl_X11_10 (rc_self hk0) (by decide) rfl dX11_way_26 ?_
    obtain ⟨a5, e6, h⟩ := ob h
    obtain ⟨x7, e8, h⟩ := ob h
    refine g_invV0 o e6 (by decide) ml_X11_71 kb_X1_begin kv_X1_begin rfl (c_X1_begin (cq X) (cD X) (cY X) (cB X) (d := d) (by omega) (rc_at e6).2 e8) rfl rfl (by simp [cat_i, cat_l, cat_rf]) dX11_way_29 ?_
    refine g_aload_n o dX11_way_32 0 rfl ?_
    refine g_getR o fl_X11_26 (rc_self hk0) (by decide) rfl dX11_way_33 ?_
    refine g_aload_n o dX11_way_36 0 rfl ?_
    refine g_getR o fl_X11_26 (rc_self hk0) (by decide) rfl dX11_way_37 ?_
    obtain ⟨a9, e10, h⟩ := ob h
    refine g_getI o fl_X11_62 e10 (by decide) rfl dX11_way_40 ?_
    obtain ⟨x11, e12, h⟩ := ob h
    refine g_invV0 o e10 (by decide) ml_X11_75 kb_X1_ask kv_X1_ask rfl (c_X1_ask (cq X) (cD X) (cY X) (cB X) (d := d) (by omega) (rc_at e10).2 e12) rfl rfl (by simp [cat_i, cat_l, cat_rf]) dX11_way_43 ?_
    refine g_aload_n o dX11_way_46 0 rfl ?_
    refine g_getR o fl_X11_26 (rc_self hk0) (by decide) rfl dX11_way_47 ?_
    refine g_aload_n o dX11_way_50 0 rfl ?_
    refine g_getR o fl_X11_10 (rc_self hk0) (by decide) rfl dX11_way_51 ?_
    refine g_iload_n o dX11_way_54 1 rfl ?_
    refine g_iconst (v := (0 : Int32)) o dX11_way_55 (by decide) ?_
    obtain ⟨a13, e14, h⟩ := ob h
    obtain ⟨x15, e16, h⟩ := ob h
    refine g_invVN0 o e14 (by decide) mn_X11_79 kb_X1_wayAt kv_X1_wayAt rfl (cw_X1_wayAt (cq X) (cD X) (cY X) (cB X) 20 d (by omega) (rc_at e14).2 e16) rfl rfl (by simp [cat_i, cat_l, cat_rf]) dX11_way_56 ?_
    cases h
    exact g_iret o hr hE dX11_way_59
  · have h := (if_pos z).symm.trans h
    refine g_aload_n o dX11_way_13 0 rfl ?_
    refine g_iload_n o dX11_way_14 1 rfl ?_
    refine g_bipush (v := (31 : Int32)) o dX11_way_15 (by decide) ?_
    obtain ⟨x17, e18, h⟩ := ob h
    refine g_invV0 o (rc_self hk0) (by decide) ml_X11_58 kb_X11_refuseAt kv_X11_refuseAt rfl (c_X11_refuseAt (cq X) (cD X) (cY X) (cB X) (d := d) (by omega) (rc_at (rc_self hk0)).2 e18) rfl rfl (by simp [cat_i, cat_l, cat_rf]) dX11_way_17 ?_
    cases h
    exact g_iret o hr hE dX11_way_20
theorem c_X11_way (l : Launch) (D : va_G) (Y : Nat → ClassId) (B : Nat) {d : Nat} {n : Nat} {K L : Nat → Nat} {fu : Nat} {M : Mm} {a0 : Nat} {v1 : Int32} {r : (Int32 × Mm)} (hd : 130 ≤ d) (hk0 : K a0 = 11) (h : f_X11_way K L fu a0 v1 M = some r) : mC l D Y B d yX11_way cX11_way 2 (some .int) [va_rf (some a0), .int v1] n K L M n K L r.2 (some (.int r.1)) 0 0 := by
  obtain ⟨d, rfl⟩ : ∃ e, d = e + 1 := ⟨d - 1, by omega⟩
  refine mk_met (by decide) (by simp [lgs_r, lgs_i, lgs_l, lgs_n]) (fun X e1 e2 e3 e4 o hL hr hnm hz hc hs hE => ?_)
  subst e1 e2 e3 e4
  rw [show lv_args 0 [va_rf (some a0), .int v1] = [(0, va_rf (some a0)), (1, .int v1)] by simp [lva_r, lva_i, lva_l, lva_n]]
  exact w_X11_way_0 o hL hr hz hk0 hE hd h
def f_X11_why (K L : Nat → Nat) (fu : Nat) (a0 : Nat) (v1 : Int32) (M : Mm) : Option (Int32 × Mm) :=
  Option.bind (rc K (mm_R M (32 * 11 + 0) a0) 8) (fun a1 =>
  Option.bind (f_X8_find K L M a1 v1 (31 : Int32)) (fun x3 =>
  if x3 = none then
    Option.bind (f_X11_refuseAt K L a0 v1 (31 : Int32) M) (fun x17 =>
    some (x17.1, x17.2))
  else
    Option.bind (rc K (mm_R M (32 * 11 + 3) a0) 1) (fun a5 =>
    Option.bind (f_X1_begin K L fu a5 (mm_R M (32 * 11 + 0) a0) M) (fun x7 =>
    Option.bind (rc K (mm_R x7 (32 * 11 + 3) a0) 1) (fun a9 =>
    Option.bind (f_X1_ask K L a9 (mm_I x7 (32 * 1 + 0) a9) x7) (fun x11 =>
    Option.bind (rc K (mm_R x11 (32 * 11 + 3) a0) 1) (fun a13 =>
    Option.bind (f_X1_whyAt K L fu (f_X1_wayAt K L fu 19) a13 (mm_R x11 (32 * 11 + 0) a0) v1 (0 : Int32) x11) (fun x15 =>
    some (x15.1, x15.2)))))))))
set_option maxHeartbeats 4000000 in
theorem w_X11_why_0 {X : Cx} {d n : Nat} {K L : Nat → Nat} {fu : Nat} {a0 : Nat} {r : (Int32 × Mm)} {v1 : Int32} {M : Mm} (o : cOk X cX11_why RX11 (d + 1)) (hL : cL X = 2) (hr : (ch X).sig.returnType = some .int) (hz : (cs X).heap.size + 0 = cB X + n) (hk0 : K a0 = 11) (hE : cE X n K L r.2 (some (.int r.1)) 0 0) (hd : 130 ≤ d + 1) (h : f_X11_why K L fu a0 v1 M = some r) : gW X 0 0 n K L M 0 [(0, va_rf (some a0)), (1, .int v1)] [] := by
  unfold f_X11_why at h
  refine g_aload_n o dX11_why_0 0 rfl ?_
  refine g_getR o fl_X11_10 (rc_self hk0) (by decide) rfl dX11_why_1 ?_
  refine g_iload_n o dX11_why_4 1 rfl ?_
  refine g_bipush (v := (31 : Int32)) o dX11_why_5 (by decide) ?_
  obtain ⟨a1, e2, h⟩ := ob h
  obtain ⟨x3, e4, h⟩ := ob h
  refine g_invV0 o e2 (by decide) ml_X11_54 kb_X8_find kv_X8_find rfl (c_X8_find (cq X) (cD X) (cY X) (cB X) (d := d) (by omega) (rc_at e2).2 e4) rfl rfl (by simp [cat_i, cat_l, cat_rf]) dX11_why_7 ?_
  refine g_ifnonnull (tgt := 21) o dX11_why_10 (by decide) (fun z => ?_) (fun z => ?_)
  · have h := (if_neg z).symm.trans h
    refine g_aload_n o dX11_why_21 0 rfl ?_
    refine g_getR o fl_X11_26 (rc_self hk0) (by decide) rfl dX11_why_22 ?_
    refine g_aload_n o dX11_why_25 0 rfl ?_
    refine g_getR o fl_X11_10 (rc_self hk0) (by decide) rfl dX11_why_26 ?_
    obtain ⟨a5, e6, h⟩ := ob h
    obtain ⟨x7, e8, h⟩ := ob h
    refine g_invV0 o e6 (by decide) ml_X11_71 kb_X1_begin kv_X1_begin rfl (c_X1_begin (cq X) (cD X) (cY X) (cB X) (d := d) (by omega) (rc_at e6).2 e8) rfl rfl (by simp [cat_i, cat_l, cat_rf]) dX11_why_29 ?_
    refine g_aload_n o dX11_why_32 0 rfl ?_
    refine g_getR o fl_X11_26 (rc_self hk0) (by decide) rfl dX11_why_33 ?_
    refine g_aload_n o dX11_why_36 0 rfl ?_
    refine g_getR o fl_X11_26 (rc_self hk0) (by decide) rfl dX11_why_37 ?_
    obtain ⟨a9, e10, h⟩ := ob h
    refine g_getI o fl_X11_62 e10 (by decide) rfl dX11_why_40 ?_
    obtain ⟨x11, e12, h⟩ := ob h
    refine g_invV0 o e10 (by decide) ml_X11_75 kb_X1_ask kv_X1_ask rfl (c_X1_ask (cq X) (cD X) (cY X) (cB X) (d := d) (by omega) (rc_at e10).2 e12) rfl rfl (by simp [cat_i, cat_l, cat_rf]) dX11_why_43 ?_
    refine g_aload_n o dX11_why_46 0 rfl ?_
    refine g_getR o fl_X11_26 (rc_self hk0) (by decide) rfl dX11_why_47 ?_
    refine g_aload_n o dX11_why_50 0 rfl ?_
    refine g_getR o fl_X11_10 (rc_self hk0) (by decide) rfl dX11_why_51 ?_
    refine g_iload_n o dX11_why_54 1 rfl ?_
    refine g_iconst (v := (0 : Int32)) o dX11_why_55 (by decide) ?_
    obtain ⟨a13, e14, h⟩ := ob h
    obtain ⟨x15, e16, h⟩ := ob h
    refine g_invVN0 o e14 (by decide) mn_X11_83 kb_X1_whyAt kv_X1_whyAt rfl (c_X1_whyAt (cq X) (cD X) (cY X) (cB X) (d := d) (D0 := 107) (fun e he => cw_X1_wayAt _ _ _ _ 19 e (by omega)) (by omega) (by omega) (rc_at e14).2 e16) rfl rfl (by simp [cat_i, cat_l, cat_rf]) dX11_why_56 ?_
    cases h
    exact g_iret o hr hE dX11_why_59
  · have h := (if_pos z).symm.trans h
    refine g_aload_n o dX11_why_13 0 rfl ?_
    refine g_iload_n o dX11_why_14 1 rfl ?_
    refine g_bipush (v := (31 : Int32)) o dX11_why_15 (by decide) ?_
    obtain ⟨x17, e18, h⟩ := ob h
    refine g_invV0 o (rc_self hk0) (by decide) ml_X11_58 kb_X11_refuseAt kv_X11_refuseAt rfl (c_X11_refuseAt (cq X) (cD X) (cY X) (cB X) (d := d) (by omega) (rc_at (rc_self hk0)).2 e18) rfl rfl (by simp [cat_i, cat_l, cat_rf]) dX11_why_17 ?_
    cases h
    exact g_iret o hr hE dX11_why_20
theorem c_X11_why (l : Launch) (D : va_G) (Y : Nat → ClassId) (B : Nat) {d : Nat} {n : Nat} {K L : Nat → Nat} {fu : Nat} {M : Mm} {a0 : Nat} {v1 : Int32} {r : (Int32 × Mm)} (hd : 130 ≤ d) (hk0 : K a0 = 11) (h : f_X11_why K L fu a0 v1 M = some r) : mC l D Y B d yX11_why cX11_why 2 (some .int) [va_rf (some a0), .int v1] n K L M n K L r.2 (some (.int r.1)) 0 0 := by
  obtain ⟨d, rfl⟩ : ∃ e, d = e + 1 := ⟨d - 1, by omega⟩
  refine mk_met (by decide) (by simp [lgs_r, lgs_i, lgs_l, lgs_n]) (fun X e1 e2 e3 e4 o hL hr hnm hz hc hs hE => ?_)
  subst e1 e2 e3 e4
  rw [show lv_args 0 [va_rf (some a0), .int v1] = [(0, va_rf (some a0)), (1, .int v1)] by simp [lva_r, lva_i, lva_l, lva_n]]
  exact w_X11_why_0 o hL hr hz hk0 hE hd h
def f_X11_isFactor  (v0 : Int32) : Option Int32 :=
  if v0 < (1 : Int32) then
    some (0 : Int32)
  else
    if (10000 : Int32) ≤ v0 then
      some (0 : Int32)
    else
      if (v0 - v0 / (2 : Int32) * (2 : Int32)) = 0 then
        some (0 : Int32)
      else
        if (v0 - v0 / (5 : Int32) * (5 : Int32)) = 0 then
          some (0 : Int32)
        else
          some (1 : Int32)
set_option maxHeartbeats 4000000 in
theorem w_X11_isFactor_0 {X : Cx} {d n : Nat} {K L : Nat → Nat} {M : Mm} {r : Int32} {v0 : Int32} (o : cOk X cX11_isFactor RX11 d) (hL : cL X = 1) (hr : (ch X).sig.returnType = some .boolean) (hE : cE X n K L M (some (.int r)) 0 0) (h : f_X11_isFactor  v0 = some r) : gW X 0 0 n K L M 0 [(0, .int v0)] [] := by
  unfold f_X11_isFactor at h
  refine g_iload_n o dX11_isFactor_0 0 rfl ?_
  refine g_iconst (v := (1 : Int32)) o dX11_isFactor_1 (by decide) ?_
  refine g_icmp_lt (tgt := 28) o dX11_isFactor_2 (by decide) (fun z => ?_) (fun z => ?_)
  · have h := (if_pos z).symm.trans h
    refine g_iconst (v := (0 : Int32)) o dX11_isFactor_28 (by decide) ?_
    cases h
    exact g_zret o hr (by decide) hE dX11_isFactor_29
  · have h := (if_neg z).symm.trans h
    refine g_iload_n o dX11_isFactor_5 0 rfl ?_
    refine g_sipush (v := (10000 : Int32)) o dX11_isFactor_6 (by decide) ?_
    refine g_icmp_ge (tgt := 28) o dX11_isFactor_9 (by decide) (fun z => ?_) (fun z => ?_)
    · have h := (if_pos z).symm.trans h
      refine g_iconst (v := (0 : Int32)) o dX11_isFactor_28 (by decide) ?_
      cases h
      exact g_zret o hr (by decide) hE dX11_isFactor_29
    · have h := (if_neg z).symm.trans h
      refine g_iload_n o dX11_isFactor_12 0 rfl ?_
      refine g_iconst (v := (2 : Int32)) o dX11_isFactor_13 (by decide) ?_
      refine g_irem o dX11_isFactor_14 (by decide) ?_
      refine g_if_eq (tgt := 28) o dX11_isFactor_15 (by decide) (fun z => ?_) (fun z => ?_)
      · have h := (if_pos z).symm.trans h
        refine g_iconst (v := (0 : Int32)) o dX11_isFactor_28 (by decide) ?_
        cases h
        exact g_zret o hr (by decide) hE dX11_isFactor_29
      · have h := (if_neg z).symm.trans h
        refine g_iload_n o dX11_isFactor_18 0 rfl ?_
        refine g_iconst (v := (5 : Int32)) o dX11_isFactor_19 (by decide) ?_
        refine g_irem o dX11_isFactor_20 (by decide) ?_
        refine g_if_eq (tgt := 28) o dX11_isFactor_21 (by decide) (fun z => ?_) (fun z => ?_)
        · have h := (if_pos z).symm.trans h
          refine g_iconst (v := (0 : Int32)) o dX11_isFactor_28 (by decide) ?_
          cases h
          exact g_zret o hr (by decide) hE dX11_isFactor_29
        · have h := (if_neg z).symm.trans h
          refine g_iconst (v := (1 : Int32)) o dX11_isFactor_24 (by decide) ?_
          refine g_goto (tgt := 29) o dX11_isFactor_25 (by decide) ?_
          cases h
          exact g_zret o hr (by decide) hE dX11_isFactor_29
theorem c_X11_isFactor (l : Launch) (D : va_G) (Y : Nat → ClassId) (B : Nat) {d : Nat} {n : Nat} {K L : Nat → Nat} {M : Mm} {v0 : Int32} {r : Int32} (hd : 0 ≤ d) (h : f_X11_isFactor  v0 = some r) : mC l D Y B d yX11_isFactor cX11_isFactor 1 (some .boolean) [.int v0] n K L M n K L M (some (.int r)) 0 0 := by
  refine mk_met (by decide) (by simp [lgs_r, lgs_i, lgs_l, lgs_n]) (fun X e1 e2 e3 e4 o hL hr hnm hz hc hs hE => ?_)
  subst e1 e2 e3 e4
  rw [show lv_args 0 [.int v0] = [(0, .int v0)] by simp [lva_r, lva_i, lva_l, lva_n]]
  exact w_X11_isFactor_0 o hL hr hE h
def f_X11_note (K L : Nat → Nat) (a0 : Nat) (v1 : Int32) (v2 : Int64) (M : Mm) : Option (Int32 × Mm) :=
  Option.bind (rc K (mm_R M (32 * 11 + 0) a0) 8) (fun a1 =>
  Option.bind (f_X8_placeAt K L M a1 v1) (fun x3 =>
  if x3 = none then
    Option.bind (f_X11_refuse K L a0 (-3 : Int32) M) (fun x9 =>
    some (x9.1, x9.2))
  else
    Option.bind (rc K x3 4) (fun a5 =>
    Option.bind (f_X4_putNote K L a5 v2 M) (fun x7 =>
    some ((1 : Int32), x7)))))
set_option maxHeartbeats 4000000 in
theorem w_X11_note_0 {X : Cx} {d n : Nat} {K L : Nat → Nat} {a0 : Nat} {r : (Int32 × Mm)} {v1 : Int32} {v2 : Int64} {M : Mm} (o : cOk X cX11_note RX11 (d + 1)) (hL : cL X = 5) (hr : (ch X).sig.returnType = some .int) (hz : (cs X).heap.size + 0 = cB X + n) (hk0 : K a0 = 11) (hE : cE X n K L r.2 (some (.int r.1)) 0 0) (hd : 2 ≤ d + 1) (h : f_X11_note K L a0 v1 v2 M = some r) : gW X 0 0 n K L M 0 [(0, va_rf (some a0)), (1, .int v1), (2, .long v2)] [] := by
  unfold f_X11_note at h
  refine g_aload_n o dX11_note_0 0 rfl ?_
  refine g_getR o fl_X11_10 (rc_self hk0) (by decide) rfl dX11_note_1 ?_
  refine g_iload_n o dX11_note_4 1 rfl ?_
  obtain ⟨a1, e2, h⟩ := ob h
  obtain ⟨x3, e4, h⟩ := ob h
  refine g_invV0 o e2 (by decide) ml_X11_86 kb_X8_placeAt kv_X8_placeAt rfl (c_X8_placeAt (cq X) (cD X) (cY X) (cB X) (d := d) (by omega) (rc_at e2).2 e4) rfl rfl (by simp [cat_i, cat_l, cat_rf]) dX11_note_5 ?_
  refine g_astore (i := 4) (ls' := [(4, va_rf x3), (0, va_rf (some a0)), (1, .int v1), (2, .long v2)]) o dX11_note_8 (ltL hL (by decide)) rfl ?_
  refine g_aload o dX11_note_10 0 rfl ?_
  refine g_ifnonnull (tgt := 22) o dX11_note_12 (by decide) (fun z => ?_) (fun z => ?_)
  · have h := (if_neg z).symm.trans h
    refine g_aload o dX11_note_22 0 rfl ?_
    refine g_lload_n o dX11_note_24 3 rfl ?_
    obtain ⟨a5, e6, h⟩ := ob h
    obtain ⟨x7, e8, h⟩ := ob h
    refine g_invV0 o e6 (by decide) ml_X11_100 kb_X4_putNote kv_X4_putNote rfl (c_X4_putNote (cq X) (cD X) (cY X) (cB X) (d := d) (by omega) (rc_at e6).2 e8) rfl rfl (by simp [cat_i, cat_l, cat_rf]) dX11_note_25 ?_
    refine g_iconst (v := (1 : Int32)) o dX11_note_28 (by decide) ?_
    cases h
    exact g_iret o hr hE dX11_note_29
  · have h := (if_pos z).symm.trans h
    refine g_aload_n o dX11_note_15 1 rfl ?_
    refine g_bipush (v := (-3 : Int32)) o dX11_note_16 (by decide) ?_
    obtain ⟨x9, e10, h⟩ := ob h
    refine g_invV0 o (rc_self hk0) (by decide) ml_X11_46 kb_X11_refuse kv_X11_refuse rfl (c_X11_refuse (cq X) (cD X) (cY X) (cB X) (d := d) (by omega) (rc_at (rc_self hk0)).2 e10) rfl rfl (by simp [cat_i, cat_l, cat_rf]) dX11_note_18 ?_
    cases h
    exact g_iret o hr hE dX11_note_21
theorem c_X11_note (l : Launch) (D : va_G) (Y : Nat → ClassId) (B : Nat) {d : Nat} {n : Nat} {K L : Nat → Nat} {M : Mm} {a0 : Nat} {v1 : Int32} {v2 : Int64} {r : (Int32 × Mm)} (hd : 2 ≤ d) (hk0 : K a0 = 11) (h : f_X11_note K L a0 v1 v2 M = some r) : mC l D Y B d yX11_note cX11_note 5 (some .int) [va_rf (some a0), .int v1, .long v2] n K L M n K L r.2 (some (.int r.1)) 0 0 := by
  obtain ⟨d, rfl⟩ : ∃ e, d = e + 1 := ⟨d - 1, by omega⟩
  refine mk_met (by decide) (by simp [lgs_r, lgs_i, lgs_l, lgs_n]) (fun X e1 e2 e3 e4 o hL hr hnm hz hc hs hE => ?_)
  subst e1 e2 e3 e4
  rw [show lv_args 0 [va_rf (some a0), .int v1, .long v2] = [(0, va_rf (some a0)), (1, .int v1), (2, .long v2)] by simp [lva_r, lva_i, lva_l, lva_n]]
  exact w_X11_note_0 o hL hr hz hk0 hE hd h
def f_X11_empty (K L : Nat → Nat) (a0 : Nat) (v1 : Int32) (M : Mm) : Option (Int32 × Mm) :=
  Option.bind (rc K (mm_R M (32 * 11 + 0) a0) 8) (fun a1 =>
  Option.bind (f_X8_placeAt K L M a1 v1) (fun x3 =>
  if x3 = none then
    Option.bind (f_X11_refuse K L a0 (-3 : Int32) M) (fun x9 =>
    some (x9.1, x9.2))
  else
    Option.bind (rc K x3 4) (fun a5 =>
    Option.bind (f_X4_clear K L a5 M) (fun x7 =>
    if (x7.1) = 0 then
      some ((0 : Int32), x7.2)
    else
      some ((1 : Int32), x7.2)))))
set_option maxHeartbeats 4000000 in
theorem w_X11_empty_0 {X : Cx} {d n : Nat} {K L : Nat → Nat} {a0 : Nat} {r : (Int32 × Mm)} {v1 : Int32} {M : Mm} (o : cOk X cX11_empty RX11 (d + 1)) (hL : cL X = 3) (hr : (ch X).sig.returnType = some .int) (hz : (cs X).heap.size + 0 = cB X + n) (hk0 : K a0 = 11) (hE : cE X n K L r.2 (some (.int r.1)) 0 0) (hd : 2 ≤ d + 1) (h : f_X11_empty K L a0 v1 M = some r) : gW X 0 0 n K L M 0 [(0, va_rf (some a0)), (1, .int v1)] [] := by
  unfold f_X11_empty at h
  refine g_aload_n o dX11_empty_0 0 rfl ?_
  refine g_getR o fl_X11_10 (rc_self hk0) (by decide) rfl dX11_empty_1 ?_
  refine g_iload_n o dX11_empty_4 1 rfl ?_
  obtain ⟨a1, e2, h⟩ := ob h
  obtain ⟨x3, e4, h⟩ := ob h
  refine g_invV0 o e2 (by decide) ml_X11_86 kb_X8_placeAt kv_X8_placeAt rfl (c_X8_placeAt (cq X) (cD X) (cY X) (cB X) (d := d) (by omega) (rc_at e2).2 e4) rfl rfl (by simp [cat_i, cat_l, cat_rf]) dX11_empty_5 ?_
  refine g_astore_n (i := 2) (ls' := [(2, va_rf x3), (0, va_rf (some a0)), (1, .int v1)]) o dX11_empty_8 rfl (ltL hL (by decide)) rfl ?_
  refine g_aload_n o dX11_empty_9 0 rfl ?_
  refine g_ifnonnull (tgt := 20) o dX11_empty_10 (by decide) (fun z => ?_) (fun z => ?_)
  · have h := (if_neg z).symm.trans h
    refine g_aload_n o dX11_empty_20 0 rfl ?_
    obtain ⟨a5, e6, h⟩ := ob h
    obtain ⟨x7, e8, h⟩ := ob h
    refine g_invV0 o e6 (by decide) ml_X11_104 kb_X4_clear kv_X4_clear rfl (c_X4_clear (cq X) (cD X) (cY X) (cB X) (d := d) (by omega) (rc_at e6).2 e8) rfl rfl (by simp [cat_i, cat_l, cat_rf]) dX11_empty_21 ?_
    refine g_if_eq (tgt := 31) o dX11_empty_24 (by decide) (fun z => ?_) (fun z => ?_)
    · have h := (if_pos z).symm.trans h
      refine g_iconst (v := (0 : Int32)) o dX11_empty_31 (by decide) ?_
      cases h
      exact g_iret o hr hE dX11_empty_32
    · have h := (if_neg z).symm.trans h
      refine g_iconst (v := (1 : Int32)) o dX11_empty_27 (by decide) ?_
      refine g_goto (tgt := 32) o dX11_empty_28 (by decide) ?_
      cases h
      exact g_iret o hr hE dX11_empty_32
  · have h := (if_pos z).symm.trans h
    refine g_aload_n o dX11_empty_13 1 rfl ?_
    refine g_bipush (v := (-3 : Int32)) o dX11_empty_14 (by decide) ?_
    obtain ⟨x9, e10, h⟩ := ob h
    refine g_invV0 o (rc_self hk0) (by decide) ml_X11_46 kb_X11_refuse kv_X11_refuse rfl (c_X11_refuse (cq X) (cD X) (cY X) (cB X) (d := d) (by omega) (rc_at (rc_self hk0)).2 e10) rfl rfl (by simp [cat_i, cat_l, cat_rf]) dX11_empty_16 ?_
    cases h
    exact g_iret o hr hE dX11_empty_19
theorem c_X11_empty (l : Launch) (D : va_G) (Y : Nat → ClassId) (B : Nat) {d : Nat} {n : Nat} {K L : Nat → Nat} {M : Mm} {a0 : Nat} {v1 : Int32} {r : (Int32 × Mm)} (hd : 2 ≤ d) (hk0 : K a0 = 11) (h : f_X11_empty K L a0 v1 M = some r) : mC l D Y B d yX11_empty cX11_empty 3 (some .int) [va_rf (some a0), .int v1] n K L M n K L r.2 (some (.int r.1)) 0 0 := by
  obtain ⟨d, rfl⟩ : ∃ e, d = e + 1 := ⟨d - 1, by omega⟩
  refine mk_met (by decide) (by simp [lgs_r, lgs_i, lgs_l, lgs_n]) (fun X e1 e2 e3 e4 o hL hr hnm hz hc hs hE => ?_)
  subst e1 e2 e3 e4
  rw [show lv_args 0 [va_rf (some a0), .int v1] = [(0, va_rf (some a0)), (1, .int v1)] by simp [lva_r, lva_i, lva_l, lva_n]]
  exact w_X11_empty_0 o hL hr hz hk0 hE hd h
def f_X11_holds (K L : Nat → Nat) (a0 : Nat) (v1 : Int32) (M : Mm) : Option (Int32 × Mm) :=
  Option.bind (rc K (mm_R M (32 * 11 + 0) a0) 8) (fun a1 =>
  Option.bind (f_X8_placeAt K L M a1 v1) (fun x3 =>
  if x3 = none then
    Option.bind (f_X11_refuse K L a0 (-3 : Int32) M) (fun x9 =>
    some (x9.1, x9.2))
  else
    Option.bind (rc K x3 4) (fun a5 =>
    Option.bind (f_X4_content K L M a5) (fun x7 =>
    some (x7, M)))))
set_option maxHeartbeats 4000000 in
theorem w_X11_holds_0 {X : Cx} {d n : Nat} {K L : Nat → Nat} {a0 : Nat} {r : (Int32 × Mm)} {v1 : Int32} {M : Mm} (o : cOk X cX11_holds RX11 (d + 1)) (hL : cL X = 3) (hr : (ch X).sig.returnType = some .int) (hz : (cs X).heap.size + 0 = cB X + n) (hk0 : K a0 = 11) (hE : cE X n K L r.2 (some (.int r.1)) 0 0) (hd : 2 ≤ d + 1) (h : f_X11_holds K L a0 v1 M = some r) : gW X 0 0 n K L M 0 [(0, va_rf (some a0)), (1, .int v1)] [] := by
  unfold f_X11_holds at h
  refine g_aload_n o dX11_holds_0 0 rfl ?_
  refine g_getR o fl_X11_10 (rc_self hk0) (by decide) rfl dX11_holds_1 ?_
  refine g_iload_n o dX11_holds_4 1 rfl ?_
  obtain ⟨a1, e2, h⟩ := ob h
  obtain ⟨x3, e4, h⟩ := ob h
  refine g_invV0 o e2 (by decide) ml_X11_86 kb_X8_placeAt kv_X8_placeAt rfl (c_X8_placeAt (cq X) (cD X) (cY X) (cB X) (d := d) (by omega) (rc_at e2).2 e4) rfl rfl (by simp [cat_i, cat_l, cat_rf]) dX11_holds_5 ?_
  refine g_astore_n (i := 2) (ls' := [(2, va_rf x3), (0, va_rf (some a0)), (1, .int v1)]) o dX11_holds_8 rfl (ltL hL (by decide)) rfl ?_
  refine g_aload_n o dX11_holds_9 0 rfl ?_
  refine g_ifnonnull (tgt := 20) o dX11_holds_10 (by decide) (fun z => ?_) (fun z => ?_)
  · have h := (if_neg z).symm.trans h
    refine g_aload_n o dX11_holds_20 0 rfl ?_
    obtain ⟨a5, e6, h⟩ := ob h
    obtain ⟨x7, e8, h⟩ := ob h
    refine g_invV0 o e6 (by decide) ml_X11_108 kb_X4_content kv_X4_content rfl (c_X4_content (cq X) (cD X) (cY X) (cB X) (d := d) (by omega) (rc_at e6).2 e8) rfl rfl (by simp [cat_i, cat_l, cat_rf]) dX11_holds_21 ?_
    cases h
    exact g_iret o hr hE dX11_holds_24
  · have h := (if_pos z).symm.trans h
    refine g_aload_n o dX11_holds_13 1 rfl ?_
    refine g_bipush (v := (-3 : Int32)) o dX11_holds_14 (by decide) ?_
    obtain ⟨x9, e10, h⟩ := ob h
    refine g_invV0 o (rc_self hk0) (by decide) ml_X11_46 kb_X11_refuse kv_X11_refuse rfl (c_X11_refuse (cq X) (cD X) (cY X) (cB X) (d := d) (by omega) (rc_at (rc_self hk0)).2 e10) rfl rfl (by simp [cat_i, cat_l, cat_rf]) dX11_holds_16 ?_
    cases h
    exact g_iret o hr hE dX11_holds_19
theorem c_X11_holds (l : Launch) (D : va_G) (Y : Nat → ClassId) (B : Nat) {d : Nat} {n : Nat} {K L : Nat → Nat} {M : Mm} {a0 : Nat} {v1 : Int32} {r : (Int32 × Mm)} (hd : 2 ≤ d) (hk0 : K a0 = 11) (h : f_X11_holds K L a0 v1 M = some r) : mC l D Y B d yX11_holds cX11_holds 3 (some .int) [va_rf (some a0), .int v1] n K L M n K L r.2 (some (.int r.1)) 0 0 := by
  obtain ⟨d, rfl⟩ : ∃ e, d = e + 1 := ⟨d - 1, by omega⟩
  refine mk_met (by decide) (by simp [lgs_r, lgs_i, lgs_l, lgs_n]) (fun X e1 e2 e3 e4 o hL hr hnm hz hc hs hE => ?_)
  subst e1 e2 e3 e4
  rw [show lv_args 0 [va_rf (some a0), .int v1] = [(0, va_rf (some a0)), (1, .int v1)] by simp [lva_r, lva_i, lva_l, lva_n]]
  exact w_X11_holds_0 o hL hr hz hk0 hE hd h
def f_X11_read_44 (K L : Nat → Nat) (a0 : Nat) (s0 : Int32) (s1 : (Option Nat)) (M : Mm) : Option (Int64 × Mm) :=
  Option.bind (rc K s1 11) (fun a1 =>
  Option.bind (f_X11_refuse K L a1 s0 M) (fun x3 =>
  some ((0 : Int64), x3.2)))
set_option maxHeartbeats 4000000 in
theorem w_X11_read_44 {X : Cx} {d n : Nat} {K L : Nat → Nat} {a0 : Nat} {r : (Int64 × Mm)} {s0 : Int32} {s1 : (Option Nat)} {M : Mm} (o : cOk X cX11_read RX11 (d + 1)) (hL : cL X = 3) (hr : (ch X).sig.returnType = some .long) (hz : (cs X).heap.size + 0 = cB X + n) (hk0 : K a0 = 11) (hE : cE X n K L r.2 (some (.long r.1)) 0 0) (hd : 2 ≤ d + 1) (h : f_X11_read_44 K L a0 s0 s1 M = some r) : gW X 0 0 n K L M 44 [(0, va_rf (some a0))] [.int s0, va_rf s1] := by
  unfold f_X11_read_44 at h
  obtain ⟨a1, e2, h⟩ := ob h
  obtain ⟨x3, e4, h⟩ := ob h
  refine g_invV0 o e2 (by decide) ml_X11_46 kb_X11_refuse kv_X11_refuse rfl (c_X11_refuse (cq X) (cD X) (cY X) (cB X) (d := d) (by omega) (rc_at e2).2 e4) rfl rfl (by simp [cat_i, cat_l, cat_rf]) dX11_read_44 ?_
  refine g_pop o dX11_read_47 rfl ?_
  refine g_lconst (v := (0 : Int64)) o dX11_read_48 (by decide) ?_
  cases h
  exact g_lret o hr hE dX11_read_49
def f_X11_read (K L : Nat → Nat) (a0 : Nat) (v1 : Int32) (M : Mm) : Option (Int64 × Mm) :=
  Option.bind (rc K (mm_R M (32 * 11 + 0) a0) 8) (fun a1 =>
  Option.bind (f_X8_placeAt K L M a1 v1) (fun x3 =>
  if x3 = none then
    Option.bind (f_X11_refuse K L a0 (-3 : Int32) M) (fun x7 =>
    some ((0 : Int64), x7.2))
  else
    Option.bind (rc K x3 4) (fun a5 =>
    if (mm_I M (32 * 4 + 1) a5) = 0 then
      if (mm_R M (32 * 4 + 0) a5) = none then
        f_X11_read_44 K L a0 (-2 : Int32) (some a0) M
      else
        f_X11_read_44 K L a0 (-5 : Int32) (some a0) M
    else
      some (mm_J M (32 * 4 + 2) a5, M))))
set_option maxHeartbeats 4000000 in
theorem w_X11_read_0 {X : Cx} {d n : Nat} {K L : Nat → Nat} {a0 : Nat} {r : (Int64 × Mm)} {v1 : Int32} {M : Mm} (o : cOk X cX11_read RX11 (d + 1)) (hL : cL X = 3) (hr : (ch X).sig.returnType = some .long) (hz : (cs X).heap.size + 0 = cB X + n) (hk0 : K a0 = 11) (hE : cE X n K L r.2 (some (.long r.1)) 0 0) (hd : 2 ≤ d + 1) (h : f_X11_read K L a0 v1 M = some r) : gW X 0 0 n K L M 0 [(0, va_rf (some a0)), (1, .int v1)] [] := by
  unfold f_X11_read at h
  refine g_aload_n o dX11_read_0 0 rfl ?_
  refine g_getR o fl_X11_10 (rc_self hk0) (by decide) rfl dX11_read_1 ?_
  refine g_iload_n o dX11_read_4 1 rfl ?_
  obtain ⟨a1, e2, h⟩ := ob h
  obtain ⟨x3, e4, h⟩ := ob h
  refine g_invV0 o e2 (by decide) ml_X11_86 kb_X8_placeAt kv_X8_placeAt rfl (c_X8_placeAt (cq X) (cD X) (cY X) (cB X) (d := d) (by omega) (rc_at e2).2 e4) rfl rfl (by simp [cat_i, cat_l, cat_rf]) dX11_read_5 ?_
  refine g_astore_n (i := 2) (ls' := [(2, va_rf x3), (0, va_rf (some a0)), (1, .int v1)]) o dX11_read_8 rfl (ltL hL (by decide)) rfl ?_
  refine g_aload_n o dX11_read_9 0 rfl ?_
  refine g_ifnonnull (tgt := 22) o dX11_read_10 (by decide) (fun z => ?_) (fun z => ?_)
  · have h := (if_neg z).symm.trans h
    refine g_aload_n o dX11_read_22 0 rfl ?_
    obtain ⟨a5, e6, h⟩ := ob h
    refine g_getI o fl_X11_112 e6 (by decide) rfl dX11_read_23 ?_
    refine g_if_ne (tgt := 50) o dX11_read_26 (by decide) (fun z => ?_) (fun z => ?_)
    · have h := (if_neg z).symm.trans h
      refine g_aload_n o dX11_read_50 0 rfl ?_
      refine g_getJ o fl_X11_119 e6 (by decide) rfl dX11_read_51 ?_
      cases h
      exact g_lret o hr hE dX11_read_54
    · have h := (if_pos z).symm.trans h
      refine g_aload_n o dX11_read_29 1 rfl ?_
      refine g_aload_n o dX11_read_30 0 rfl ?_
      refine g_getR o fl_X11_115 e6 (by decide) rfl dX11_read_31 ?_
      refine g_ifnonnull (tgt := 42) o dX11_read_34 (by decide) (fun z => ?_) (fun z => ?_)
      · have h := (if_neg z).symm.trans h
        refine g_bipush (v := (-5 : Int32)) o dX11_read_42 (by decide) ?_
        refine gsub [1] rfl ?_
        exact w_X11_read_44 o hL hr hz hk0 hE hd h
      · have h := (if_pos z).symm.trans h
        refine g_bipush (v := (-2 : Int32)) o dX11_read_37 (by decide) ?_
        refine g_goto (tgt := 44) o dX11_read_39 (by decide) ?_
        refine gsub [1] rfl ?_
        exact w_X11_read_44 o hL hr hz hk0 hE hd h
  · have h := (if_pos z).symm.trans h
    refine g_aload_n o dX11_read_13 1 rfl ?_
    refine g_bipush (v := (-3 : Int32)) o dX11_read_14 (by decide) ?_
    obtain ⟨x7, e8, h⟩ := ob h
    refine g_invV0 o (rc_self hk0) (by decide) ml_X11_46 kb_X11_refuse kv_X11_refuse rfl (c_X11_refuse (cq X) (cD X) (cY X) (cB X) (d := d) (by omega) (rc_at (rc_self hk0)).2 e8) rfl rfl (by simp [cat_i, cat_l, cat_rf]) dX11_read_16 ?_
    refine g_pop o dX11_read_19 rfl ?_
    refine g_lconst (v := (0 : Int64)) o dX11_read_20 (by decide) ?_
    cases h
    exact g_lret o hr hE dX11_read_21
theorem c_X11_read (l : Launch) (D : va_G) (Y : Nat → ClassId) (B : Nat) {d : Nat} {n : Nat} {K L : Nat → Nat} {M : Mm} {a0 : Nat} {v1 : Int32} {r : (Int64 × Mm)} (hd : 2 ≤ d) (hk0 : K a0 = 11) (h : f_X11_read K L a0 v1 M = some r) : mC l D Y B d yX11_read cX11_read 3 (some .long) [va_rf (some a0), .int v1] n K L M n K L r.2 (some (.long r.1)) 0 0 := by
  obtain ⟨d, rfl⟩ : ∃ e, d = e + 1 := ⟨d - 1, by omega⟩
  refine mk_met (by decide) (by simp [lgs_r, lgs_i, lgs_l, lgs_n]) (fun X e1 e2 e3 e4 o hL hr hnm hz hc hs hE => ?_)
  subst e1 e2 e3 e4
  rw [show lv_args 0 [va_rf (some a0), .int v1] = [(0, va_rf (some a0)), (1, .int v1)] by simp [lva_r, lva_i, lva_l, lva_n]]
  exact w_X11_read_0 o hL hr hz hk0 hE hd h
def f_X11_answer (K L : Nat → Nat) (a0 : Nat) (v1 : Int32) (M : Mm) : Option (Int32 × Mm) :=
  if 0 ≤ v1 then
    some (v1, M)
  else
    Option.bind (f_X11_refuse K L a0 v1 M) (fun x1 =>
    some (x1.1, x1.2))
set_option maxHeartbeats 4000000 in
theorem w_X11_answer_0 {X : Cx} {d n : Nat} {K L : Nat → Nat} {a0 : Nat} {r : (Int32 × Mm)} {v1 : Int32} {M : Mm} (o : cOk X cX11_answer RX11 (d + 1)) (hL : cL X = 2) (hr : (ch X).sig.returnType = some .int) (hz : (cs X).heap.size + 0 = cB X + n) (hk0 : K a0 = 11) (hE : cE X n K L r.2 (some (.int r.1)) 0 0) (hd : 2 ≤ d + 1) (h : f_X11_answer K L a0 v1 M = some r) : gW X 0 0 n K L M 0 [(0, va_rf (some a0)), (1, .int v1)] [] := by
  unfold f_X11_answer at h
  refine g_iload_n o dX11_answer_0 1 rfl ?_
  refine g_if_ge (tgt := 12) o dX11_answer_1 (by decide) (fun z => ?_) (fun z => ?_)
  · have h := (if_pos z).symm.trans h
    refine g_iload_n o dX11_answer_12 1 rfl ?_
    cases h
    exact g_iret o hr hE dX11_answer_13
  · have h := (if_neg z).symm.trans h
    refine g_aload_n o dX11_answer_4 0 rfl ?_
    refine g_iload_n o dX11_answer_5 1 rfl ?_
    obtain ⟨x1, e2, h⟩ := ob h
    refine g_invV0 o (rc_self hk0) (by decide) ml_X11_46 kb_X11_refuse kv_X11_refuse rfl (c_X11_refuse (cq X) (cD X) (cY X) (cB X) (d := d) (by omega) (rc_at (rc_self hk0)).2 e2) rfl rfl (by simp [cat_i, cat_l, cat_rf]) dX11_answer_6 ?_
    refine g_goto (tgt := 13) o dX11_answer_9 (by decide) ?_
    cases h
    exact g_iret o hr hE dX11_answer_13
theorem c_X11_answer (l : Launch) (D : va_G) (Y : Nat → ClassId) (B : Nat) {d : Nat} {n : Nat} {K L : Nat → Nat} {M : Mm} {a0 : Nat} {v1 : Int32} {r : (Int32 × Mm)} (hd : 2 ≤ d) (hk0 : K a0 = 11) (h : f_X11_answer K L a0 v1 M = some r) : mC l D Y B d yX11_answer cX11_answer 2 (some .int) [va_rf (some a0), .int v1] n K L M n K L r.2 (some (.int r.1)) 0 0 := by
  obtain ⟨d, rfl⟩ : ∃ e, d = e + 1 := ⟨d - 1, by omega⟩
  refine mk_met (by decide) (by simp [lgs_r, lgs_i, lgs_l, lgs_n]) (fun X e1 e2 e3 e4 o hL hr hnm hz hc hs hE => ?_)
  subst e1 e2 e3 e4
  rw [show lv_args 0 [va_rf (some a0), .int v1] = [(0, va_rf (some a0)), (1, .int v1)] by simp [lva_r, lva_i, lva_l, lva_n]]
  exact w_X11_answer_0 o hL hr hz hk0 hE hd h
def f_X11_rule_18 (K L : Nat → Nat) (a0 : Nat) (M : Mm) : Option (Int32 × Mm) :=
  Option.bind (f_X11_refuse K L a0 (-3 : Int32) M) (fun x1 =>
  some (x1.1, x1.2))
set_option maxHeartbeats 4000000 in
theorem w_X11_rule_18 {X : Cx} {d n : Nat} {K L : Nat → Nat} {a0 : Nat} {r : (Int32 × Mm)} {M : Mm} (o : cOk X cX11_rule RX11 (d + 1)) (hL : cL X = 7) (hr : (ch X).sig.returnType = some .int) (hz : (cs X).heap.size + 0 = cB X + n) (hk0 : K a0 = 11) (hE : cE X n K L r.2 (some (.int r.1)) 0 0) (hd : 4 ≤ d + 1) (h : f_X11_rule_18 K L a0  M = some r) : gW X 0 0 n K L M 18 [(0, va_rf (some a0))] [] := by
  unfold f_X11_rule_18 at h
  refine g_aload_n o dX11_rule_18 0 rfl ?_
  refine g_bipush (v := (-3 : Int32)) o dX11_rule_19 (by decide) ?_
  obtain ⟨x1, e2, h⟩ := ob h
  refine g_invV0 o (rc_self hk0) (by decide) ml_X11_46 kb_X11_refuse kv_X11_refuse rfl (c_X11_refuse (cq X) (cD X) (cY X) (cB X) (d := d) (by omega) (rc_at (rc_self hk0)).2 e2) rfl rfl (by simp [cat_i, cat_l, cat_rf]) dX11_rule_21 ?_
  cases h
  exact g_iret o hr hE dX11_rule_24
def f_X11_rule (K L : Nat → Nat) (a0 : Nat) (v1 : Int32) (v2 : Int32) (v3 : Int32) (v4 : Int32) (v5 : Int32) (M : Mm) : Option (Int32 × Mm) :=
  Option.bind (f_X11_within v2 (2 : Int32)) (fun x1 =>
  if x1 = 0 then
    f_X11_rule_18 K L a0 M
  else
    Option.bind (f_X11_within v5 (7 : Int32)) (fun x3 =>
    if x3 = 0 then
      f_X11_rule_18 K L a0 M
    else
      Option.bind (rc K (mm_R M (32 * 11 + 0) a0) 8) (fun a5 =>
      Option.bind (f_X8_find K L M a5 v1 (31 : Int32)) (fun x7 =>
      if x7 = none then
        Option.bind (f_X11_refuseAt K L a0 v1 (31 : Int32) M) (fun x17 =>
        some (x17.1, x17.2))
      else
        Option.bind (rc K x7 9) (fun a9 =>
        Option.bind (rc K (mm_R M (32 * 9 + 3) a9) 6) (fun a11 =>
        Option.bind (f_X6_add K L a11 v2 v3 v4 v5 M) (fun x13 =>
        Option.bind (f_X11_answer K L a0 (x13.1) x13.2) (fun x15 =>
        some (x15.1, x15.2)))))))))
set_option maxHeartbeats 4000000 in
theorem w_X11_rule_0 {X : Cx} {d n : Nat} {K L : Nat → Nat} {a0 : Nat} {r : (Int32 × Mm)} {v1 : Int32} {v2 : Int32} {v3 : Int32} {v4 : Int32} {v5 : Int32} {M : Mm} (o : cOk X cX11_rule RX11 (d + 1)) (hL : cL X = 7) (hr : (ch X).sig.returnType = some .int) (hz : (cs X).heap.size + 0 = cB X + n) (hk0 : K a0 = 11) (hE : cE X n K L r.2 (some (.int r.1)) 0 0) (hd : 4 ≤ d + 1) (h : f_X11_rule K L a0 v1 v2 v3 v4 v5 M = some r) : gW X 0 0 n K L M 0 [(0, va_rf (some a0)), (1, .int v1), (2, .int v2), (3, .int v3), (4, .int v4), (5, .int v5)] [] := by
  unfold f_X11_rule at h
  refine g_iload_n o dX11_rule_0 2 rfl ?_
  refine g_iconst (v := (2 : Int32)) o dX11_rule_1 (by decide) ?_
  obtain ⟨x1, e2, h⟩ := ob h
  refine g_invS0 o ml_X11_42 kb_X11_within ks_X11_within (c_X11_within (cq X) (cD X) (cY X) (cB X) (d := d) (by omega) e2) rfl rfl (by simp [cat_i, cat_l, cat_rf]) dX11_rule_2 ?_
  refine g_if_eq (tgt := 18) o dX11_rule_5 (by decide) (fun z => ?_) (fun z => ?_)
  · have h := (if_pos z).symm.trans h
    refine gsub [0] rfl ?_
    exact w_X11_rule_18 o hL hr hz hk0 hE hd h
  · have h := (if_neg z).symm.trans h
    refine g_iload o dX11_rule_8 5 rfl ?_
    refine g_bipush (v := (7 : Int32)) o dX11_rule_10 (by decide) ?_
    obtain ⟨x3, e4, h⟩ := ob h
    refine g_invS0 o ml_X11_42 kb_X11_within ks_X11_within (c_X11_within (cq X) (cD X) (cY X) (cB X) (d := d) (by omega) e4) rfl rfl (by simp [cat_i, cat_l, cat_rf]) dX11_rule_12 ?_
    refine g_if_ne (tgt := 25) o dX11_rule_15 (by decide) (fun z => ?_) (fun z => ?_)
    · have h := (if_neg z).symm.trans h
      refine g_aload_n o dX11_rule_25 0 rfl ?_
      refine g_getR o fl_X11_10 (rc_self hk0) (by decide) rfl dX11_rule_26 ?_
      refine g_iload_n o dX11_rule_29 1 rfl ?_
      refine g_bipush (v := (31 : Int32)) o dX11_rule_30 (by decide) ?_
      obtain ⟨a5, e6, h⟩ := ob h
      obtain ⟨x7, e8, h⟩ := ob h
      refine g_invV0 o e6 (by decide) ml_X11_54 kb_X8_find kv_X8_find rfl (c_X8_find (cq X) (cD X) (cY X) (cB X) (d := d) (by omega) (rc_at e6).2 e8) rfl rfl (by simp [cat_i, cat_l, cat_rf]) dX11_rule_32 ?_
      refine g_astore (i := 6) (ls' := [(6, va_rf x7), (0, va_rf (some a0)), (1, .int v1), (2, .int v2), (3, .int v3), (4, .int v4), (5, .int v5)]) o dX11_rule_35 (ltL hL (by decide)) rfl ?_
      refine g_aload o dX11_rule_37 0 rfl ?_
      refine g_ifnonnull (tgt := 50) o dX11_rule_39 (by decide) (fun z => ?_) (fun z => ?_)
      · have h := (if_neg z).symm.trans h
        refine g_aload_n o dX11_rule_50 1 rfl ?_
        refine g_aload o dX11_rule_51 0 rfl ?_
        obtain ⟨a9, e10, h⟩ := ob h
        refine g_getR o fl_X11_123 e10 (by decide) rfl dX11_rule_53 ?_
        refine g_iload_n o dX11_rule_56 3 rfl ?_
        refine g_iload_n o dX11_rule_57 4 rfl ?_
        refine g_iload o dX11_rule_58 5 rfl ?_
        refine g_iload o dX11_rule_60 6 rfl ?_
        obtain ⟨a11, e12, h⟩ := ob h
        obtain ⟨x13, e14, h⟩ := ob h
        refine g_invV0 o e12 (by decide) ml_X11_127 kb_X6_add kv_X6_add rfl (c_X6_add (cq X) (cD X) (cY X) (cB X) (d := d) (by omega) (rc_at e12).2 e14) rfl rfl (by simp [cat_i, cat_l, cat_rf]) dX11_rule_62 ?_
        obtain ⟨x15, e16, h⟩ := ob h
        refine g_invV0 o (rc_self hk0) (by decide) ml_X11_133 kb_X11_answer kv_X11_answer rfl (c_X11_answer (cq X) (cD X) (cY X) (cB X) (d := d) (by omega) (rc_at (rc_self hk0)).2 e16) rfl rfl (by simp [cat_i, cat_l, cat_rf]) dX11_rule_65 ?_
        cases h
        exact g_iret o hr hE dX11_rule_68
      · have h := (if_pos z).symm.trans h
        refine g_aload_n o dX11_rule_42 1 rfl ?_
        refine g_iload_n o dX11_rule_43 2 rfl ?_
        refine g_bipush (v := (31 : Int32)) o dX11_rule_44 (by decide) ?_
        obtain ⟨x17, e18, h⟩ := ob h
        refine g_invV0 o (rc_self hk0) (by decide) ml_X11_58 kb_X11_refuseAt kv_X11_refuseAt rfl (c_X11_refuseAt (cq X) (cD X) (cY X) (cB X) (d := d) (by omega) (rc_at (rc_self hk0)).2 e18) rfl rfl (by simp [cat_i, cat_l, cat_rf]) dX11_rule_46 ?_
        cases h
        exact g_iret o hr hE dX11_rule_49
    · have h := (if_pos z).symm.trans h
      refine gsub [0] rfl ?_
      exact w_X11_rule_18 o hL hr hz hk0 hE hd h
theorem c_X11_rule (l : Launch) (D : va_G) (Y : Nat → ClassId) (B : Nat) {d : Nat} {n : Nat} {K L : Nat → Nat} {M : Mm} {a0 : Nat} {v1 : Int32} {v2 : Int32} {v3 : Int32} {v4 : Int32} {v5 : Int32} {r : (Int32 × Mm)} (hd : 4 ≤ d) (hk0 : K a0 = 11) (h : f_X11_rule K L a0 v1 v2 v3 v4 v5 M = some r) : mC l D Y B d yX11_rule cX11_rule 7 (some .int) [va_rf (some a0), .int v1, .int v2, .int v3, .int v4, .int v5] n K L M n K L r.2 (some (.int r.1)) 0 0 := by
  obtain ⟨d, rfl⟩ : ∃ e, d = e + 1 := ⟨d - 1, by omega⟩
  refine mk_met (by decide) (by simp [lgs_r, lgs_i, lgs_l, lgs_n]) (fun X e1 e2 e3 e4 o hL hr hnm hz hc hs hE => ?_)
  subst e1 e2 e3 e4
  rw [show lv_args 0 [va_rf (some a0), .int v1, .int v2, .int v3, .int v4, .int v5] = [(0, va_rf (some a0)), (1, .int v1), (2, .int v2), (3, .int v3), (4, .int v4), (5, .int v5)] by simp [lva_r, lva_i, lva_l, lva_n]]
  exact w_X11_rule_0 o hL hr hz hk0 hE hd h
def f_X11_unrule (K L : Nat → Nat) (a0 : Nat) (v1 : Int32) (M : Mm) : Option (Int32 × Mm) :=
  Option.bind (rc K (mm_R M (32 * 11 + 0) a0) 8) (fun a1 =>
  Option.bind (f_X8_find K L M a1 v1 (31 : Int32)) (fun x3 =>
  if x3 = none then
    Option.bind (f_X11_refuseAt K L a0 v1 (31 : Int32) M) (fun x13 =>
    some (x13.1, x13.2))
  else
    Option.bind (rc K x3 9) (fun a5 =>
    Option.bind (rc K (mm_R M (32 * 9 + 3) a5) 6) (fun a7 =>
    Option.bind (f_X6_dropLast K L a7 M) (fun x9 =>
    Option.bind (f_X11_answer K L a0 (x9.1) x9.2) (fun x11 =>
    some (x11.1, x11.2)))))))
set_option maxHeartbeats 4000000 in
theorem w_X11_unrule_0 {X : Cx} {d n : Nat} {K L : Nat → Nat} {a0 : Nat} {r : (Int32 × Mm)} {v1 : Int32} {M : Mm} (o : cOk X cX11_unrule RX11 (d + 1)) (hL : cL X = 3) (hr : (ch X).sig.returnType = some .int) (hz : (cs X).heap.size + 0 = cB X + n) (hk0 : K a0 = 11) (hE : cE X n K L r.2 (some (.int r.1)) 0 0) (hd : 4 ≤ d + 1) (h : f_X11_unrule K L a0 v1 M = some r) : gW X 0 0 n K L M 0 [(0, va_rf (some a0)), (1, .int v1)] [] := by
  unfold f_X11_unrule at h
  refine g_aload_n o dX11_unrule_0 0 rfl ?_
  refine g_getR o fl_X11_10 (rc_self hk0) (by decide) rfl dX11_unrule_1 ?_
  refine g_iload_n o dX11_unrule_4 1 rfl ?_
  refine g_bipush (v := (31 : Int32)) o dX11_unrule_5 (by decide) ?_
  obtain ⟨a1, e2, h⟩ := ob h
  obtain ⟨x3, e4, h⟩ := ob h
  refine g_invV0 o e2 (by decide) ml_X11_54 kb_X8_find kv_X8_find rfl (c_X8_find (cq X) (cD X) (cY X) (cB X) (d := d) (by omega) (rc_at e2).2 e4) rfl rfl (by simp [cat_i, cat_l, cat_rf]) dX11_unrule_7 ?_
  refine g_astore_n (i := 2) (ls' := [(2, va_rf x3), (0, va_rf (some a0)), (1, .int v1)]) o dX11_unrule_10 rfl (ltL hL (by decide)) rfl ?_
  refine g_aload_n o dX11_unrule_11 0 rfl ?_
  refine g_ifnonnull (tgt := 23) o dX11_unrule_12 (by decide) (fun z => ?_) (fun z => ?_)
  · have h := (if_neg z).symm.trans h
    refine g_aload_n o dX11_unrule_23 1 rfl ?_
    refine g_aload_n o dX11_unrule_24 0 rfl ?_
    obtain ⟨a5, e6, h⟩ := ob h
    refine g_getR o fl_X11_123 e6 (by decide) rfl dX11_unrule_25 ?_
    obtain ⟨a7, e8, h⟩ := ob h
    obtain ⟨x9, e10, h⟩ := ob h
    refine g_invV0 o e8 (by decide) ml_X11_136 kb_X6_dropLast kv_X6_dropLast rfl (c_X6_dropLast (cq X) (cD X) (cY X) (cB X) (d := d) (by omega) (rc_at e8).2 e10) rfl rfl (by simp [cat_i, cat_l, cat_rf]) dX11_unrule_28 ?_
    obtain ⟨x11, e12, h⟩ := ob h
    refine g_invV0 o (rc_self hk0) (by decide) ml_X11_133 kb_X11_answer kv_X11_answer rfl (c_X11_answer (cq X) (cD X) (cY X) (cB X) (d := d) (by omega) (rc_at (rc_self hk0)).2 e12) rfl rfl (by simp [cat_i, cat_l, cat_rf]) dX11_unrule_31 ?_
    cases h
    exact g_iret o hr hE dX11_unrule_34
  · have h := (if_pos z).symm.trans h
    refine g_aload_n o dX11_unrule_15 1 rfl ?_
    refine g_iload_n o dX11_unrule_16 2 rfl ?_
    refine g_bipush (v := (31 : Int32)) o dX11_unrule_17 (by decide) ?_
    obtain ⟨x13, e14, h⟩ := ob h
    refine g_invV0 o (rc_self hk0) (by decide) ml_X11_58 kb_X11_refuseAt kv_X11_refuseAt rfl (c_X11_refuseAt (cq X) (cD X) (cY X) (cB X) (d := d) (by omega) (rc_at (rc_self hk0)).2 e14) rfl rfl (by simp [cat_i, cat_l, cat_rf]) dX11_unrule_19 ?_
    cases h
    exact g_iret o hr hE dX11_unrule_22
theorem c_X11_unrule (l : Launch) (D : va_G) (Y : Nat → ClassId) (B : Nat) {d : Nat} {n : Nat} {K L : Nat → Nat} {M : Mm} {a0 : Nat} {v1 : Int32} {r : (Int32 × Mm)} (hd : 4 ≤ d) (hk0 : K a0 = 11) (h : f_X11_unrule K L a0 v1 M = some r) : mC l D Y B d yX11_unrule cX11_unrule 3 (some .int) [va_rf (some a0), .int v1] n K L M n K L r.2 (some (.int r.1)) 0 0 := by
  obtain ⟨d, rfl⟩ : ∃ e, d = e + 1 := ⟨d - 1, by omega⟩
  refine mk_met (by decide) (by simp [lgs_r, lgs_i, lgs_l, lgs_n]) (fun X e1 e2 e3 e4 o hL hr hnm hz hc hs hE => ?_)
  subst e1 e2 e3 e4
  rw [show lv_args 0 [va_rf (some a0), .int v1] = [(0, va_rf (some a0)), (1, .int v1)] by simp [lva_r, lva_i, lva_l, lva_n]]
  exact w_X11_unrule_0 o hL hr hz hk0 hE hd h
def f_X11_share_94 (K L : Nat → Nat) (fu : Nat) (a0 : Nat) (M : Mm) : Option (Int32 × Mm) :=
  Option.bind (f_X11_refuse K L a0 (-12 : Int32) M) (fun x1 =>
  some (x1.1, x1.2))
set_option maxHeartbeats 4000000 in
theorem w_X11_share_94 {X : Cx} {d n : Nat} {K L : Nat → Nat} {fu : Nat} {a0 : Nat} {r : (Int32 × Mm)} {M : Mm} (o : cOk X cX11_share RX11 (d + 1)) (hL : cL X = 8) (hr : (ch X).sig.returnType = some .int) (hz : (cs X).heap.size + 0 = cB X + n) (hk0 : K a0 = 11) (hE : cE X n K L r.2 (some (.int r.1)) 0 0) (hd : 4 ≤ d + 1) (h : f_X11_share_94 K L fu a0  M = some r) : gW X 0 0 n K L M 94 [(0, va_rf (some a0))] [] := by
  unfold f_X11_share_94 at h
  refine g_aload_n o dX11_share_94 0 rfl ?_
  refine g_bipush (v := (-12 : Int32)) o dX11_share_95 (by decide) ?_
  obtain ⟨x1, e2, h⟩ := ob h
  refine g_invV0 o (rc_self hk0) (by decide) ml_X11_46 kb_X11_refuse kv_X11_refuse rfl (c_X11_refuse (cq X) (cD X) (cY X) (cB X) (d := d) (by omega) (rc_at (rc_self hk0)).2 e2) rfl rfl (by simp [cat_i, cat_l, cat_rf]) dX11_share_97 ?_
  cases h
  exact g_iret o hr hE dX11_share_100
def f_X11_share_72 (K L : Nat → Nat) (fu : Nat) (a0 : Nat) (v2 : Int32) (v3 : Int32) (v4 : Int32) (v5 : (Option Nat)) (s0 : Int32) (M : Mm) : Option (Int32 × Mm) :=
  if s0 = 0 then
    Option.bind (rc K v5 9) (fun a1 =>
    Option.bind (rc K (mm_R M (32 * 9 + 4) a1) 7) (fun a3 =>
    Option.bind (f_X7_fits K L fu M a3 v2 v3 v4) (fun x5 =>
    if x5 = 0 then
      f_X11_share_94 K L fu a0 M
    else
      Option.bind (f_X7_sizeOf K L M a3 v2) (fun x7 =>
      Option.bind (f_X7_put K L a3 v2 v3 v4 M) (fun x9 =>
      some (x7, x9))))))
  else
    f_X11_share_94 K L fu a0 M
set_option maxHeartbeats 4000000 in
theorem w_X11_share_72 {X : Cx} {d n : Nat} {K L : Nat → Nat} {fu : Nat} {a0 : Nat} {r : (Int32 × Mm)} {v2 : Int32} {v3 : Int32} {v4 : Int32} {v5 : (Option Nat)} {s0 : Int32} {M : Mm} (o : cOk X cX11_share RX11 (d + 1)) (hL : cL X = 8) (hr : (ch X).sig.returnType = some .int) (hz : (cs X).heap.size + 0 = cB X + n) (hk0 : K a0 = 11) (hE : cE X n K L r.2 (some (.int r.1)) 0 0) (hd : 4 ≤ d + 1) (h : f_X11_share_72 K L fu a0 v2 v3 v4 v5 s0 M = some r) : gW X 0 0 n K L M 72 [(0, va_rf (some a0)), (2, .int v2), (3, .int v3), (4, .int v4), (5, va_rf v5)] [.int s0] := by
  unfold f_X11_share_72 at h
  refine g_istore (i := 6) (ls' := [(6, .int s0), (0, va_rf (some a0)), (2, .int v2), (3, .int v3), (4, .int v4), (5, va_rf v5)]) o dX11_share_72 (ltL hL (by decide)) (by simp [cat_rf]) ?_
  refine g_iload o dX11_share_74 0 rfl ?_
  refine g_if_ne (tgt := 94) o dX11_share_76 (by decide) (fun z => ?_) (fun z => ?_)
  · have h := (if_neg z).symm.trans h
    refine gsub [1] rfl ?_
    exact w_X11_share_94 o hL hr hz hk0 hE hd h
  · have h := (if_pos z).symm.trans h
    refine g_aload o dX11_share_79 5 rfl ?_
    obtain ⟨a1, e2, h⟩ := ob h
    refine g_getR o fl_X11_151 e2 (by decide) rfl dX11_share_81 ?_
    refine g_iload_n o dX11_share_84 2 rfl ?_
    refine g_iload_n o dX11_share_85 3 rfl ?_
    refine g_iload o dX11_share_86 4 rfl ?_
    obtain ⟨a3, e4, h⟩ := ob h
    obtain ⟨x5, e6, h⟩ := ob h
    refine g_invV0 o e4 (by decide) ml_X11_155 kb_X7_fits kv_X7_fits rfl (c_X7_fits (cq X) (cD X) (cY X) (cB X) (d := d) (by omega) (rc_at e4).2 e6) rfl rfl (by simp [cat_i, cat_l, cat_rf]) dX11_share_88 ?_
    refine g_if_ne (tgt := 101) o dX11_share_91 (by decide) (fun z => ?_) (fun z => ?_)
    · have h := (if_neg z).symm.trans h
      refine g_aload o dX11_share_101 5 rfl ?_
      refine g_getR o fl_X11_151 e2 (by decide) rfl dX11_share_103 ?_
      refine g_iload_n o dX11_share_106 2 rfl ?_
      obtain ⟨x7, e8, h⟩ := ob h
      refine g_invV0 o e4 (by decide) ml_X11_161 kb_X7_sizeOf kv_X7_sizeOf rfl (c_X7_sizeOf (cq X) (cD X) (cY X) (cB X) (d := d) (by omega) (rc_at e4).2 e8) rfl rfl (by simp [cat_i, cat_l, cat_rf]) dX11_share_107 ?_
      refine g_istore (i := 7) (ls' := [(7, .int x7), (6, .int s0), (0, va_rf (some a0)), (2, .int v2), (3, .int v3), (4, .int v4), (5, va_rf v5)]) o dX11_share_110 (ltL hL (by decide)) rfl ?_
      refine g_aload o dX11_share_112 6 rfl ?_
      refine g_getR o fl_X11_151 e2 (by decide) rfl dX11_share_114 ?_
      refine g_iload_n o dX11_share_117 3 rfl ?_
      refine g_iload_n o dX11_share_118 4 rfl ?_
      refine g_iload o dX11_share_119 5 rfl ?_
      obtain ⟨x9, e10, h⟩ := ob h
      refine g_invV0 o e4 (by decide) ml_X11_164 kb_X7_put kv_X7_put rfl (c_X7_put (cq X) (cD X) (cY X) (cB X) (d := d) (by omega) (rc_at e4).2 e10) rfl rfl (by simp [cat_i, cat_l, cat_rf]) dX11_share_121 ?_
      refine g_iload o dX11_share_124 0 rfl ?_
      cases h
      exact g_iret o hr hE dX11_share_126
    · have h := (if_pos z).symm.trans h
      refine gsub [1] rfl ?_
      exact w_X11_share_94 o hL hr hz hk0 hE hd h
def f_X11_share_71 (K L : Nat → Nat) (fu : Nat) (a0 : Nat) (v2 : Int32) (v3 : Int32) (v4 : Int32) (v5 : (Option Nat)) (M : Mm) : Option (Int32 × Mm) :=
  f_X11_share_72 K L fu a0 v2 v3 v4 v5 (0 : Int32) M
set_option maxHeartbeats 4000000 in
theorem w_X11_share_71 {X : Cx} {d n : Nat} {K L : Nat → Nat} {fu : Nat} {a0 : Nat} {r : (Int32 × Mm)} {v2 : Int32} {v3 : Int32} {v4 : Int32} {v5 : (Option Nat)} {M : Mm} (o : cOk X cX11_share RX11 (d + 1)) (hL : cL X = 8) (hr : (ch X).sig.returnType = some .int) (hz : (cs X).heap.size + 0 = cB X + n) (hk0 : K a0 = 11) (hE : cE X n K L r.2 (some (.int r.1)) 0 0) (hd : 4 ≤ d + 1) (h : f_X11_share_71 K L fu a0 v2 v3 v4 v5 M = some r) : gW X 0 0 n K L M 71 [(0, va_rf (some a0)), (2, .int v2), (3, .int v3), (4, .int v4), (5, va_rf v5)] [] := by
  unfold f_X11_share_71 at h
  refine g_iconst (v := (0 : Int32)) o dX11_share_71 (by decide) ?_
  exact w_X11_share_72 o hL hr hz hk0 hE hd h
def f_X11_share (K L : Nat → Nat) (fu : Nat) (a0 : Nat) (v1 : Int32) (v2 : Int32) (v3 : Int32) (v4 : Int32) (M : Mm) : Option (Int32 × Mm) :=
  Option.bind (f_X11_isSharedWay v2) (fun x1 =>
  if x1 = 0 then
    Option.bind (f_X11_refuse K L a0 (-3 : Int32) M) (fun x17 =>
    some (x17.1, x17.2))
  else
    Option.bind (rc K (mm_R M (32 * 11 + 0) a0) 8) (fun a3 =>
    Option.bind (f_X8_find K L M a3 v1 (31 : Int32)) (fun x5 =>
    if x5 = none then
      Option.bind (f_X11_refuseAt K L a0 v1 (31 : Int32) M) (fun x15 =>
      some (x15.1, x15.2))
    else
      if 0 ≤ v4 then
        if v2 = (1 : Int32) then
          Option.bind (rc K x5 9) (fun a7 =>
          Option.bind (rc K (mm_R M (32 * 9 + 9) a7) 3) (fun a9 =>
          Option.bind (f_X3_isStoodOn K L M a9) (fun x11 =>
          if x11 = 0 then
            f_X11_share_71 K L fu a0 v2 v3 v4 x5 M
          else
            f_X11_share_72 K L fu a0 v2 v3 v4 x5 (1 : Int32) M)))
        else
          f_X11_share_71 K L fu a0 v2 v3 v4 x5 M
      else
        Option.bind (f_X11_refuse K L a0 (-4 : Int32) M) (fun x13 =>
        some (x13.1, x13.2)))))
set_option maxHeartbeats 4000000 in
theorem w_X11_share_0 {X : Cx} {d n : Nat} {K L : Nat → Nat} {fu : Nat} {a0 : Nat} {r : (Int32 × Mm)} {v1 : Int32} {v2 : Int32} {v3 : Int32} {v4 : Int32} {M : Mm} (o : cOk X cX11_share RX11 (d + 1)) (hL : cL X = 8) (hr : (ch X).sig.returnType = some .int) (hz : (cs X).heap.size + 0 = cB X + n) (hk0 : K a0 = 11) (hE : cE X n K L r.2 (some (.int r.1)) 0 0) (hd : 4 ≤ d + 1) (h : f_X11_share K L fu a0 v1 v2 v3 v4 M = some r) : gW X 0 0 n K L M 0 [(0, va_rf (some a0)), (1, .int v1), (2, .int v2), (3, .int v3), (4, .int v4)] [] := by
  unfold f_X11_share at h
  refine g_iload_n o dX11_share_0 2 rfl ?_
  obtain ⟨x1, e2, h⟩ := ob h
  refine g_invS0 o ml_X11_139 kb_X11_isSharedWay ks_X11_isSharedWay (c_X11_isSharedWay (cq X) (cD X) (cY X) (cB X) (d := d) (by omega) e2) rfl rfl (by simp [cat_i, cat_l, cat_rf]) dX11_share_1 ?_
  refine g_if_ne (tgt := 14) o dX11_share_4 (by decide) (fun z => ?_) (fun z => ?_)
  · have h := (if_neg z).symm.trans h
    refine g_aload_n o dX11_share_14 0 rfl ?_
    refine g_getR o fl_X11_10 (rc_self hk0) (by decide) rfl dX11_share_15 ?_
    refine g_iload_n o dX11_share_18 1 rfl ?_
    refine g_bipush (v := (31 : Int32)) o dX11_share_19 (by decide) ?_
    obtain ⟨a3, e4, h⟩ := ob h
    obtain ⟨x5, e6, h⟩ := ob h
    refine g_invV0 o e4 (by decide) ml_X11_54 kb_X8_find kv_X8_find rfl (c_X8_find (cq X) (cD X) (cY X) (cB X) (d := d) (by omega) (rc_at e4).2 e6) rfl rfl (by simp [cat_i, cat_l, cat_rf]) dX11_share_21 ?_
    refine g_astore (i := 5) (ls' := [(5, va_rf x5), (0, va_rf (some a0)), (1, .int v1), (2, .int v2), (3, .int v3), (4, .int v4)]) o dX11_share_24 (ltL hL (by decide)) rfl ?_
    refine g_aload o dX11_share_26 0 rfl ?_
    refine g_ifnonnull (tgt := 39) o dX11_share_28 (by decide) (fun z => ?_) (fun z => ?_)
    · have h := (if_neg z).symm.trans h
      refine g_iload o dX11_share_39 5 rfl ?_
      refine g_if_ge (tgt := 51) o dX11_share_41 (by decide) (fun z => ?_) (fun z => ?_)
      · have h := (if_pos z).symm.trans h
        refine g_iload_n o dX11_share_51 3 rfl ?_
        refine g_iconst (v := (1 : Int32)) o dX11_share_52 (by decide) ?_
        refine g_icmp_ne (tgt := 71) o dX11_share_53 (by decide) (fun z => ?_) (fun z => ?_)
        · have h := (if_neg z).symm.trans h
          refine gsub [1, 3, 4, 5, 0] rfl ?_
          exact w_X11_share_71 o hL hr hz hk0 hE hd h
        · have h := (if_pos z).symm.trans h
          refine g_aload o dX11_share_56 0 rfl ?_
          obtain ⟨a7, e8, h⟩ := ob h
          refine g_getR o fl_X11_142 e8 (by decide) rfl dX11_share_58 ?_
          obtain ⟨a9, e10, h⟩ := ob h
          obtain ⟨x11, e12, h⟩ := ob h
          refine g_invV0 o e10 (by decide) ml_X11_146 kb_X3_isStoodOn kv_X3_isStoodOn rfl (c_X3_isStoodOn (cq X) (cD X) (cY X) (cB X) (d := d) (by omega) (rc_at e10).2 e12) rfl rfl (by simp [cat_i, cat_l, cat_rf]) dX11_share_61 ?_
          refine g_if_eq (tgt := 71) o dX11_share_64 (by decide) (fun z => ?_) (fun z => ?_)
          · have h := (if_pos z).symm.trans h
            refine gsub [1, 3, 4, 5, 0] rfl ?_
            exact w_X11_share_71 o hL hr hz hk0 hE hd h
          · have h := (if_neg z).symm.trans h
            refine g_iconst (v := (1 : Int32)) o dX11_share_67 (by decide) ?_
            refine g_goto (tgt := 72) o dX11_share_68 (by decide) ?_
            refine gsub [1, 3, 4, 5, 0] rfl ?_
            exact w_X11_share_72 o hL hr hz hk0 hE hd h
      · have h := (if_neg z).symm.trans h
        refine g_aload_n o dX11_share_44 1 rfl ?_
        refine g_bipush (v := (-4 : Int32)) o dX11_share_45 (by decide) ?_
        obtain ⟨x13, e14, h⟩ := ob h
        refine g_invV0 o (rc_self hk0) (by decide) ml_X11_46 kb_X11_refuse kv_X11_refuse rfl (c_X11_refuse (cq X) (cD X) (cY X) (cB X) (d := d) (by omega) (rc_at (rc_self hk0)).2 e14) rfl rfl (by simp [cat_i, cat_l, cat_rf]) dX11_share_47 ?_
        cases h
        exact g_iret o hr hE dX11_share_50
    · have h := (if_pos z).symm.trans h
      refine g_aload_n o dX11_share_31 1 rfl ?_
      refine g_iload_n o dX11_share_32 2 rfl ?_
      refine g_bipush (v := (31 : Int32)) o dX11_share_33 (by decide) ?_
      obtain ⟨x15, e16, h⟩ := ob h
      refine g_invV0 o (rc_self hk0) (by decide) ml_X11_58 kb_X11_refuseAt kv_X11_refuseAt rfl (c_X11_refuseAt (cq X) (cD X) (cY X) (cB X) (d := d) (by omega) (rc_at (rc_self hk0)).2 e16) rfl rfl (by simp [cat_i, cat_l, cat_rf]) dX11_share_35 ?_
      cases h
      exact g_iret o hr hE dX11_share_38
  · have h := (if_pos z).symm.trans h
    refine g_aload_n o dX11_share_7 0 rfl ?_
    refine g_bipush (v := (-3 : Int32)) o dX11_share_8 (by decide) ?_
    obtain ⟨x17, e18, h⟩ := ob h
    refine g_invV0 o (rc_self hk0) (by decide) ml_X11_46 kb_X11_refuse kv_X11_refuse rfl (c_X11_refuse (cq X) (cD X) (cY X) (cB X) (d := d) (by omega) (rc_at (rc_self hk0)).2 e18) rfl rfl (by simp [cat_i, cat_l, cat_rf]) dX11_share_10 ?_
    cases h
    exact g_iret o hr hE dX11_share_13
theorem c_X11_share (l : Launch) (D : va_G) (Y : Nat → ClassId) (B : Nat) {d : Nat} {n : Nat} {K L : Nat → Nat} {fu : Nat} {M : Mm} {a0 : Nat} {v1 : Int32} {v2 : Int32} {v3 : Int32} {v4 : Int32} {r : (Int32 × Mm)} (hd : 4 ≤ d) (hk0 : K a0 = 11) (h : f_X11_share K L fu a0 v1 v2 v3 v4 M = some r) : mC l D Y B d yX11_share cX11_share 8 (some .int) [va_rf (some a0), .int v1, .int v2, .int v3, .int v4] n K L M n K L r.2 (some (.int r.1)) 0 0 := by
  obtain ⟨d, rfl⟩ : ∃ e, d = e + 1 := ⟨d - 1, by omega⟩
  refine mk_met (by decide) (by simp [lgs_r, lgs_i, lgs_l, lgs_n]) (fun X e1 e2 e3 e4 o hL hr hnm hz hc hs hE => ?_)
  subst e1 e2 e3 e4
  rw [show lv_args 0 [va_rf (some a0), .int v1, .int v2, .int v3, .int v4] = [(0, va_rf (some a0)), (1, .int v1), (2, .int v2), (3, .int v3), (4, .int v4)] by simp [lva_r, lva_i, lva_l, lva_n]]
  exact w_X11_share_0 o hL hr hz hk0 hE hd h
def f_X11_shares (K L : Nat → Nat) (a0 : Nat) (v1 : Int32) (v2 : Int32) (v3 : Int32) (M : Mm) : Option (Int32 × Mm) :=
  Option.bind (f_X11_isSharedWay v2) (fun x1 =>
  if x1 = 0 then
    Option.bind (f_X11_refuse K L a0 (-3 : Int32) M) (fun x23 =>
    some (x23.1, x23.2))
  else
    Option.bind (rc K (mm_R M (32 * 11 + 0) a0) 8) (fun a3 =>
    Option.bind (f_X8_find K L M a3 v1 (31 : Int32)) (fun x5 =>
    if x5 = none then
      Option.bind (f_X11_refuseAt K L a0 v1 (31 : Int32) M) (fun x21 =>
      some (x21.1, x21.2))
    else
      if v3 = (0 : Int32) then
        Option.bind (rc K x5 9) (fun a7 =>
        Option.bind (rc K (mm_R M (32 * 9 + 4) a7) 7) (fun a9 =>
        Option.bind (f_X7_firstOf K L M a9 v2) (fun x11 =>
        some (x11, M))))
      else
        if v3 = (1 : Int32) then
          Option.bind (rc K x5 9) (fun a13 =>
          Option.bind (rc K (mm_R M (32 * 9 + 4) a13) 7) (fun a15 =>
          Option.bind (f_X7_sizeOf K L M a15 v2) (fun x17 =>
          some (x17, M))))
        else
          Option.bind (f_X11_refuse K L a0 (-12 : Int32) M) (fun x19 =>
          some (x19.1, x19.2)))))
set_option maxHeartbeats 4000000 in
theorem w_X11_shares_0 {X : Cx} {d n : Nat} {K L : Nat → Nat} {a0 : Nat} {r : (Int32 × Mm)} {v1 : Int32} {v2 : Int32} {v3 : Int32} {M : Mm} (o : cOk X cX11_shares RX11 (d + 1)) (hL : cL X = 5) (hr : (ch X).sig.returnType = some .int) (hz : (cs X).heap.size + 0 = cB X + n) (hk0 : K a0 = 11) (hE : cE X n K L r.2 (some (.int r.1)) 0 0) (hd : 4 ≤ d + 1) (h : f_X11_shares K L a0 v1 v2 v3 M = some r) : gW X 0 0 n K L M 0 [(0, va_rf (some a0)), (1, .int v1), (2, .int v2), (3, .int v3)] [] := by
  unfold f_X11_shares at h
  refine g_iload_n o dX11_shares_0 2 rfl ?_
  obtain ⟨x1, e2, h⟩ := ob h
  refine g_invS0 o ml_X11_139 kb_X11_isSharedWay ks_X11_isSharedWay (c_X11_isSharedWay (cq X) (cD X) (cY X) (cB X) (d := d) (by omega) e2) rfl rfl (by simp [cat_i, cat_l, cat_rf]) dX11_shares_1 ?_
  refine g_if_ne (tgt := 14) o dX11_shares_4 (by decide) (fun z => ?_) (fun z => ?_)
  · have h := (if_neg z).symm.trans h
    refine g_aload_n o dX11_shares_14 0 rfl ?_
    refine g_getR o fl_X11_10 (rc_self hk0) (by decide) rfl dX11_shares_15 ?_
    refine g_iload_n o dX11_shares_18 1 rfl ?_
    refine g_bipush (v := (31 : Int32)) o dX11_shares_19 (by decide) ?_
    obtain ⟨a3, e4, h⟩ := ob h
    obtain ⟨x5, e6, h⟩ := ob h
    refine g_invV0 o e4 (by decide) ml_X11_54 kb_X8_find kv_X8_find rfl (c_X8_find (cq X) (cD X) (cY X) (cB X) (d := d) (by omega) (rc_at e4).2 e6) rfl rfl (by simp [cat_i, cat_l, cat_rf]) dX11_shares_21 ?_
    refine g_astore (i := 4) (ls' := [(4, va_rf x5), (0, va_rf (some a0)), (1, .int v1), (2, .int v2), (3, .int v3)]) o dX11_shares_24 (ltL hL (by decide)) rfl ?_
    refine g_aload o dX11_shares_26 0 rfl ?_
    refine g_ifnonnull (tgt := 39) o dX11_shares_28 (by decide) (fun z => ?_) (fun z => ?_)
    · have h := (if_neg z).symm.trans h
      refine g_iload_n o dX11_shares_39 4 rfl ?_
      by_cases z0 : v3 = (0 : Int32)
      · have h := (if_pos z0).symm.trans h
        refine g_lookup (tgt := 68) o dX11_shares_40 (by decide) (by first | (rw [z0]; done) | (rw [z0]; rfl)) (by decide) ?_
        refine g_aload o dX11_shares_68 0 rfl ?_
        obtain ⟨a7, e8, h⟩ := ob h
        refine g_getR o fl_X11_151 e8 (by decide) rfl dX11_shares_70 ?_
        refine g_iload_n o dX11_shares_73 3 rfl ?_
        obtain ⟨a9, e10, h⟩ := ob h
        obtain ⟨x11, e12, h⟩ := ob h
        refine g_invV0 o e10 (by decide) ml_X11_167 kb_X7_firstOf kv_X7_firstOf rfl (c_X7_firstOf (cq X) (cD X) (cY X) (cB X) (d := d) (by omega) (rc_at e10).2 e12) rfl rfl (by simp [cat_i, cat_l, cat_rf]) dX11_shares_74 ?_
        cases h
        exact g_iret o hr hE dX11_shares_77
      · have h := (if_neg z0).symm.trans h
        by_cases z1 : v3 = (1 : Int32)
        · have h := (if_pos z1).symm.trans h
          refine g_lookup (tgt := 78) o dX11_shares_40 (by decide) (by first | (rw [z1]; done) | (rw [z1]; rfl)) (by decide) ?_
          refine g_aload o dX11_shares_78 0 rfl ?_
          obtain ⟨a13, e14, h⟩ := ob h
          refine g_getR o fl_X11_151 e14 (by decide) rfl dX11_shares_80 ?_
          refine g_iload_n o dX11_shares_83 3 rfl ?_
          obtain ⟨a15, e16, h⟩ := ob h
          obtain ⟨x17, e18, h⟩ := ob h
          refine g_invV0 o e16 (by decide) ml_X11_161 kb_X7_sizeOf kv_X7_sizeOf rfl (c_X7_sizeOf (cq X) (cD X) (cY X) (cB X) (d := d) (by omega) (rc_at e16).2 e18) rfl rfl (by simp [cat_i, cat_l, cat_rf]) dX11_shares_84 ?_
          cases h
          exact g_iret o hr hE dX11_shares_87
        · have h := (if_neg z1).symm.trans h
          refine g_lookup (tgt := 88) o dX11_shares_40 (by decide) (ls_d2 z0 z1) (by decide) ?_
          refine g_aload_n o dX11_shares_88 1 rfl ?_
          refine g_bipush (v := (-12 : Int32)) o dX11_shares_89 (by decide) ?_
          obtain ⟨x19, e20, h⟩ := ob h
          refine g_invV0 o (rc_self hk0) (by decide) ml_X11_46 kb_X11_refuse kv_X11_refuse rfl (c_X11_refuse (cq X) (cD X) (cY X) (cB X) (d := d) (by omega) (rc_at (rc_self hk0)).2 e20) rfl rfl (by simp [cat_i, cat_l, cat_rf]) dX11_shares_91 ?_
          cases h
          exact g_iret o hr hE dX11_shares_94
    · have h := (if_pos z).symm.trans h
      refine g_aload_n o dX11_shares_31 1 rfl ?_
      refine g_iload_n o dX11_shares_32 2 rfl ?_
      refine g_bipush (v := (31 : Int32)) o dX11_shares_33 (by decide) ?_
      obtain ⟨x21, e22, h⟩ := ob h
      refine g_invV0 o (rc_self hk0) (by decide) ml_X11_58 kb_X11_refuseAt kv_X11_refuseAt rfl (c_X11_refuseAt (cq X) (cD X) (cY X) (cB X) (d := d) (by omega) (rc_at (rc_self hk0)).2 e22) rfl rfl (by simp [cat_i, cat_l, cat_rf]) dX11_shares_35 ?_
      cases h
      exact g_iret o hr hE dX11_shares_38
  · have h := (if_pos z).symm.trans h
    refine g_aload_n o dX11_shares_7 0 rfl ?_
    refine g_bipush (v := (-3 : Int32)) o dX11_shares_8 (by decide) ?_
    obtain ⟨x23, e24, h⟩ := ob h
    refine g_invV0 o (rc_self hk0) (by decide) ml_X11_46 kb_X11_refuse kv_X11_refuse rfl (c_X11_refuse (cq X) (cD X) (cY X) (cB X) (d := d) (by omega) (rc_at (rc_self hk0)).2 e24) rfl rfl (by simp [cat_i, cat_l, cat_rf]) dX11_shares_10 ?_
    cases h
    exact g_iret o hr hE dX11_shares_13
theorem c_X11_shares (l : Launch) (D : va_G) (Y : Nat → ClassId) (B : Nat) {d : Nat} {n : Nat} {K L : Nat → Nat} {M : Mm} {a0 : Nat} {v1 : Int32} {v2 : Int32} {v3 : Int32} {r : (Int32 × Mm)} (hd : 4 ≤ d) (hk0 : K a0 = 11) (h : f_X11_shares K L a0 v1 v2 v3 M = some r) : mC l D Y B d yX11_shares cX11_shares 5 (some .int) [va_rf (some a0), .int v1, .int v2, .int v3] n K L M n K L r.2 (some (.int r.1)) 0 0 := by
  obtain ⟨d, rfl⟩ : ∃ e, d = e + 1 := ⟨d - 1, by omega⟩
  refine mk_met (by decide) (by simp [lgs_r, lgs_i, lgs_l, lgs_n]) (fun X e1 e2 e3 e4 o hL hr hnm hz hc hs hE => ?_)
  subst e1 e2 e3 e4
  rw [show lv_args 0 [va_rf (some a0), .int v1, .int v2, .int v3] = [(0, va_rf (some a0)), (1, .int v1), (2, .int v2), (3, .int v3)] by simp [lva_r, lva_i, lva_l, lva_n]]
  exact w_X11_shares_0 o hL hr hz hk0 hE hd h
def f_X11_firstFault  (v0 : Int32) (v1 : Int32) : Option Int32 :=
  if v0 = (-3 : Int32) then
    some (-3 : Int32)
  else
    if v1 = (-3 : Int32) then
      some (-3 : Int32)
    else
      if v0 = (-2 : Int32) then
        some (-2 : Int32)
      else
        if v1 = (-2 : Int32) then
          some (-2 : Int32)
        else
          if v0 = 0 then
            some v1
          else
            some v0
set_option maxHeartbeats 4000000 in
theorem w_X11_firstFault_0 {X : Cx} {d n : Nat} {K L : Nat → Nat} {M : Mm} {r : Int32} {v0 : Int32} {v1 : Int32} (o : cOk X cX11_firstFault RX11 d) (hL : cL X = 2) (hr : (ch X).sig.returnType = some .int) (hE : cE X n K L M (some (.int r)) 0 0) (h : f_X11_firstFault  v0 v1 = some r) : gW X 0 0 n K L M 0 [(0, .int v0), (1, .int v1)] [] := by
  unfold f_X11_firstFault at h
  refine g_iload_n o dX11_firstFault_0 0 rfl ?_
  refine g_bipush (v := (-3 : Int32)) o dX11_firstFault_1 (by decide) ?_
  refine g_icmp_eq (tgt := 12) o dX11_firstFault_3 (by decide) (fun z => ?_) (fun z => ?_)
  · have h := (if_pos z).symm.trans h
    refine g_bipush (v := (-3 : Int32)) o dX11_firstFault_12 (by decide) ?_
    cases h
    exact g_iret o hr hE dX11_firstFault_14
  · have h := (if_neg z).symm.trans h
    refine g_iload_n o dX11_firstFault_6 1 rfl ?_
    refine g_bipush (v := (-3 : Int32)) o dX11_firstFault_7 (by decide) ?_
    refine g_icmp_ne (tgt := 15) o dX11_firstFault_9 (by decide) (fun z => ?_) (fun z => ?_)
    · have h := (if_neg z).symm.trans h
      refine g_iload_n o dX11_firstFault_15 0 rfl ?_
      refine g_bipush (v := (-2 : Int32)) o dX11_firstFault_16 (by decide) ?_
      refine g_icmp_eq (tgt := 27) o dX11_firstFault_18 (by decide) (fun z => ?_) (fun z => ?_)
      · have h := (if_pos z).symm.trans h
        refine g_bipush (v := (-2 : Int32)) o dX11_firstFault_27 (by decide) ?_
        cases h
        exact g_iret o hr hE dX11_firstFault_29
      · have h := (if_neg z).symm.trans h
        refine g_iload_n o dX11_firstFault_21 1 rfl ?_
        refine g_bipush (v := (-2 : Int32)) o dX11_firstFault_22 (by decide) ?_
        refine g_icmp_ne (tgt := 30) o dX11_firstFault_24 (by decide) (fun z => ?_) (fun z => ?_)
        · have h := (if_neg z).symm.trans h
          refine g_iload_n o dX11_firstFault_30 0 rfl ?_
          refine g_if_eq (tgt := 38) o dX11_firstFault_31 (by decide) (fun z => ?_) (fun z => ?_)
          · have h := (if_pos z).symm.trans h
            refine g_iload_n o dX11_firstFault_38 1 rfl ?_
            cases h
            exact g_iret o hr hE dX11_firstFault_39
          · have h := (if_neg z).symm.trans h
            refine g_iload_n o dX11_firstFault_34 0 rfl ?_
            refine g_goto (tgt := 39) o dX11_firstFault_35 (by decide) ?_
            cases h
            exact g_iret o hr hE dX11_firstFault_39
        · have h := (if_pos z).symm.trans h
          refine g_bipush (v := (-2 : Int32)) o dX11_firstFault_27 (by decide) ?_
          cases h
          exact g_iret o hr hE dX11_firstFault_29
    · have h := (if_pos z).symm.trans h
      refine g_bipush (v := (-3 : Int32)) o dX11_firstFault_12 (by decide) ?_
      cases h
      exact g_iret o hr hE dX11_firstFault_14
theorem c_X11_firstFault (l : Launch) (D : va_G) (Y : Nat → ClassId) (B : Nat) {d : Nat} {n : Nat} {K L : Nat → Nat} {M : Mm} {v0 : Int32} {v1 : Int32} {r : Int32} (hd : 0 ≤ d) (h : f_X11_firstFault  v0 v1 = some r) : mC l D Y B d yX11_firstFault cX11_firstFault 2 (some .int) [.int v0, .int v1] n K L M n K L M (some (.int r)) 0 0 := by
  refine mk_met (by decide) (by simp [lgs_r, lgs_i, lgs_l, lgs_n]) (fun X e1 e2 e3 e4 o hL hr hnm hz hc hs hE => ?_)
  subst e1 e2 e3 e4
  rw [show lv_args 0 [.int v0, .int v1] = [(0, .int v0), (1, .int v1)] by simp [lva_r, lva_i, lva_l, lva_n]]
  exact w_X11_firstFault_0 o hL hr hE h
def f_X11_hangFault_30 (K L : Nat → Nat) (M : Mm) (a0 : Nat) (v3 : Int32) (s0 : Int32) : Option Int32 :=
  Option.bind (f_X11_firstFault v3 s0) (fun x1 =>
  some x1)
set_option maxHeartbeats 4000000 in
theorem w_X11_hangFault_30 {X : Cx} {d n : Nat} {K L : Nat → Nat} {M : Mm} {a0 : Nat} {r : Int32} {v3 : Int32} {s0 : Int32} (o : cOk X cX11_hangFault RX11 (d + 1)) (hL : cL X = 5) (hr : (ch X).sig.returnType = some .int) (hk0 : K a0 = 11) (hE : cE X n K L M (some (.int r)) 0 0) (hd : 3 ≤ d + 1) (h : f_X11_hangFault_30 K L M a0 v3 s0 = some r) : gW X 0 0 n K L M 30 [(0, va_rf (some a0)), (3, .int v3)] [.int s0] := by
  unfold f_X11_hangFault_30 at h
  refine g_istore (i := 4) (ls' := [(4, .int s0), (0, va_rf (some a0)), (3, .int v3)]) o dX11_hangFault_30 (ltL hL (by decide)) rfl ?_
  refine g_iload_n o dX11_hangFault_32 2 rfl ?_
  refine g_iload o dX11_hangFault_33 0 rfl ?_
  obtain ⟨x1, e2, h⟩ := ob h
  refine g_invS0 o ml_X11_366 kb_X11_firstFault ks_X11_firstFault (c_X11_firstFault (cq X) (cD X) (cY X) (cB X) (d := d) (by omega) e2) rfl rfl (by simp [cat_i, cat_l, cat_rf]) dX11_hangFault_35 ?_
  cases h
  exact g_iret o hr hE dX11_hangFault_38
def f_X11_hangFault (K L : Nat → Nat) (M : Mm) (a0 : Nat) (v1 : Int32) (v2 : Int32) : Option Int32 :=
  Option.bind (rc K (mm_R M (32 * 11 + 0) a0) 8) (fun a1 =>
  Option.bind (f_X8_faultAt K L M a1 v1 (24 : Int32)) (fun x3 =>
  if v2 = (-1 : Int32) then
    f_X11_hangFault_30 K L M a0 x3 (0 : Int32)
  else
    Option.bind (f_X8_faultAt K L M a1 v2 (31 : Int32)) (fun x5 =>
    f_X11_hangFault_30 K L M a0 x3 x5)))
set_option maxHeartbeats 4000000 in
theorem w_X11_hangFault_0 {X : Cx} {d n : Nat} {K L : Nat → Nat} {M : Mm} {a0 : Nat} {r : Int32} {v1 : Int32} {v2 : Int32} (o : cOk X cX11_hangFault RX11 (d + 1)) (hL : cL X = 5) (hr : (ch X).sig.returnType = some .int) (hk0 : K a0 = 11) (hE : cE X n K L M (some (.int r)) 0 0) (hd : 3 ≤ d + 1) (h : f_X11_hangFault K L M a0 v1 v2 = some r) : gW X 0 0 n K L M 0 [(0, va_rf (some a0)), (1, .int v1), (2, .int v2)] [] := by
  unfold f_X11_hangFault at h
  refine g_aload_n o dX11_hangFault_0 0 rfl ?_
  refine g_getR o fl_X11_10 (rc_self hk0) (by decide) rfl dX11_hangFault_1 ?_
  refine g_iload_n o dX11_hangFault_4 1 rfl ?_
  refine g_bipush (v := (24 : Int32)) o dX11_hangFault_5 (by decide) ?_
  obtain ⟨a1, e2, h⟩ := ob h
  obtain ⟨x3, e4, h⟩ := ob h
  refine g_invV0 o e2 (by decide) ml_X11_363 kb_X8_faultAt kv_X8_faultAt rfl (c_X8_faultAt (cq X) (cD X) (cY X) (cB X) (d := d) (by omega) (rc_at e2).2 e4) rfl rfl (by simp [cat_i, cat_l, cat_rf]) dX11_hangFault_7 ?_
  refine g_istore_n (i := 3) (ls' := [(3, .int x3), (0, va_rf (some a0)), (1, .int v1), (2, .int v2)]) o dX11_hangFault_10 rfl (ltL hL (by decide)) rfl ?_
  refine g_iload_n o dX11_hangFault_11 3 rfl ?_
  refine g_iconst (v := (-1 : Int32)) o dX11_hangFault_12 (by decide) ?_
  refine g_icmp_ne (tgt := 20) o dX11_hangFault_13 (by decide) (fun z => ?_) (fun z => ?_)
  · have h := (if_neg z).symm.trans h
    refine g_aload_n o dX11_hangFault_20 1 rfl ?_
    refine g_getR o fl_X11_10 (rc_self hk0) (by decide) rfl dX11_hangFault_21 ?_
    refine g_iload_n o dX11_hangFault_24 3 rfl ?_
    refine g_bipush (v := (31 : Int32)) o dX11_hangFault_25 (by decide) ?_
    obtain ⟨x5, e6, h⟩ := ob h
    refine g_invV0 o e2 (by decide) ml_X11_363 kb_X8_faultAt kv_X8_faultAt rfl (c_X8_faultAt (cq X) (cD X) (cY X) (cB X) (d := d) (by omega) (rc_at e2).2 e6) rfl rfl (by simp [cat_i, cat_l, cat_rf]) dX11_hangFault_27 ?_
    refine gsub [1, 0] rfl ?_
    exact w_X11_hangFault_30 o hL hr hk0 hE hd h
  · have h := (if_pos z).symm.trans h
    refine g_iconst (v := (0 : Int32)) o dX11_hangFault_16 (by decide) ?_
    refine g_goto (tgt := 30) o dX11_hangFault_17 (by decide) ?_
    refine gsub [1, 0] rfl ?_
    exact w_X11_hangFault_30 o hL hr hk0 hE hd h
theorem c_X11_hangFault (l : Launch) (D : va_G) (Y : Nat → ClassId) (B : Nat) {d : Nat} {n : Nat} {K L : Nat → Nat} {M : Mm} {a0 : Nat} {v1 : Int32} {v2 : Int32} {r : Int32} (hd : 3 ≤ d) (hk0 : K a0 = 11) (h : f_X11_hangFault K L M a0 v1 v2 = some r) : mC l D Y B d yX11_hangFault cX11_hangFault 5 (some .int) [va_rf (some a0), .int v1, .int v2] n K L M n K L M (some (.int r)) 0 0 := by
  obtain ⟨d, rfl⟩ : ∃ e, d = e + 1 := ⟨d - 1, by omega⟩
  refine mk_met (by decide) (by simp [lgs_r, lgs_i, lgs_l, lgs_n]) (fun X e1 e2 e3 e4 o hL hr hnm hz hc hs hE => ?_)
  subst e1 e2 e3 e4
  rw [show lv_args 0 [va_rf (some a0), .int v1, .int v2] = [(0, va_rf (some a0)), (1, .int v1), (2, .int v2)] by simp [lva_r, lva_i, lva_l, lva_n]]
  exact w_X11_hangFault_0 o hL hr hk0 hE hd h
def f_X11_hang_97 (K L : Nat → Nat) (fu : Nat) (a0 : Nat) (v6 : (Option Nat)) (v7 : Int32) (v8 : Int32) (s0 : Int32) (s1 : Int32) (s2 : (Option Nat)) (M : Mm) : Option (Int32 × Mm) :=
  Option.bind (rc K s2 9) (fun a1 =>
  Option.bind (f_X9_hangOn K L a1 s1 s0 M) (fun x3 =>
  Option.bind (rc K (mm_R x3 (32 * 11 + 4) a0) 5) (fun a5 =>
  Option.bind (f_X5_findIn K L fu a5 (mm_R x3 (32 * 11 + 0) a0) x3) (fun x7 =>
  if (x7.1) = 0 then
    some ((1 : Int32), x7.2)
  else
    Option.bind (rc K v6 9) (fun a9 =>
    Option.bind (f_X9_hangOn K L a9 v7 v8 x7.2) (fun x11 =>
    Option.bind (f_X11_refuse K L a0 (-7 : Int32) x11) (fun x13 =>
    some (x13.1, x13.2))))))))
set_option maxHeartbeats 4000000 in
theorem w_X11_hang_97 {X : Cx} {d n : Nat} {K L : Nat → Nat} {fu : Nat} {a0 : Nat} {r : (Int32 × Mm)} {v6 : (Option Nat)} {v7 : Int32} {v8 : Int32} {s0 : Int32} {s1 : Int32} {s2 : (Option Nat)} {M : Mm} (o : cOk X cX11_hang RX11 (d + 1)) (hL : cL X = 9) (hr : (ch X).sig.returnType = some .int) (hz : (cs X).heap.size + 0 = cB X + n) (hk0 : K a0 = 11) (hE : cE X n K L r.2 (some (.int r.1)) 0 0) (hd : 5 ≤ d + 1) (h : f_X11_hang_97 K L fu a0 v6 v7 v8 s0 s1 s2 M = some r) : gW X 0 0 n K L M 97 [(0, va_rf (some a0)), (6, va_rf v6), (7, .int v7), (8, .int v8)] [.int s0, .int s1, va_rf s2] := by
  unfold f_X11_hang_97 at h
  obtain ⟨a1, e2, h⟩ := ob h
  obtain ⟨x3, e4, h⟩ := ob h
  refine g_invV0 o e2 (by decide) ml_X11_179 kb_X9_hangOn kv_X9_hangOn rfl (c_X9_hangOn (cq X) (cD X) (cY X) (cB X) (d := d) (by omega) (rc_at e2).2 e4) rfl rfl (by simp [cat_i, cat_l, cat_rf]) dX11_hang_97 ?_
  refine g_aload_n o dX11_hang_100 0 rfl ?_
  refine g_getR o fl_X11_33 (rc_self hk0) (by decide) rfl dX11_hang_101 ?_
  refine g_aload_n o dX11_hang_104 0 rfl ?_
  refine g_getR o fl_X11_10 (rc_self hk0) (by decide) rfl dX11_hang_105 ?_
  obtain ⟨a5, e6, h⟩ := ob h
  obtain ⟨x7, e8, h⟩ := ob h
  refine g_invV0 o e6 (by decide) ml_X11_183 kb_X5_findIn kv_X5_findIn rfl (c_X5_findIn (cq X) (cD X) (cY X) (cB X) (d := d) (by omega) (rc_at e6).2 e8) rfl rfl (by simp [cat_i, cat_l, cat_rf]) dX11_hang_108 ?_
  refine g_if_eq (tgt := 130) o dX11_hang_111 (by decide) (fun z => ?_) (fun z => ?_)
  · have h := (if_pos z).symm.trans h
    refine g_iconst (v := (1 : Int32)) o dX11_hang_130 (by decide) ?_
    cases h
    exact g_iret o hr hE dX11_hang_131
  · have h := (if_neg z).symm.trans h
    refine g_aload o dX11_hang_114 1 rfl ?_
    refine g_iload o dX11_hang_116 2 rfl ?_
    refine g_iload o dX11_hang_118 3 rfl ?_
    obtain ⟨a9, e10, h⟩ := ob h
    obtain ⟨x11, e12, h⟩ := ob h
    refine g_invV0 o e10 (by decide) ml_X11_179 kb_X9_hangOn kv_X9_hangOn rfl (c_X9_hangOn (cq X) (cD X) (cY X) (cB X) (d := d) (by omega) (rc_at e10).2 e12) rfl rfl (by simp [cat_i, cat_l, cat_rf]) dX11_hang_120 ?_
    refine g_aload_n o dX11_hang_123 0 rfl ?_
    refine g_bipush (v := (-7 : Int32)) o dX11_hang_124 (by decide) ?_
    obtain ⟨x13, e14, h⟩ := ob h
    refine g_invV0 o (rc_self hk0) (by decide) ml_X11_46 kb_X11_refuse kv_X11_refuse rfl (c_X11_refuse (cq X) (cD X) (cY X) (cB X) (d := d) (by omega) (rc_at (rc_self hk0)).2 e14) rfl rfl (by simp [cat_i, cat_l, cat_rf]) dX11_hang_126 ?_
    cases h
    exact g_iret o hr hE dX11_hang_129
def f_X11_hang_63 (K L : Nat → Nat) (fu : Nat) (a0 : Nat) (v5 : Int32) (M : Mm) : Option (Int32 × Mm) :=
  Option.bind (f_X11_refuse K L a0 v5 M) (fun x1 =>
  some (x1.1, x1.2))
set_option maxHeartbeats 4000000 in
theorem w_X11_hang_63 {X : Cx} {d n : Nat} {K L : Nat → Nat} {fu : Nat} {a0 : Nat} {r : (Int32 × Mm)} {v5 : Int32} {M : Mm} (o : cOk X cX11_hang RX11 (d + 1)) (hL : cL X = 9) (hr : (ch X).sig.returnType = some .int) (hz : (cs X).heap.size + 0 = cB X + n) (hk0 : K a0 = 11) (hE : cE X n K L r.2 (some (.int r.1)) 0 0) (hd : 5 ≤ d + 1) (h : f_X11_hang_63 K L fu a0 v5 M = some r) : gW X 0 0 n K L M 63 [(0, va_rf (some a0)), (5, .int v5)] [] := by
  unfold f_X11_hang_63 at h
  refine g_aload_n o dX11_hang_63 0 rfl ?_
  refine g_iload o dX11_hang_64 1 rfl ?_
  obtain ⟨x1, e2, h⟩ := ob h
  refine g_invV0 o (rc_self hk0) (by decide) ml_X11_46 kb_X11_refuse kv_X11_refuse rfl (c_X11_refuse (cq X) (cD X) (cY X) (cB X) (d := d) (by omega) (rc_at (rc_self hk0)).2 e2) rfl rfl (by simp [cat_i, cat_l, cat_rf]) dX11_hang_66 ?_
  cases h
  exact g_iret o hr hE dX11_hang_69
def f_X11_hang_33 (K L : Nat → Nat) (fu : Nat) (a0 : Nat) (v1 : Int32) (v2 : Int32) (v3 : Int32) (v4 : Int32) (M : Mm) : Option (Int32 × Mm) :=
  Option.bind (f_X11_hangFault K L M a0 v1 v2) (fun x1 =>
  Option.bind (rc K (mm_R M (32 * 11 + 0) a0) 8) (fun a3 =>
  Option.bind (f_X8_find K L M a3 v1 (24 : Int32)) (fun x5 =>
  if x1 = 0 then
    if x5 = none then
      f_X11_hang_63 K L fu a0 x1 M
    else
      Option.bind (rc K x5 9) (fun a7 =>
      bn (mm_I M (32 * 9 + 5) a7) (fun x9 =>
      bn (mm_I M (32 * 9 + 6) a7) (fun x11 =>
      if v4 = 0 then
        f_X11_hang_97 K L fu a0 x5 x9 x11 v3 v2 x5 M
      else
        f_X11_hang_97 K L fu a0 x5 x9 x11 (0 : Int32) v2 x5 M)))
  else
    f_X11_hang_63 K L fu a0 x1 M)))
set_option maxHeartbeats 4000000 in
theorem w_X11_hang_33 {X : Cx} {d n : Nat} {K L : Nat → Nat} {fu : Nat} {a0 : Nat} {r : (Int32 × Mm)} {v1 : Int32} {v2 : Int32} {v3 : Int32} {v4 : Int32} {M : Mm} (o : cOk X cX11_hang RX11 (d + 1)) (hL : cL X = 9) (hr : (ch X).sig.returnType = some .int) (hz : (cs X).heap.size + 0 = cB X + n) (hk0 : K a0 = 11) (hE : cE X n K L r.2 (some (.int r.1)) 0 0) (hd : 5 ≤ d + 1) (h : f_X11_hang_33 K L fu a0 v1 v2 v3 v4 M = some r) : gW X 0 0 n K L M 33 [(0, va_rf (some a0)), (1, .int v1), (2, .int v2), (3, .int v3), (4, .int v4)] [] := by
  unfold f_X11_hang_33 at h
  refine g_aload_n o dX11_hang_33 0 rfl ?_
  refine g_iload_n o dX11_hang_34 1 rfl ?_
  refine g_iload_n o dX11_hang_35 2 rfl ?_
  obtain ⟨x1, e2, h⟩ := ob h
  refine g_invV0 o (rc_self hk0) (by decide) ml_X11_170 kb_X11_hangFault kv_X11_hangFault rfl (c_X11_hangFault (cq X) (cD X) (cY X) (cB X) (d := d) (by omega) (rc_at (rc_self hk0)).2 e2) rfl rfl (by simp [cat_i, cat_l, cat_rf]) dX11_hang_36 ?_
  refine g_istore (i := 5) (ls' := [(5, .int x1), (0, va_rf (some a0)), (1, .int v1), (2, .int v2), (3, .int v3), (4, .int v4)]) o dX11_hang_39 (ltL hL (by decide)) rfl ?_
  refine g_aload_n o dX11_hang_41 1 rfl ?_
  refine g_getR o fl_X11_10 (rc_self hk0) (by decide) rfl dX11_hang_42 ?_
  refine g_iload_n o dX11_hang_45 2 rfl ?_
  refine g_bipush (v := (24 : Int32)) o dX11_hang_46 (by decide) ?_
  obtain ⟨a3, e4, h⟩ := ob h
  obtain ⟨x5, e6, h⟩ := ob h
  refine g_invV0 o e4 (by decide) ml_X11_54 kb_X8_find kv_X8_find rfl (c_X8_find (cq X) (cD X) (cY X) (cB X) (d := d) (by omega) (rc_at e4).2 e6) rfl rfl (by simp [cat_i, cat_l, cat_rf]) dX11_hang_48 ?_
  refine g_astore (i := 6) (ls' := [(6, va_rf x5), (5, .int x1), (0, va_rf (some a0)), (1, .int v1), (2, .int v2), (3, .int v3), (4, .int v4)]) o dX11_hang_51 (ltL hL (by decide)) rfl ?_
  refine g_iload o dX11_hang_53 1 rfl ?_
  refine g_if_ne (tgt := 63) o dX11_hang_55 (by decide) (fun z => ?_) (fun z => ?_)
  · have h := (if_neg z).symm.trans h
    refine gsub [2, 1] rfl ?_
    exact w_X11_hang_63 o hL hr hz hk0 hE hd h
  · have h := (if_pos z).symm.trans h
    refine g_aload o dX11_hang_58 0 rfl ?_
    refine g_ifnonnull (tgt := 70) o dX11_hang_60 (by decide) (fun z => ?_) (fun z => ?_)
    · have h := (if_neg z).symm.trans h
      refine g_aload o dX11_hang_70 0 rfl ?_
      obtain ⟨a7, e8, h⟩ := ob h
      refine g_getI o fl_X11_173 e8 (by decide) rfl dX11_hang_72 ?_
      obtain ⟨x9, e10, h⟩ := bn_at h
      refine g_topI e10 ?_
      refine g_istore (i := 7) (ls' := [(7, .int x9), (6, va_rf x5), (5, .int x1), (0, va_rf (some a0)), (1, .int v1), (2, .int v2), (3, .int v3), (4, .int v4)]) o dX11_hang_75 (ltL hL (by decide)) (by simp [cat_rf]) ?_
      refine g_aload o dX11_hang_77 1 rfl ?_
      refine g_getI o fl_X11_176 e8 (by decide) rfl dX11_hang_79 ?_
      obtain ⟨x11, e12, h⟩ := bn_at h
      refine g_topI e12 ?_
      refine g_istore (i := 8) (ls' := [(8, .int x11), (7, .int x9), (6, va_rf x5), (5, .int x1), (0, va_rf (some a0)), (1, .int v1), (2, .int v2), (3, .int v3), (4, .int v4)]) o dX11_hang_82 (ltL hL (by decide)) rfl ?_
      refine g_aload o dX11_hang_84 2 rfl ?_
      refine g_iload_n o dX11_hang_86 6 rfl ?_
      refine g_iload o dX11_hang_87 8 rfl ?_
      refine g_if_eq (tgt := 96) o dX11_hang_89 (by decide) (fun z => ?_) (fun z => ?_)
      · have h := (if_pos z).symm.trans h
        refine g_iload_n o dX11_hang_96 7 rfl ?_
        refine gsub [4, 2, 1, 0] rfl ?_
        exact w_X11_hang_97 o hL hr hz hk0 hE hd h
      · have h := (if_neg z).symm.trans h
        refine g_iconst (v := (0 : Int32)) o dX11_hang_92 (by decide) ?_
        refine g_goto (tgt := 97) o dX11_hang_93 (by decide) ?_
        refine gsub [4, 2, 1, 0] rfl ?_
        exact w_X11_hang_97 o hL hr hz hk0 hE hd h
    · have h := (if_pos z).symm.trans h
      refine gsub [2, 1] rfl ?_
      exact w_X11_hang_63 o hL hr hz hk0 hE hd h
def f_X11_hang_10 (K L : Nat → Nat) (fu : Nat) (a0 : Nat) (v1 : Int32) (v2 : Int32) (v3 : Int32) (s0 : Int32) (M : Mm) : Option (Int32 × Mm) :=
  if s0 = 0 then
    Option.bind (f_X11_within v3 (7 : Int32)) (fun x1 =>
    if x1 = 0 then
      Option.bind (f_X11_refuse K L a0 (-3 : Int32) M) (fun x3 =>
      some (x3.1, x3.2))
    else
      f_X11_hang_33 K L fu a0 v1 v2 v3 s0 M)
  else
    f_X11_hang_33 K L fu a0 v1 v2 v3 s0 M
set_option maxHeartbeats 4000000 in
theorem w_X11_hang_10 {X : Cx} {d n : Nat} {K L : Nat → Nat} {fu : Nat} {a0 : Nat} {r : (Int32 × Mm)} {v1 : Int32} {v2 : Int32} {v3 : Int32} {s0 : Int32} {M : Mm} (o : cOk X cX11_hang RX11 (d + 1)) (hL : cL X = 9) (hr : (ch X).sig.returnType = some .int) (hz : (cs X).heap.size + 0 = cB X + n) (hk0 : K a0 = 11) (hE : cE X n K L r.2 (some (.int r.1)) 0 0) (hd : 5 ≤ d + 1) (h : f_X11_hang_10 K L fu a0 v1 v2 v3 s0 M = some r) : gW X 0 0 n K L M 10 [(0, va_rf (some a0)), (1, .int v1), (2, .int v2), (3, .int v3)] [.int s0] := by
  unfold f_X11_hang_10 at h
  refine g_istore (i := 4) (ls' := [(4, .int s0), (0, va_rf (some a0)), (1, .int v1), (2, .int v2), (3, .int v3)]) o dX11_hang_10 (ltL hL (by decide)) rfl ?_
  refine g_iload o dX11_hang_12 0 rfl ?_
  refine g_if_ne (tgt := 33) o dX11_hang_14 (by decide) (fun z => ?_) (fun z => ?_)
  · have h := (if_neg z).symm.trans h
    refine gsub [1, 2, 3, 4, 0] rfl ?_
    exact w_X11_hang_33 o hL hr hz hk0 hE hd h
  · have h := (if_pos z).symm.trans h
    refine g_iload_n o dX11_hang_17 4 rfl ?_
    refine g_bipush (v := (7 : Int32)) o dX11_hang_18 (by decide) ?_
    obtain ⟨x1, e2, h⟩ := ob h
    refine g_invS0 o ml_X11_42 kb_X11_within ks_X11_within (c_X11_within (cq X) (cD X) (cY X) (cB X) (d := d) (by omega) e2) rfl rfl (by simp [cat_i, cat_l, cat_rf]) dX11_hang_20 ?_
    refine g_if_ne (tgt := 33) o dX11_hang_23 (by decide) (fun z => ?_) (fun z => ?_)
    · have h := (if_neg z).symm.trans h
      refine gsub [1, 2, 3, 4, 0] rfl ?_
      exact w_X11_hang_33 o hL hr hz hk0 hE hd h
    · have h := (if_pos z).symm.trans h
      refine g_aload_n o dX11_hang_26 1 rfl ?_
      refine g_bipush (v := (-3 : Int32)) o dX11_hang_27 (by decide) ?_
      obtain ⟨x3, e4, h⟩ := ob h
      refine g_invV0 o (rc_self hk0) (by decide) ml_X11_46 kb_X11_refuse kv_X11_refuse rfl (c_X11_refuse (cq X) (cD X) (cY X) (cB X) (d := d) (by omega) (rc_at (rc_self hk0)).2 e4) rfl rfl (by simp [cat_i, cat_l, cat_rf]) dX11_hang_29 ?_
      cases h
      exact g_iret o hr hE dX11_hang_32
def f_X11_hang (K L : Nat → Nat) (fu : Nat) (a0 : Nat) (v1 : Int32) (v2 : Int32) (v3 : Int32) (M : Mm) : Option (Int32 × Mm) :=
  if v2 = (-1 : Int32) then
    f_X11_hang_10 K L fu a0 v1 v2 v3 (1 : Int32) M
  else
    f_X11_hang_10 K L fu a0 v1 v2 v3 (0 : Int32) M
set_option maxHeartbeats 4000000 in
theorem w_X11_hang_0 {X : Cx} {d n : Nat} {K L : Nat → Nat} {fu : Nat} {a0 : Nat} {r : (Int32 × Mm)} {v1 : Int32} {v2 : Int32} {v3 : Int32} {M : Mm} (o : cOk X cX11_hang RX11 (d + 1)) (hL : cL X = 9) (hr : (ch X).sig.returnType = some .int) (hz : (cs X).heap.size + 0 = cB X + n) (hk0 : K a0 = 11) (hE : cE X n K L r.2 (some (.int r.1)) 0 0) (hd : 5 ≤ d + 1) (h : f_X11_hang K L fu a0 v1 v2 v3 M = some r) : gW X 0 0 n K L M 0 [(0, va_rf (some a0)), (1, .int v1), (2, .int v2), (3, .int v3)] [] := by
  unfold f_X11_hang at h
  refine g_iload_n o dX11_hang_0 2 rfl ?_
  refine g_iconst (v := (-1 : Int32)) o dX11_hang_1 (by decide) ?_
  refine g_icmp_ne (tgt := 9) o dX11_hang_2 (by decide) (fun z => ?_) (fun z => ?_)
  · have h := (if_neg z).symm.trans h
    refine g_iconst (v := (0 : Int32)) o dX11_hang_9 (by decide) ?_
    exact w_X11_hang_10 o hL hr hz hk0 hE hd h
  · have h := (if_pos z).symm.trans h
    refine g_iconst (v := (1 : Int32)) o dX11_hang_5 (by decide) ?_
    refine g_goto (tgt := 10) o dX11_hang_6 (by decide) ?_
    exact w_X11_hang_10 o hL hr hz hk0 hE hd h
theorem c_X11_hang (l : Launch) (D : va_G) (Y : Nat → ClassId) (B : Nat) {d : Nat} {n : Nat} {K L : Nat → Nat} {fu : Nat} {M : Mm} {a0 : Nat} {v1 : Int32} {v2 : Int32} {v3 : Int32} {r : (Int32 × Mm)} (hd : 5 ≤ d) (hk0 : K a0 = 11) (h : f_X11_hang K L fu a0 v1 v2 v3 M = some r) : mC l D Y B d yX11_hang cX11_hang 9 (some .int) [va_rf (some a0), .int v1, .int v2, .int v3] n K L M n K L r.2 (some (.int r.1)) 0 0 := by
  obtain ⟨d, rfl⟩ : ∃ e, d = e + 1 := ⟨d - 1, by omega⟩
  refine mk_met (by decide) (by simp [lgs_r, lgs_i, lgs_l, lgs_n]) (fun X e1 e2 e3 e4 o hL hr hnm hz hc hs hE => ?_)
  subst e1 e2 e3 e4
  rw [show lv_args 0 [va_rf (some a0), .int v1, .int v2, .int v3] = [(0, va_rf (some a0)), (1, .int v1), (2, .int v2), (3, .int v3)] by simp [lva_r, lva_i, lva_l, lva_n]]
  exact w_X11_hang_0 o hL hr hz hk0 hE hd h
def f_X11_stop_52 (K L : Nat → Nat) (fu : Nat) (a0 : Nat) (M : Mm) : Option (Int32 × Mm) :=
  Option.bind (f_X11_refuse K L a0 (-12 : Int32) M) (fun x1 =>
  some (x1.1, x1.2))
set_option maxHeartbeats 4000000 in
theorem w_X11_stop_52 {X : Cx} {d n : Nat} {K L : Nat → Nat} {fu : Nat} {a0 : Nat} {r : (Int32 × Mm)} {M : Mm} (o : cOk X cX11_stop RX11 (d + 1)) (hL : cL X = 7) (hr : (ch X).sig.returnType = some .int) (hz : (cs X).heap.size + 0 = cB X + n) (hk0 : K a0 = 11) (hE : cE X n K L r.2 (some (.int r.1)) 0 0) (hd : 5 ≤ d + 1) (h : f_X11_stop_52 K L fu a0  M = some r) : gW X 0 0 n K L M 52 [(0, va_rf (some a0))] [] := by
  unfold f_X11_stop_52 at h
  refine g_aload_n o dX11_stop_52 0 rfl ?_
  refine g_bipush (v := (-12 : Int32)) o dX11_stop_53 (by decide) ?_
  obtain ⟨x1, e2, h⟩ := ob h
  refine g_invV0 o (rc_self hk0) (by decide) ml_X11_46 kb_X11_refuse kv_X11_refuse rfl (c_X11_refuse (cq X) (cD X) (cY X) (cB X) (d := d) (by omega) (rc_at (rc_self hk0)).2 e2) rfl rfl (by simp [cat_i, cat_l, cat_rf]) dX11_stop_55 ?_
  cases h
  exact g_iret o hr hE dX11_stop_58
def f_X11_stop_37 (K L : Nat → Nat) (fu : Nat) (a0 : Nat) (v1 : Int32) (v2 : Int32) (v3 : Int32) (v4 : (Option Nat)) (s0 : Int32) (M : Mm) : Option (Int32 × Mm) :=
  if s0 = 0 then
    Option.bind (f_X11_hasBit v2 v1) (fun x1 =>
    if x1 = 0 then
      Option.bind (rc K v4 9) (fun a3 =>
      bn (mm_I M (32 * 9 + 7) a3) (fun x5 =>
      bn (ms_I M (32 * 9 + 7) a3 v2) (fun M7 =>
      Option.bind (rc K (mm_R M7 (32 * 11 + 4) a0) 5) (fun a9 =>
      Option.bind (f_X5_findIn K L fu a9 (mm_R M7 (32 * 11 + 0) a0) M7) (fun x11 =>
      if (x11.1) = 0 then
        Option.bind (zb v3) (fun u14 =>
        bn (ms_I x11.2 (32 * 9 + 8) a3 v3) (fun M15 =>
        some ((1 : Int32), M15)))
      else
        bn (ms_I x11.2 (32 * 9 + 7) a3 x5) (fun M17 =>
        Option.bind (f_X11_refuse K L a0 (-7 : Int32) M17) (fun x19 =>
        some (x19.1, x19.2))))))))
    else
      f_X11_stop_52 K L fu a0 M)
  else
    f_X11_stop_52 K L fu a0 M
set_option maxHeartbeats 4000000 in
theorem w_X11_stop_37 {X : Cx} {d n : Nat} {K L : Nat → Nat} {fu : Nat} {a0 : Nat} {r : (Int32 × Mm)} {v1 : Int32} {v2 : Int32} {v3 : Int32} {v4 : (Option Nat)} {s0 : Int32} {M : Mm} (o : cOk X cX11_stop RX11 (d + 1)) (hL : cL X = 7) (hr : (ch X).sig.returnType = some .int) (hz : (cs X).heap.size + 0 = cB X + n) (hk0 : K a0 = 11) (hE : cE X n K L r.2 (some (.int r.1)) 0 0) (hd : 5 ≤ d + 1) (h : f_X11_stop_37 K L fu a0 v1 v2 v3 v4 s0 M = some r) : gW X 0 0 n K L M 37 [(0, va_rf (some a0)), (1, .int v1), (2, .int v2), (3, .int v3), (4, va_rf v4)] [.int s0] := by
  unfold f_X11_stop_37 at h
  refine g_istore (i := 5) (ls' := [(5, .int s0), (0, va_rf (some a0)), (1, .int v1), (2, .int v2), (3, .int v3), (4, va_rf v4)]) o dX11_stop_37 (ltL hL (by decide)) (by simp [cat_rf]) ?_
  refine g_iload o dX11_stop_39 0 rfl ?_
  refine g_if_ne (tgt := 52) o dX11_stop_41 (by decide) (fun z => ?_) (fun z => ?_)
  · have h := (if_neg z).symm.trans h
    refine gsub [1] rfl ?_
    exact w_X11_stop_52 o hL hr hz hk0 hE hd h
  · have h := (if_pos z).symm.trans h
    refine g_iload_n o dX11_stop_44 3 rfl ?_
    refine g_iload_n o dX11_stop_45 2 rfl ?_
    obtain ⟨x1, e2, h⟩ := ob h
    refine g_invS0 o ml_X11_187 kb_X11_hasBit ks_X11_hasBit (c_X11_hasBit (cq X) (cD X) (cY X) (cB X) (d := d) (by omega) e2) rfl rfl (by simp [cat_i, cat_l, cat_rf]) dX11_stop_46 ?_
    refine g_if_eq (tgt := 59) o dX11_stop_49 (by decide) (fun z => ?_) (fun z => ?_)
    · have h := (if_pos z).symm.trans h
      refine g_aload o dX11_stop_59 5 rfl ?_
      obtain ⟨a3, e4, h⟩ := ob h
      refine g_getI o fl_X11_190 e4 (by decide) rfl dX11_stop_61 ?_
      obtain ⟨x5, e6, h⟩ := bn_at h
      refine g_topI e6 ?_
      refine g_istore (i := 6) (ls' := [(6, .int x5), (5, .int s0), (0, va_rf (some a0)), (1, .int v1), (2, .int v2), (3, .int v3), (4, va_rf v4)]) o dX11_stop_64 (ltL hL (by decide)) rfl ?_
      refine g_aload o dX11_stop_66 6 rfl ?_
      refine g_iload_n o dX11_stop_68 4 rfl ?_
      refine g_putI o hz fl_X11_190 e4 (by decide) rfl rfl rfl  dX11_stop_69 ?_
      obtain ⟨M7, e8, h⟩ := bn_at h
      refine g_mem e8 ?_
      refine g_aload_n o dX11_stop_72 2 rfl ?_
      refine g_getR o fl_X11_33 (rc_self hk0) (by decide) rfl dX11_stop_73 ?_
      refine g_aload_n o dX11_stop_76 2 rfl ?_
      refine g_getR o fl_X11_10 (rc_self hk0) (by decide) rfl dX11_stop_77 ?_
      obtain ⟨a9, e10, h⟩ := ob h
      obtain ⟨x11, e12, h⟩ := ob h
      refine g_invV0 o e10 (by decide) ml_X11_183 kb_X5_findIn kv_X5_findIn rfl (c_X5_findIn (cq X) (cD X) (cY X) (cB X) (d := d) (by omega) (rc_at e10).2 e12) rfl rfl (by simp [cat_i, cat_l, cat_rf]) dX11_stop_80 ?_
      refine g_if_eq (tgt := 100) o dX11_stop_83 (by decide) (fun z => ?_) (fun z => ?_)
      · have h := (if_pos z).symm.trans h
        refine g_aload o dX11_stop_100 6 rfl ?_
        refine g_iload_n o dX11_stop_102 5 rfl ?_
        obtain ⟨u14, e13, h⟩ := ob h
        refine g_putZ o hz fl_X11_193 e4 (by decide) rfl rfl rfl (zb_at e13) dX11_stop_103 ?_
        obtain ⟨M15, e16, h⟩ := bn_at h
        refine g_mem e16 ?_
        refine g_iconst (v := (1 : Int32)) o dX11_stop_106 (by decide) ?_
        cases h
        exact g_iret o hr hE dX11_stop_107
      · have h := (if_neg z).symm.trans h
        refine g_aload o dX11_stop_86 6 rfl ?_
        refine g_iload o dX11_stop_88 0 rfl ?_
        refine g_putI o hz fl_X11_190 e4 (by decide) rfl rfl rfl  dX11_stop_90 ?_
        obtain ⟨M17, e18, h⟩ := bn_at h
        refine g_mem e18 ?_
        refine g_aload_n o dX11_stop_93 2 rfl ?_
        refine g_bipush (v := (-7 : Int32)) o dX11_stop_94 (by decide) ?_
        obtain ⟨x19, e20, h⟩ := ob h
        refine g_invV0 o (rc_self hk0) (by decide) ml_X11_46 kb_X11_refuse kv_X11_refuse rfl (c_X11_refuse (cq X) (cD X) (cY X) (cB X) (d := d) (by omega) (rc_at (rc_self hk0)).2 e20) rfl rfl (by simp [cat_i, cat_l, cat_rf]) dX11_stop_96 ?_
        cases h
        exact g_iret o hr hE dX11_stop_99
    · have h := (if_neg z).symm.trans h
      refine gsub [1] rfl ?_
      exact w_X11_stop_52 o hL hr hz hk0 hE hd h
def f_X11_stop (K L : Nat → Nat) (fu : Nat) (a0 : Nat) (v1 : Int32) (v2 : Int32) (v3 : Int32) (M : Mm) : Option (Int32 × Mm) :=
  Option.bind (rc K (mm_R M (32 * 11 + 0) a0) 8) (fun a1 =>
  Option.bind (f_X8_find K L M a1 v1 (16 : Int32)) (fun x3 =>
  if x3 = none then
    Option.bind (f_X11_refuseAt K L a0 v1 (16 : Int32) M) (fun x5 =>
    some (x5.1, x5.2))
  else
    if ((v2.toUInt32 >>> ((16 : Int32).toUInt32 &&& Int32.toUInt32 31)).toInt32) = 0 then
      f_X11_stop_37 K L fu a0 v1 v2 v3 x3 (0 : Int32) M
    else
      f_X11_stop_37 K L fu a0 v1 v2 v3 x3 (1 : Int32) M))
set_option maxHeartbeats 4000000 in
theorem w_X11_stop_0 {X : Cx} {d n : Nat} {K L : Nat → Nat} {fu : Nat} {a0 : Nat} {r : (Int32 × Mm)} {v1 : Int32} {v2 : Int32} {v3 : Int32} {M : Mm} (o : cOk X cX11_stop RX11 (d + 1)) (hL : cL X = 7) (hr : (ch X).sig.returnType = some .int) (hz : (cs X).heap.size + 0 = cB X + n) (hk0 : K a0 = 11) (hE : cE X n K L r.2 (some (.int r.1)) 0 0) (hd : 5 ≤ d + 1) (h : f_X11_stop K L fu a0 v1 v2 v3 M = some r) : gW X 0 0 n K L M 0 [(0, va_rf (some a0)), (1, .int v1), (2, .int v2), (3, .int v3)] [] := by
  unfold f_X11_stop at h
  refine g_aload_n o dX11_stop_0 0 rfl ?_
  refine g_getR o fl_X11_10 (rc_self hk0) (by decide) rfl dX11_stop_1 ?_
  refine g_iload_n o dX11_stop_4 1 rfl ?_
  refine g_bipush (v := (16 : Int32)) o dX11_stop_5 (by decide) ?_
  obtain ⟨a1, e2, h⟩ := ob h
  obtain ⟨x3, e4, h⟩ := ob h
  refine g_invV0 o e2 (by decide) ml_X11_54 kb_X8_find kv_X8_find rfl (c_X8_find (cq X) (cD X) (cY X) (cB X) (d := d) (by omega) (rc_at e2).2 e4) rfl rfl (by simp [cat_i, cat_l, cat_rf]) dX11_stop_7 ?_
  refine g_astore (i := 4) (ls' := [(4, va_rf x3), (0, va_rf (some a0)), (1, .int v1), (2, .int v2), (3, .int v3)]) o dX11_stop_10 (ltL hL (by decide)) rfl ?_
  refine g_aload o dX11_stop_12 0 rfl ?_
  refine g_ifnonnull (tgt := 25) o dX11_stop_14 (by decide) (fun z => ?_) (fun z => ?_)
  · have h := (if_neg z).symm.trans h
    refine g_iload_n o dX11_stop_25 3 rfl ?_
    refine g_bipush (v := (16 : Int32)) o dX11_stop_26 (by decide) ?_
    refine g_iushr o dX11_stop_28 ?_
    refine g_if_eq (tgt := 36) o dX11_stop_29 (by decide) (fun z => ?_) (fun z => ?_)
    · have h := (if_pos z).symm.trans h
      refine g_iconst (v := (0 : Int32)) o dX11_stop_36 (by decide) ?_
      refine gsub [1, 2, 3, 4, 0] rfl ?_
      exact w_X11_stop_37 o hL hr hz hk0 hE hd h
    · have h := (if_neg z).symm.trans h
      refine g_iconst (v := (1 : Int32)) o dX11_stop_32 (by decide) ?_
      refine g_goto (tgt := 37) o dX11_stop_33 (by decide) ?_
      refine gsub [1, 2, 3, 4, 0] rfl ?_
      exact w_X11_stop_37 o hL hr hz hk0 hE hd h
  · have h := (if_pos z).symm.trans h
    refine g_aload_n o dX11_stop_17 1 rfl ?_
    refine g_iload_n o dX11_stop_18 2 rfl ?_
    refine g_bipush (v := (16 : Int32)) o dX11_stop_19 (by decide) ?_
    obtain ⟨x5, e6, h⟩ := ob h
    refine g_invV0 o (rc_self hk0) (by decide) ml_X11_58 kb_X11_refuseAt kv_X11_refuseAt rfl (c_X11_refuseAt (cq X) (cD X) (cY X) (cB X) (d := d) (by omega) (rc_at (rc_self hk0)).2 e6) rfl rfl (by simp [cat_i, cat_l, cat_rf]) dX11_stop_21 ?_
    cases h
    exact g_iret o hr hE dX11_stop_24
theorem c_X11_stop (l : Launch) (D : va_G) (Y : Nat → ClassId) (B : Nat) {d : Nat} {n : Nat} {K L : Nat → Nat} {fu : Nat} {M : Mm} {a0 : Nat} {v1 : Int32} {v2 : Int32} {v3 : Int32} {r : (Int32 × Mm)} (hd : 5 ≤ d) (hk0 : K a0 = 11) (h : f_X11_stop K L fu a0 v1 v2 v3 M = some r) : mC l D Y B d yX11_stop cX11_stop 7 (some .int) [va_rf (some a0), .int v1, .int v2, .int v3] n K L M n K L r.2 (some (.int r.1)) 0 0 := by
  obtain ⟨d, rfl⟩ : ∃ e, d = e + 1 := ⟨d - 1, by omega⟩
  refine mk_met (by decide) (by simp [lgs_r, lgs_i, lgs_l, lgs_n]) (fun X e1 e2 e3 e4 o hL hr hnm hz hc hs hE => ?_)
  subst e1 e2 e3 e4
  rw [show lv_args 0 [va_rf (some a0), .int v1, .int v2, .int v3] = [(0, va_rf (some a0)), (1, .int v1), (2, .int v2), (3, .int v3)] by simp [lva_r, lva_i, lva_l, lva_n]]
  exact w_X11_stop_0 o hL hr hz hk0 hE hd h
def f_X11_ring (K L : Nat → Nat) (a0 : Nat) (v1 : Int32) (M : Mm) : Option (Int32 × Mm) :=
  Option.bind (rc K (mm_R M (32 * 11 + 4) a0) 5) (fun a1 =>
  Option.bind (f_X5_memberAt K L M a1 v1) (fun x3 =>
  Option.bind (f_X11_answer K L a0 x3 M) (fun x5 =>
  some (x5.1, x5.2))))
set_option maxHeartbeats 4000000 in
theorem w_X11_ring_0 {X : Cx} {d n : Nat} {K L : Nat → Nat} {a0 : Nat} {r : (Int32 × Mm)} {v1 : Int32} {M : Mm} (o : cOk X cX11_ring RX11 (d + 1)) (hL : cL X = 2) (hr : (ch X).sig.returnType = some .int) (hz : (cs X).heap.size + 0 = cB X + n) (hk0 : K a0 = 11) (hE : cE X n K L r.2 (some (.int r.1)) 0 0) (hd : 3 ≤ d + 1) (h : f_X11_ring K L a0 v1 M = some r) : gW X 0 0 n K L M 0 [(0, va_rf (some a0)), (1, .int v1)] [] := by
  unfold f_X11_ring at h
  refine g_aload_n o dX11_ring_0 0 rfl ?_
  refine g_aload_n o dX11_ring_1 0 rfl ?_
  refine g_getR o fl_X11_33 (rc_self hk0) (by decide) rfl dX11_ring_2 ?_
  refine g_iload_n o dX11_ring_5 1 rfl ?_
  obtain ⟨a1, e2, h⟩ := ob h
  obtain ⟨x3, e4, h⟩ := ob h
  refine g_invV0 o e2 (by decide) ml_X11_196 kb_X5_memberAt kv_X5_memberAt rfl (c_X5_memberAt (cq X) (cD X) (cY X) (cB X) (d := d) (by omega) (rc_at e2).2 e4) rfl rfl (by simp [cat_i, cat_l, cat_rf]) dX11_ring_6 ?_
  obtain ⟨x5, e6, h⟩ := ob h
  refine g_invV0 o (rc_self hk0) (by decide) ml_X11_133 kb_X11_answer kv_X11_answer rfl (c_X11_answer (cq X) (cD X) (cY X) (cB X) (d := d) (by omega) (rc_at (rc_self hk0)).2 e6) rfl rfl (by simp [cat_i, cat_l, cat_rf]) dX11_ring_9 ?_
  cases h
  exact g_iret o hr hE dX11_ring_12
theorem c_X11_ring (l : Launch) (D : va_G) (Y : Nat → ClassId) (B : Nat) {d : Nat} {n : Nat} {K L : Nat → Nat} {M : Mm} {a0 : Nat} {v1 : Int32} {r : (Int32 × Mm)} (hd : 3 ≤ d) (hk0 : K a0 = 11) (h : f_X11_ring K L a0 v1 M = some r) : mC l D Y B d yX11_ring cX11_ring 2 (some .int) [va_rf (some a0), .int v1] n K L M n K L r.2 (some (.int r.1)) 0 0 := by
  obtain ⟨d, rfl⟩ : ∃ e, d = e + 1 := ⟨d - 1, by omega⟩
  refine mk_met (by decide) (by simp [lgs_r, lgs_i, lgs_l, lgs_n]) (fun X e1 e2 e3 e4 o hL hr hnm hz hc hs hE => ?_)
  subst e1 e2 e3 e4
  rw [show lv_args 0 [va_rf (some a0), .int v1] = [(0, va_rf (some a0)), (1, .int v1)] by simp [lva_r, lva_i, lva_l, lva_n]]
  exact w_X11_ring_0 o hL hr hz hk0 hE hd h
def f_X11_row_54 (K L : Nat → Nat) (fu : Nat) (a0 : Nat) (M : Mm) : Option (Int32 × Mm) :=
  Option.bind (f_X11_refuse K L a0 (-12 : Int32) M) (fun x1 =>
  some (x1.1, x1.2))
set_option maxHeartbeats 4000000 in
theorem w_X11_row_54 {X : Cx} {d n : Nat} {K L : Nat → Nat} {fu : Nat} {a0 : Nat} {r : (Int32 × Mm)} {M : Mm} (o : cOk X cX11_row RX11 (d + 1)) (hL : cL X = 4) (hr : (ch X).sig.returnType = some .int) (hz : (cs X).heap.size + 0 = cB X + n) (hk0 : K a0 = 11) (hE : cE X n K L r.2 (some (.int r.1)) 0 0) (hd : 4 ≤ d + 1) (h : f_X11_row_54 K L fu a0  M = some r) : gW X 0 0 n K L M 54 [(0, va_rf (some a0))] [] := by
  unfold f_X11_row_54 at h
  refine g_aload_n o dX11_row_54 0 rfl ?_
  refine g_bipush (v := (-12 : Int32)) o dX11_row_55 (by decide) ?_
  obtain ⟨x1, e2, h⟩ := ob h
  refine g_invV0 o (rc_self hk0) (by decide) ml_X11_46 kb_X11_refuse kv_X11_refuse rfl (c_X11_refuse (cq X) (cD X) (cY X) (cB X) (d := d) (by omega) (rc_at (rc_self hk0)).2 e2) rfl rfl (by simp [cat_i, cat_l, cat_rf]) dX11_row_57 ?_
  cases h
  exact g_iret o hr hE dX11_row_60
def f_X11_row (K L : Nat → Nat) (fu : Nat) (a0 : Nat) (v1 : Int32) (v2 : Int32) (M : Mm) : Option (Int32 × Mm) :=
  Option.bind (rc K (mm_R M (32 * 11 + 0) a0) 8) (fun a1 =>
  Option.bind (f_X8_find K L M a1 v1 (6 : Int32)) (fun x3 =>
  if x3 = none then
    Option.bind (f_X11_refuseAt K L a0 v1 (6 : Int32) M) (fun x15 =>
    some (x15.1, x15.2))
  else
    if 0 ≤ v2 then
      if v2 = 0 then
        f_X11_row_54 K L fu a0 M
      else
        if (20 : Int32) < v2 then
          f_X11_row_54 K L fu a0 M
        else
          Option.bind (rc K x3 9) (fun a5 =>
          Option.bind (rc K (mm_R M (32 * 9 + 9) a5) 3) (fun a7 =>
          Option.bind (f_X3_isStoodOn K L M a7) (fun x9 =>
          if x9 = 0 then
            Option.bind (f_X3_layRow K L fu a7 v2 M) (fun x11 =>
            some ((1 : Int32), x11))
          else
            f_X11_row_54 K L fu a0 M)))
    else
      Option.bind (f_X11_refuse K L a0 (-4 : Int32) M) (fun x13 =>
      some (x13.1, x13.2))))
set_option maxHeartbeats 4000000 in
theorem w_X11_row_0 {X : Cx} {d n : Nat} {K L : Nat → Nat} {fu : Nat} {a0 : Nat} {r : (Int32 × Mm)} {v1 : Int32} {v2 : Int32} {M : Mm} (o : cOk X cX11_row RX11 (d + 1)) (hL : cL X = 4) (hr : (ch X).sig.returnType = some .int) (hz : (cs X).heap.size + 0 = cB X + n) (hk0 : K a0 = 11) (hE : cE X n K L r.2 (some (.int r.1)) 0 0) (hd : 4 ≤ d + 1) (h : f_X11_row K L fu a0 v1 v2 M = some r) : gW X 0 0 n K L M 0 [(0, va_rf (some a0)), (1, .int v1), (2, .int v2)] [] := by
  unfold f_X11_row at h
  refine g_aload_n o dX11_row_0 0 rfl ?_
  refine g_getR o fl_X11_10 (rc_self hk0) (by decide) rfl dX11_row_1 ?_
  refine g_iload_n o dX11_row_4 1 rfl ?_
  refine g_bipush (v := (6 : Int32)) o dX11_row_5 (by decide) ?_
  obtain ⟨a1, e2, h⟩ := ob h
  obtain ⟨x3, e4, h⟩ := ob h
  refine g_invV0 o e2 (by decide) ml_X11_54 kb_X8_find kv_X8_find rfl (c_X8_find (cq X) (cD X) (cY X) (cB X) (d := d) (by omega) (rc_at e2).2 e4) rfl rfl (by simp [cat_i, cat_l, cat_rf]) dX11_row_7 ?_
  refine g_astore_n (i := 3) (ls' := [(3, va_rf x3), (0, va_rf (some a0)), (1, .int v1), (2, .int v2)]) o dX11_row_10 rfl (ltL hL (by decide)) rfl ?_
  refine g_aload_n o dX11_row_11 0 rfl ?_
  refine g_ifnonnull (tgt := 23) o dX11_row_12 (by decide) (fun z => ?_) (fun z => ?_)
  · have h := (if_neg z).symm.trans h
    refine g_iload_n o dX11_row_23 3 rfl ?_
    refine g_if_ge (tgt := 34) o dX11_row_24 (by decide) (fun z => ?_) (fun z => ?_)
    · have h := (if_pos z).symm.trans h
      refine g_iload_n o dX11_row_34 3 rfl ?_
      refine g_if_eq (tgt := 54) o dX11_row_35 (by decide) (fun z => ?_) (fun z => ?_)
      · have h := (if_pos z).symm.trans h
        refine gsub [1] rfl ?_
        exact w_X11_row_54 o hL hr hz hk0 hE hd h
      · have h := (if_neg z).symm.trans h
        refine g_iload_n o dX11_row_38 3 rfl ?_
        refine g_bipush (v := (20 : Int32)) o dX11_row_39 (by decide) ?_
        refine g_icmp_gt (tgt := 54) o dX11_row_41 (by decide) (fun z => ?_) (fun z => ?_)
        · have h := (if_pos z).symm.trans h
          refine gsub [1] rfl ?_
          exact w_X11_row_54 o hL hr hz hk0 hE hd h
        · have h := (if_neg z).symm.trans h
          refine g_aload_n o dX11_row_44 0 rfl ?_
          obtain ⟨a5, e6, h⟩ := ob h
          refine g_getR o fl_X11_142 e6 (by decide) rfl dX11_row_45 ?_
          obtain ⟨a7, e8, h⟩ := ob h
          obtain ⟨x9, e10, h⟩ := ob h
          refine g_invV0 o e8 (by decide) ml_X11_146 kb_X3_isStoodOn kv_X3_isStoodOn rfl (c_X3_isStoodOn (cq X) (cD X) (cY X) (cB X) (d := d) (by omega) (rc_at e8).2 e10) rfl rfl (by simp [cat_i, cat_l, cat_rf]) dX11_row_48 ?_
          refine g_if_eq (tgt := 61) o dX11_row_51 (by decide) (fun z => ?_) (fun z => ?_)
          · have h := (if_pos z).symm.trans h
            refine g_aload_n o dX11_row_61 0 rfl ?_
            refine g_getR o fl_X11_142 e6 (by decide) rfl dX11_row_62 ?_
            refine g_iload_n o dX11_row_65 3 rfl ?_
            obtain ⟨x11, e12, h⟩ := ob h
            refine g_invV0 o e8 (by decide) ml_X11_199 kb_X3_layRow kv_X3_layRow rfl (c_X3_layRow (cq X) (cD X) (cY X) (cB X) (d := d) (by omega) (rc_at e8).2 e12) rfl rfl (by simp [cat_i, cat_l, cat_rf]) dX11_row_66 ?_
            refine g_iconst (v := (1 : Int32)) o dX11_row_69 (by decide) ?_
            cases h
            exact g_iret o hr hE dX11_row_70
          · have h := (if_neg z).symm.trans h
            refine gsub [1] rfl ?_
            exact w_X11_row_54 o hL hr hz hk0 hE hd h
    · have h := (if_neg z).symm.trans h
      refine g_aload_n o dX11_row_27 1 rfl ?_
      refine g_bipush (v := (-4 : Int32)) o dX11_row_28 (by decide) ?_
      obtain ⟨x13, e14, h⟩ := ob h
      refine g_invV0 o (rc_self hk0) (by decide) ml_X11_46 kb_X11_refuse kv_X11_refuse rfl (c_X11_refuse (cq X) (cD X) (cY X) (cB X) (d := d) (by omega) (rc_at (rc_self hk0)).2 e14) rfl rfl (by simp [cat_i, cat_l, cat_rf]) dX11_row_30 ?_
      cases h
      exact g_iret o hr hE dX11_row_33
  · have h := (if_pos z).symm.trans h
    refine g_aload_n o dX11_row_15 1 rfl ?_
    refine g_iload_n o dX11_row_16 2 rfl ?_
    refine g_bipush (v := (6 : Int32)) o dX11_row_17 (by decide) ?_
    obtain ⟨x15, e16, h⟩ := ob h
    refine g_invV0 o (rc_self hk0) (by decide) ml_X11_58 kb_X11_refuseAt kv_X11_refuseAt rfl (c_X11_refuseAt (cq X) (cD X) (cY X) (cB X) (d := d) (by omega) (rc_at (rc_self hk0)).2 e16) rfl rfl (by simp [cat_i, cat_l, cat_rf]) dX11_row_19 ?_
    cases h
    exact g_iret o hr hE dX11_row_22
theorem c_X11_row (l : Launch) (D : va_G) (Y : Nat → ClassId) (B : Nat) {d : Nat} {n : Nat} {K L : Nat → Nat} {fu : Nat} {M : Mm} {a0 : Nat} {v1 : Int32} {v2 : Int32} {r : (Int32 × Mm)} (hd : 4 ≤ d) (hk0 : K a0 = 11) (h : f_X11_row K L fu a0 v1 v2 M = some r) : mC l D Y B d yX11_row cX11_row 4 (some .int) [va_rf (some a0), .int v1, .int v2] n K L M n K L r.2 (some (.int r.1)) 0 0 := by
  obtain ⟨d, rfl⟩ : ∃ e, d = e + 1 := ⟨d - 1, by omega⟩
  refine mk_met (by decide) (by simp [lgs_r, lgs_i, lgs_l, lgs_n]) (fun X e1 e2 e3 e4 o hL hr hnm hz hc hs hE => ?_)
  subst e1 e2 e3 e4
  rw [show lv_args 0 [va_rf (some a0), .int v1, .int v2] = [(0, va_rf (some a0)), (1, .int v1), (2, .int v2)] by simp [lva_r, lva_i, lva_l, lva_n]]
  exact w_X11_row_0 o hL hr hz hk0 hE hd h
def f_X11_tear (K L : Nat → Nat) (a0 : Nat) (v1 : Int32) (M : Mm) : Option (Int32 × Mm) :=
  Option.bind (rc K (mm_R M (32 * 11 + 0) a0) 8) (fun a1 =>
  Option.bind (f_X8_find K L M a1 v1 (6 : Int32)) (fun x3 =>
  if x3 = none then
    Option.bind (f_X11_refuseAt K L a0 v1 (6 : Int32) M) (fun x11 =>
    some (x11.1, x11.2))
  else
    Option.bind (rc K x3 9) (fun a5 =>
    Option.bind (rc K (mm_R M (32 * 9 + 9) a5) 3) (fun a7 =>
    Option.bind (f_X3_dropRow K L a7 M) (fun x9 =>
    if (x9.1) = 0 then
      some ((0 : Int32), x9.2)
    else
      some ((1 : Int32), x9.2))))))
set_option maxHeartbeats 4000000 in
theorem w_X11_tear_0 {X : Cx} {d n : Nat} {K L : Nat → Nat} {a0 : Nat} {r : (Int32 × Mm)} {v1 : Int32} {M : Mm} (o : cOk X cX11_tear RX11 (d + 1)) (hL : cL X = 3) (hr : (ch X).sig.returnType = some .int) (hz : (cs X).heap.size + 0 = cB X + n) (hk0 : K a0 = 11) (hE : cE X n K L r.2 (some (.int r.1)) 0 0) (hd : 4 ≤ d + 1) (h : f_X11_tear K L a0 v1 M = some r) : gW X 0 0 n K L M 0 [(0, va_rf (some a0)), (1, .int v1)] [] := by
  unfold f_X11_tear at h
  refine g_aload_n o dX11_tear_0 0 rfl ?_
  refine g_getR o fl_X11_10 (rc_self hk0) (by decide) rfl dX11_tear_1 ?_
  refine g_iload_n o dX11_tear_4 1 rfl ?_
  refine g_bipush (v := (6 : Int32)) o dX11_tear_5 (by decide) ?_
  obtain ⟨a1, e2, h⟩ := ob h
  obtain ⟨x3, e4, h⟩ := ob h
  refine g_invV0 o e2 (by decide) ml_X11_54 kb_X8_find kv_X8_find rfl (c_X8_find (cq X) (cD X) (cY X) (cB X) (d := d) (by omega) (rc_at e2).2 e4) rfl rfl (by simp [cat_i, cat_l, cat_rf]) dX11_tear_7 ?_
  refine g_astore_n (i := 2) (ls' := [(2, va_rf x3), (0, va_rf (some a0)), (1, .int v1)]) o dX11_tear_10 rfl (ltL hL (by decide)) rfl ?_
  refine g_aload_n o dX11_tear_11 0 rfl ?_
  refine g_ifnonnull (tgt := 23) o dX11_tear_12 (by decide) (fun z => ?_) (fun z => ?_)
  · have h := (if_neg z).symm.trans h
    refine g_aload_n o dX11_tear_23 0 rfl ?_
    obtain ⟨a5, e6, h⟩ := ob h
    refine g_getR o fl_X11_142 e6 (by decide) rfl dX11_tear_24 ?_
    obtain ⟨a7, e8, h⟩ := ob h
    obtain ⟨x9, e10, h⟩ := ob h
    refine g_invV0 o e8 (by decide) ml_X11_202 kb_X3_dropRow kv_X3_dropRow rfl (c_X3_dropRow (cq X) (cD X) (cY X) (cB X) (d := d) (by omega) (rc_at e8).2 e10) rfl rfl (by simp [cat_i, cat_l, cat_rf]) dX11_tear_27 ?_
    refine g_if_eq (tgt := 37) o dX11_tear_30 (by decide) (fun z => ?_) (fun z => ?_)
    · have h := (if_pos z).symm.trans h
      refine g_iconst (v := (0 : Int32)) o dX11_tear_37 (by decide) ?_
      cases h
      exact g_iret o hr hE dX11_tear_38
    · have h := (if_neg z).symm.trans h
      refine g_iconst (v := (1 : Int32)) o dX11_tear_33 (by decide) ?_
      refine g_goto (tgt := 38) o dX11_tear_34 (by decide) ?_
      cases h
      exact g_iret o hr hE dX11_tear_38
  · have h := (if_pos z).symm.trans h
    refine g_aload_n o dX11_tear_15 1 rfl ?_
    refine g_iload_n o dX11_tear_16 2 rfl ?_
    refine g_bipush (v := (6 : Int32)) o dX11_tear_17 (by decide) ?_
    obtain ⟨x11, e12, h⟩ := ob h
    refine g_invV0 o (rc_self hk0) (by decide) ml_X11_58 kb_X11_refuseAt kv_X11_refuseAt rfl (c_X11_refuseAt (cq X) (cD X) (cY X) (cB X) (d := d) (by omega) (rc_at (rc_self hk0)).2 e12) rfl rfl (by simp [cat_i, cat_l, cat_rf]) dX11_tear_19 ?_
    cases h
    exact g_iret o hr hE dX11_tear_22
theorem c_X11_tear (l : Launch) (D : va_G) (Y : Nat → ClassId) (B : Nat) {d : Nat} {n : Nat} {K L : Nat → Nat} {M : Mm} {a0 : Nat} {v1 : Int32} {r : (Int32 × Mm)} (hd : 4 ≤ d) (hk0 : K a0 = 11) (h : f_X11_tear K L a0 v1 M = some r) : mC l D Y B d yX11_tear cX11_tear 3 (some .int) [va_rf (some a0), .int v1] n K L M n K L r.2 (some (.int r.1)) 0 0 := by
  obtain ⟨d, rfl⟩ : ∃ e, d = e + 1 := ⟨d - 1, by omega⟩
  refine mk_met (by decide) (by simp [lgs_r, lgs_i, lgs_l, lgs_n]) (fun X e1 e2 e3 e4 o hL hr hnm hz hc hs hE => ?_)
  subst e1 e2 e3 e4
  rw [show lv_args 0 [va_rf (some a0), .int v1] = [(0, va_rf (some a0)), (1, .int v1)] by simp [lva_r, lva_i, lva_l, lva_n]]
  exact w_X11_tear_0 o hL hr hz hk0 hE hd h
def f_X11_step_84 (K L : Nat → Nat) (a0 : Nat) (M : Mm) : Option (Int32 × Mm) :=
  Option.bind (f_X11_refuse K L a0 (-12 : Int32) M) (fun x1 =>
  some (x1.1, x1.2))
set_option maxHeartbeats 4000000 in
theorem w_X11_step_84 {X : Cx} {d n : Nat} {K L : Nat → Nat} {a0 : Nat} {r : (Int32 × Mm)} {M : Mm} (o : cOk X cX11_step RX11 (d + 1)) (hL : cL X = 6) (hr : (ch X).sig.returnType = some .int) (hz : (cs X).heap.size + 0 = cB X + n) (hk0 : K a0 = 11) (hE : cE X n K L r.2 (some (.int r.1)) 0 0) (hd : 4 ≤ d + 1) (h : f_X11_step_84 K L a0  M = some r) : gW X 0 0 n K L M 84 [(0, va_rf (some a0))] [] := by
  unfold f_X11_step_84 at h
  refine g_aload_n o dX11_step_84 0 rfl ?_
  refine g_bipush (v := (-12 : Int32)) o dX11_step_85 (by decide) ?_
  obtain ⟨x1, e2, h⟩ := ob h
  refine g_invV0 o (rc_self hk0) (by decide) ml_X11_46 kb_X11_refuse kv_X11_refuse rfl (c_X11_refuse (cq X) (cD X) (cY X) (cB X) (d := d) (by omega) (rc_at (rc_self hk0)).2 e2) rfl rfl (by simp [cat_i, cat_l, cat_rf]) dX11_step_87 ?_
  cases h
  exact g_iret o hr hE dX11_step_90
def f_X11_step (K L : Nat → Nat) (a0 : Nat) (v1 : Int32) (v2 : Int32) (v3 : Int32) (M : Mm) : Option (Int32 × Mm) :=
  Option.bind (rc K (mm_R M (32 * 11 + 0) a0) 8) (fun a1 =>
  Option.bind (f_X8_find K L M a1 v1 (6 : Int32)) (fun x3 =>
  if x3 = none then
    Option.bind (f_X11_refuseAt K L a0 v1 (6 : Int32) M) (fun x23 =>
    some (x23.1, x23.2))
  else
    Option.bind (rc K x3 9) (fun a5 =>
    Option.bind (rc K (mm_R M (32 * 9 + 9) a5) 3) (fun a7 =>
    Option.bind (f_X3_hasRow K L M a7) (fun x9 =>
    if x9 = 0 then
      Option.bind (f_X11_refuse K L a0 (-2 : Int32) M) (fun x21 =>
      some (x21.1, x21.2))
    else
      Option.bind (f_X3_hasStep K L M a7 v2) (fun x11 =>
      if x11 = 0 then
        Option.bind (f_X11_refuse K L a0 (-3 : Int32) M) (fun x19 =>
        some (x19.1, x19.2))
      else
        Option.bind (f_X11_within v3 (10000 : Int32)) (fun x13 =>
        if x13 = 0 then
          f_X11_step_84 K L a0 M
        else
          if (mm_I M (32 * 3 + 2) a7) < v2 then
            Option.bind (f_X3_stepAt K L M a7 v2) (fun x15 =>
            Option.bind (f_X3_setStep K L a7 v2 v3 M) (fun x17 =>
            some (x15, x17)))
          else
            f_X11_step_84 K L a0 M)))))))
set_option maxHeartbeats 4000000 in
theorem w_X11_step_0 {X : Cx} {d n : Nat} {K L : Nat → Nat} {a0 : Nat} {r : (Int32 × Mm)} {v1 : Int32} {v2 : Int32} {v3 : Int32} {M : Mm} (o : cOk X cX11_step RX11 (d + 1)) (hL : cL X = 6) (hr : (ch X).sig.returnType = some .int) (hz : (cs X).heap.size + 0 = cB X + n) (hk0 : K a0 = 11) (hE : cE X n K L r.2 (some (.int r.1)) 0 0) (hd : 4 ≤ d + 1) (h : f_X11_step K L a0 v1 v2 v3 M = some r) : gW X 0 0 n K L M 0 [(0, va_rf (some a0)), (1, .int v1), (2, .int v2), (3, .int v3)] [] := by
  unfold f_X11_step at h
  refine g_aload_n o dX11_step_0 0 rfl ?_
  refine g_getR o fl_X11_10 (rc_self hk0) (by decide) rfl dX11_step_1 ?_
  refine g_iload_n o dX11_step_4 1 rfl ?_
  refine g_bipush (v := (6 : Int32)) o dX11_step_5 (by decide) ?_
  obtain ⟨a1, e2, h⟩ := ob h
  obtain ⟨x3, e4, h⟩ := ob h
  refine g_invV0 o e2 (by decide) ml_X11_54 kb_X8_find kv_X8_find rfl (c_X8_find (cq X) (cD X) (cY X) (cB X) (d := d) (by omega) (rc_at e2).2 e4) rfl rfl (by simp [cat_i, cat_l, cat_rf]) dX11_step_7 ?_
  refine g_astore (i := 4) (ls' := [(4, va_rf x3), (0, va_rf (some a0)), (1, .int v1), (2, .int v2), (3, .int v3)]) o dX11_step_10 (ltL hL (by decide)) rfl ?_
  refine g_aload o dX11_step_12 0 rfl ?_
  refine g_ifnonnull (tgt := 25) o dX11_step_14 (by decide) (fun z => ?_) (fun z => ?_)
  · have h := (if_neg z).symm.trans h
    refine g_aload o dX11_step_25 0 rfl ?_
    obtain ⟨a5, e6, h⟩ := ob h
    refine g_getR o fl_X11_142 e6 (by decide) rfl dX11_step_27 ?_
    obtain ⟨a7, e8, h⟩ := ob h
    obtain ⟨x9, e10, h⟩ := ob h
    refine g_invV0 o e8 (by decide) ml_X11_205 kb_X3_hasRow kv_X3_hasRow rfl (c_X3_hasRow (cq X) (cD X) (cY X) (cB X) (d := d) (by omega) (rc_at e8).2 e10) rfl rfl (by simp [cat_i, cat_l, cat_rf]) dX11_step_30 ?_
    refine g_if_ne (tgt := 43) o dX11_step_33 (by decide) (fun z => ?_) (fun z => ?_)
    · have h := (if_neg z).symm.trans h
      refine g_aload o dX11_step_43 0 rfl ?_
      refine g_getR o fl_X11_142 e6 (by decide) rfl dX11_step_45 ?_
      refine g_iload_n o dX11_step_48 3 rfl ?_
      obtain ⟨x11, e12, h⟩ := ob h
      refine g_invV0 o e8 (by decide) ml_X11_208 kb_X3_hasStep kv_X3_hasStep rfl (c_X3_hasStep (cq X) (cD X) (cY X) (cB X) (d := d) (by omega) (rc_at e8).2 e12) rfl rfl (by simp [cat_i, cat_l, cat_rf]) dX11_step_49 ?_
      refine g_if_ne (tgt := 62) o dX11_step_52 (by decide) (fun z => ?_) (fun z => ?_)
      · have h := (if_neg z).symm.trans h
        refine g_iload_n o dX11_step_62 4 rfl ?_
        refine g_sipush (v := (10000 : Int32)) o dX11_step_63 (by decide) ?_
        obtain ⟨x13, e14, h⟩ := ob h
        refine g_invS0 o ml_X11_42 kb_X11_within ks_X11_within (c_X11_within (cq X) (cD X) (cY X) (cB X) (d := d) (by omega) e14) rfl rfl (by simp [cat_i, cat_l, cat_rf]) dX11_step_66 ?_
        refine g_if_eq (tgt := 84) o dX11_step_69 (by decide) (fun z => ?_) (fun z => ?_)
        · have h := (if_pos z).symm.trans h
          refine gsub [1] rfl ?_
          exact w_X11_step_84 o hL hr hz hk0 hE hd h
        · have h := (if_neg z).symm.trans h
          refine g_aload o dX11_step_72 0 rfl ?_
          refine g_getR o fl_X11_142 e6 (by decide) rfl dX11_step_74 ?_
          refine g_getI o fl_X11_211 e8 (by decide) rfl dX11_step_77 ?_
          refine g_iload_n o dX11_step_80 3 rfl ?_
          refine g_icmp_lt (tgt := 91) o dX11_step_81 (by decide) (fun z => ?_) (fun z => ?_)
          · have h := (if_pos z).symm.trans h
            refine g_aload o dX11_step_91 0 rfl ?_
            refine g_getR o fl_X11_142 e6 (by decide) rfl dX11_step_93 ?_
            refine g_iload_n o dX11_step_96 3 rfl ?_
            obtain ⟨x15, e16, h⟩ := ob h
            refine g_invV0 o e8 (by decide) ml_X11_214 kb_X3_stepAt kv_X3_stepAt rfl (c_X3_stepAt (cq X) (cD X) (cY X) (cB X) (d := d) (by omega) (rc_at e8).2 e16) rfl rfl (by simp [cat_i, cat_l, cat_rf]) dX11_step_97 ?_
            refine g_istore (i := 5) (ls' := [(5, .int x15), (4, va_rf x3), (0, va_rf (some a0)), (1, .int v1), (2, .int v2), (3, .int v3)]) o dX11_step_100 (ltL hL (by decide)) (by simp [cat_rf]) ?_
            refine g_aload o dX11_step_102 1 rfl ?_
            refine g_getR o fl_X11_142 e6 (by decide) rfl dX11_step_104 ?_
            refine g_iload_n o dX11_step_107 4 rfl ?_
            refine g_iload_n o dX11_step_108 5 rfl ?_
            obtain ⟨x17, e18, h⟩ := ob h
            refine g_invV0 o e8 (by decide) ml_X11_217 kb_X3_setStep kv_X3_setStep rfl (c_X3_setStep (cq X) (cD X) (cY X) (cB X) (d := d) (by omega) (rc_at e8).2 e18) rfl rfl (by simp [cat_i, cat_l, cat_rf]) dX11_step_109 ?_
            refine g_iload o dX11_step_112 0 rfl ?_
            cases h
            exact g_iret o hr hE dX11_step_114
          · have h := (if_neg z).symm.trans h
            refine gsub [1] rfl ?_
            exact w_X11_step_84 o hL hr hz hk0 hE hd h
      · have h := (if_pos z).symm.trans h
        refine g_aload_n o dX11_step_55 1 rfl ?_
        refine g_bipush (v := (-3 : Int32)) o dX11_step_56 (by decide) ?_
        obtain ⟨x19, e20, h⟩ := ob h
        refine g_invV0 o (rc_self hk0) (by decide) ml_X11_46 kb_X11_refuse kv_X11_refuse rfl (c_X11_refuse (cq X) (cD X) (cY X) (cB X) (d := d) (by omega) (rc_at (rc_self hk0)).2 e20) rfl rfl (by simp [cat_i, cat_l, cat_rf]) dX11_step_58 ?_
        cases h
        exact g_iret o hr hE dX11_step_61
    · have h := (if_pos z).symm.trans h
      refine g_aload_n o dX11_step_36 1 rfl ?_
      refine g_bipush (v := (-2 : Int32)) o dX11_step_37 (by decide) ?_
      obtain ⟨x21, e22, h⟩ := ob h
      refine g_invV0 o (rc_self hk0) (by decide) ml_X11_46 kb_X11_refuse kv_X11_refuse rfl (c_X11_refuse (cq X) (cD X) (cY X) (cB X) (d := d) (by omega) (rc_at (rc_self hk0)).2 e22) rfl rfl (by simp [cat_i, cat_l, cat_rf]) dX11_step_39 ?_
      cases h
      exact g_iret o hr hE dX11_step_42
  · have h := (if_pos z).symm.trans h
    refine g_aload_n o dX11_step_17 1 rfl ?_
    refine g_iload_n o dX11_step_18 2 rfl ?_
    refine g_bipush (v := (6 : Int32)) o dX11_step_19 (by decide) ?_
    obtain ⟨x23, e24, h⟩ := ob h
    refine g_invV0 o (rc_self hk0) (by decide) ml_X11_58 kb_X11_refuseAt kv_X11_refuseAt rfl (c_X11_refuseAt (cq X) (cD X) (cY X) (cB X) (d := d) (by omega) (rc_at (rc_self hk0)).2 e24) rfl rfl (by simp [cat_i, cat_l, cat_rf]) dX11_step_21 ?_
    cases h
    exact g_iret o hr hE dX11_step_24
theorem c_X11_step (l : Launch) (D : va_G) (Y : Nat → ClassId) (B : Nat) {d : Nat} {n : Nat} {K L : Nat → Nat} {M : Mm} {a0 : Nat} {v1 : Int32} {v2 : Int32} {v3 : Int32} {r : (Int32 × Mm)} (hd : 4 ≤ d) (hk0 : K a0 = 11) (h : f_X11_step K L a0 v1 v2 v3 M = some r) : mC l D Y B d yX11_step cX11_step 6 (some .int) [va_rf (some a0), .int v1, .int v2, .int v3] n K L M n K L r.2 (some (.int r.1)) 0 0 := by
  obtain ⟨d, rfl⟩ : ∃ e, d = e + 1 := ⟨d - 1, by omega⟩
  refine mk_met (by decide) (by simp [lgs_r, lgs_i, lgs_l, lgs_n]) (fun X e1 e2 e3 e4 o hL hr hnm hz hc hs hE => ?_)
  subst e1 e2 e3 e4
  rw [show lv_args 0 [va_rf (some a0), .int v1, .int v2, .int v3] = [(0, va_rf (some a0)), (1, .int v1), (2, .int v2), (3, .int v3)] by simp [lva_r, lva_i, lva_l, lva_n]]
  exact w_X11_step_0 o hL hr hz hk0 hE hd h
def f_X11_refuseAtEither (K L : Nat → Nat) (a0 : Nat) (v1 : Int32) (v2 : Int32) (v3 : Int32) (M : Mm) : Option (Int32 × Mm) :=
  Option.bind (rc K (mm_R M (32 * 11 + 0) a0) 8) (fun a1 =>
  Option.bind (f_X8_faultAt K L M a1 v1 v3) (fun x3 =>
  Option.bind (f_X8_faultAt K L M a1 v2 v3) (fun x5 =>
  Option.bind (f_X11_firstFault x3 x5) (fun x7 =>
  Option.bind (f_X11_refuse K L a0 x7 M) (fun x9 =>
  some (x9.1, x9.2))))))
set_option maxHeartbeats 4000000 in
theorem w_X11_refuseAtEither_0 {X : Cx} {d n : Nat} {K L : Nat → Nat} {a0 : Nat} {r : (Int32 × Mm)} {v1 : Int32} {v2 : Int32} {v3 : Int32} {M : Mm} (o : cOk X cX11_refuseAtEither RX11 (d + 1)) (hL : cL X = 4) (hr : (ch X).sig.returnType = some .int) (hz : (cs X).heap.size + 0 = cB X + n) (hk0 : K a0 = 11) (hE : cE X n K L r.2 (some (.int r.1)) 0 0) (hd : 3 ≤ d + 1) (h : f_X11_refuseAtEither K L a0 v1 v2 v3 M = some r) : gW X 0 0 n K L M 0 [(0, va_rf (some a0)), (1, .int v1), (2, .int v2), (3, .int v3)] [] := by
  unfold f_X11_refuseAtEither at h
  refine g_aload_n o dX11_refuseAtEither_0 0 rfl ?_
  refine g_aload_n o dX11_refuseAtEither_1 0 rfl ?_
  refine g_getR o fl_X11_10 (rc_self hk0) (by decide) rfl dX11_refuseAtEither_2 ?_
  refine g_iload_n o dX11_refuseAtEither_5 1 rfl ?_
  refine g_iload_n o dX11_refuseAtEither_6 3 rfl ?_
  obtain ⟨a1, e2, h⟩ := ob h
  obtain ⟨x3, e4, h⟩ := ob h
  refine g_invV0 o e2 (by decide) ml_X11_363 kb_X8_faultAt kv_X8_faultAt rfl (c_X8_faultAt (cq X) (cD X) (cY X) (cB X) (d := d) (by omega) (rc_at e2).2 e4) rfl rfl (by simp [cat_i, cat_l, cat_rf]) dX11_refuseAtEither_7 ?_
  refine g_aload_n o dX11_refuseAtEither_10 0 rfl ?_
  refine g_getR o fl_X11_10 (rc_self hk0) (by decide) rfl dX11_refuseAtEither_11 ?_
  refine g_iload_n o dX11_refuseAtEither_14 2 rfl ?_
  refine g_iload_n o dX11_refuseAtEither_15 3 rfl ?_
  obtain ⟨x5, e6, h⟩ := ob h
  refine g_invV0 o e2 (by decide) ml_X11_363 kb_X8_faultAt kv_X8_faultAt rfl (c_X8_faultAt (cq X) (cD X) (cY X) (cB X) (d := d) (by omega) (rc_at e2).2 e6) rfl rfl (by simp [cat_i, cat_l, cat_rf]) dX11_refuseAtEither_16 ?_
  obtain ⟨x7, e8, h⟩ := ob h
  refine g_invS0 o ml_X11_366 kb_X11_firstFault ks_X11_firstFault (c_X11_firstFault (cq X) (cD X) (cY X) (cB X) (d := d) (by omega) e8) rfl rfl (by simp [cat_i, cat_l, cat_rf]) dX11_refuseAtEither_19 ?_
  obtain ⟨x9, e10, h⟩ := ob h
  refine g_invV0 o (rc_self hk0) (by decide) ml_X11_46 kb_X11_refuse kv_X11_refuse rfl (c_X11_refuse (cq X) (cD X) (cY X) (cB X) (d := d) (by omega) (rc_at (rc_self hk0)).2 e10) rfl rfl (by simp [cat_i, cat_l, cat_rf]) dX11_refuseAtEither_22 ?_
  cases h
  exact g_iret o hr hE dX11_refuseAtEither_25
theorem c_X11_refuseAtEither (l : Launch) (D : va_G) (Y : Nat → ClassId) (B : Nat) {d : Nat} {n : Nat} {K L : Nat → Nat} {M : Mm} {a0 : Nat} {v1 : Int32} {v2 : Int32} {v3 : Int32} {r : (Int32 × Mm)} (hd : 3 ≤ d) (hk0 : K a0 = 11) (h : f_X11_refuseAtEither K L a0 v1 v2 v3 M = some r) : mC l D Y B d yX11_refuseAtEither cX11_refuseAtEither 4 (some .int) [va_rf (some a0), .int v1, .int v2, .int v3] n K L M n K L r.2 (some (.int r.1)) 0 0 := by
  obtain ⟨d, rfl⟩ : ∃ e, d = e + 1 := ⟨d - 1, by omega⟩
  refine mk_met (by decide) (by simp [lgs_r, lgs_i, lgs_l, lgs_n]) (fun X e1 e2 e3 e4 o hL hr hnm hz hc hs hE => ?_)
  subst e1 e2 e3 e4
  rw [show lv_args 0 [va_rf (some a0), .int v1, .int v2, .int v3] = [(0, va_rf (some a0)), (1, .int v1), (2, .int v2), (3, .int v3)] by simp [lva_r, lva_i, lva_l, lva_n]]
  exact w_X11_refuseAtEither_0 o hL hr hz hk0 hE hd h
def f_X11_copy_119 (K L : Nat → Nat) (a0 : Nat) (M : Mm) : Option (Int32 × Mm) :=
  Option.bind (f_X11_refuse K L a0 (-6 : Int32) M) (fun x1 =>
  some (x1.1, x1.2))
set_option maxHeartbeats 4000000 in
theorem w_X11_copy_119 {X : Cx} {d n : Nat} {K L : Nat → Nat} {a0 : Nat} {r : (Int32 × Mm)} {M : Mm} (o : cOk X cX11_copy RX11 (d + 1)) (hL : cL X = 8) (hr : (ch X).sig.returnType = some .int) (hz : (cs X).heap.size + 0 = cB X + n) (hk0 : K a0 = 11) (hE : cE X n K L r.2 (some (.int r.1)) 0 0) (hd : 4 ≤ d + 1) (h : f_X11_copy_119 K L a0  M = some r) : gW X 0 0 n K L M 119 [(0, va_rf (some a0))] [] := by
  unfold f_X11_copy_119 at h
  refine g_aload_n o dX11_copy_119 0 rfl ?_
  refine g_bipush (v := (-6 : Int32)) o dX11_copy_120 (by decide) ?_
  obtain ⟨x1, e2, h⟩ := ob h
  refine g_invV0 o (rc_self hk0) (by decide) ml_X11_46 kb_X11_refuse kv_X11_refuse rfl (c_X11_refuse (cq X) (cD X) (cY X) (cB X) (d := d) (by omega) (rc_at (rc_self hk0)).2 e2) rfl rfl (by simp [cat_i, cat_l, cat_rf]) dX11_copy_122 ?_
  cases h
  exact g_iret o hr hE dX11_copy_125
def f_X11_copy_65 (K L : Nat → Nat) (a0 : Nat) (M : Mm) : Option (Int32 × Mm) :=
  Option.bind (f_X11_refuse K L a0 (-2 : Int32) M) (fun x1 =>
  some (x1.1, x1.2))
set_option maxHeartbeats 4000000 in
theorem w_X11_copy_65 {X : Cx} {d n : Nat} {K L : Nat → Nat} {a0 : Nat} {r : (Int32 × Mm)} {M : Mm} (o : cOk X cX11_copy RX11 (d + 1)) (hL : cL X = 8) (hr : (ch X).sig.returnType = some .int) (hz : (cs X).heap.size + 0 = cB X + n) (hk0 : K a0 = 11) (hE : cE X n K L r.2 (some (.int r.1)) 0 0) (hd : 4 ≤ d + 1) (h : f_X11_copy_65 K L a0  M = some r) : gW X 0 0 n K L M 65 [(0, va_rf (some a0))] [] := by
  unfold f_X11_copy_65 at h
  refine g_aload_n o dX11_copy_65 0 rfl ?_
  refine g_bipush (v := (-2 : Int32)) o dX11_copy_66 (by decide) ?_
  obtain ⟨x1, e2, h⟩ := ob h
  refine g_invV0 o (rc_self hk0) (by decide) ml_X11_46 kb_X11_refuse kv_X11_refuse rfl (c_X11_refuse (cq X) (cD X) (cY X) (cB X) (d := d) (by omega) (rc_at (rc_self hk0)).2 e2) rfl rfl (by simp [cat_i, cat_l, cat_rf]) dX11_copy_68 ?_
  cases h
  exact g_iret o hr hE dX11_copy_71
def f_X11_copy_34 (K L : Nat → Nat) (a0 : Nat) (v1 : Int32) (v3 : Int32) (M : Mm) : Option (Int32 × Mm) :=
  Option.bind (f_X11_refuseAtEither K L a0 v1 v3 (6 : Int32) M) (fun x1 =>
  some (x1.1, x1.2))
set_option maxHeartbeats 4000000 in
theorem w_X11_copy_34 {X : Cx} {d n : Nat} {K L : Nat → Nat} {a0 : Nat} {r : (Int32 × Mm)} {v1 : Int32} {v3 : Int32} {M : Mm} (o : cOk X cX11_copy RX11 (d + 1)) (hL : cL X = 8) (hr : (ch X).sig.returnType = some .int) (hz : (cs X).heap.size + 0 = cB X + n) (hk0 : K a0 = 11) (hE : cE X n K L r.2 (some (.int r.1)) 0 0) (hd : 4 ≤ d + 1) (h : f_X11_copy_34 K L a0 v1 v3 M = some r) : gW X 0 0 n K L M 34 [(0, va_rf (some a0)), (1, .int v1), (3, .int v3)] [] := by
  unfold f_X11_copy_34 at h
  refine g_aload_n o dX11_copy_34 0 rfl ?_
  refine g_iload_n o dX11_copy_35 1 rfl ?_
  refine g_iload_n o dX11_copy_36 2 rfl ?_
  refine g_bipush (v := (6 : Int32)) o dX11_copy_37 (by decide) ?_
  obtain ⟨x1, e2, h⟩ := ob h
  refine g_invV0 o (rc_self hk0) (by decide) ml_X11_220 kb_X11_refuseAtEither kv_X11_refuseAtEither rfl (c_X11_refuseAtEither (cq X) (cD X) (cY X) (cB X) (d := d) (by omega) (rc_at (rc_self hk0)).2 e2) rfl rfl (by simp [cat_i, cat_l, cat_rf]) dX11_copy_39 ?_
  cases h
  exact g_iret o hr hE dX11_copy_42
def f_X11_copy (K L : Nat → Nat) (a0 : Nat) (v1 : Int32) (v2 : Int32) (v3 : Int32) (v4 : Int32) (v5 : Int32) (M : Mm) : Option (Int32 × Mm) :=
  Option.bind (rc K (mm_R M (32 * 11 + 0) a0) 8) (fun a1 =>
  Option.bind (f_X8_find K L M a1 v1 (6 : Int32)) (fun x3 =>
  Option.bind (f_X8_find K L M a1 v3 (6 : Int32)) (fun x5 =>
  if x3 = none then
    f_X11_copy_34 K L a0 v1 v3 M
  else
    if x5 = none then
      f_X11_copy_34 K L a0 v1 v3 M
    else
      Option.bind (rc K x3 9) (fun a7 =>
      Option.bind (rc K (mm_R M (32 * 9 + 9) a7) 3) (fun a9 =>
      Option.bind (f_X3_hasRow K L M a9) (fun x11 =>
      if x11 = 0 then
        f_X11_copy_65 K L a0 M
      else
        Option.bind (rc K x5 9) (fun a13 =>
        Option.bind (rc K (mm_R M (32 * 9 + 9) a13) 3) (fun a15 =>
        Option.bind (f_X3_hasRow K L M a15) (fun x17 =>
        if x17 = 0 then
          f_X11_copy_65 K L a0 M
        else
          Option.bind (f_X3_isStoodOn K L M a15) (fun x19 =>
          if x19 = 0 then
            Option.bind (f_X3_hasSteps K L M a9 v2 v5) (fun x21 =>
            if x21 = 0 then
              f_X11_copy_119 K L a0 M
            else
              Option.bind (f_X3_hasSteps K L M a15 v4 v5) (fun x23 =>
              if x23 = 0 then
                f_X11_copy_119 K L a0 M
              else
                Option.bind (f_X3_copySteps K L a15 (mm_R M (32 * 9 + 9) a7) v2 v4 v5 M) (fun x25 =>
                some (v5, x25))))
          else
            Option.bind (f_X11_refuse K L a0 (-12 : Int32) M) (fun x27 =>
            some (x27.1, x27.2))))))))))))
set_option maxHeartbeats 4000000 in
theorem w_X11_copy_0 {X : Cx} {d n : Nat} {K L : Nat → Nat} {a0 : Nat} {r : (Int32 × Mm)} {v1 : Int32} {v2 : Int32} {v3 : Int32} {v4 : Int32} {v5 : Int32} {M : Mm} (o : cOk X cX11_copy RX11 (d + 1)) (hL : cL X = 8) (hr : (ch X).sig.returnType = some .int) (hz : (cs X).heap.size + 0 = cB X + n) (hk0 : K a0 = 11) (hE : cE X n K L r.2 (some (.int r.1)) 0 0) (hd : 4 ≤ d + 1) (h : f_X11_copy K L a0 v1 v2 v3 v4 v5 M = some r) : gW X 0 0 n K L M 0 [(0, va_rf (some a0)), (1, .int v1), (2, .int v2), (3, .int v3), (4, .int v4), (5, .int v5)] [] := by
  unfold f_X11_copy at h
  refine g_aload_n o dX11_copy_0 0 rfl ?_
  refine g_getR o fl_X11_10 (rc_self hk0) (by decide) rfl dX11_copy_1 ?_
  refine g_iload_n o dX11_copy_4 1 rfl ?_
  refine g_bipush (v := (6 : Int32)) o dX11_copy_5 (by decide) ?_
  obtain ⟨a1, e2, h⟩ := ob h
  obtain ⟨x3, e4, h⟩ := ob h
  refine g_invV0 o e2 (by decide) ml_X11_54 kb_X8_find kv_X8_find rfl (c_X8_find (cq X) (cD X) (cY X) (cB X) (d := d) (by omega) (rc_at e2).2 e4) rfl rfl (by simp [cat_i, cat_l, cat_rf]) dX11_copy_7 ?_
  refine g_astore (i := 6) (ls' := [(6, va_rf x3), (0, va_rf (some a0)), (1, .int v1), (2, .int v2), (3, .int v3), (4, .int v4), (5, .int v5)]) o dX11_copy_10 (ltL hL (by decide)) rfl ?_
  refine g_aload_n o dX11_copy_12 1 rfl ?_
  refine g_getR o fl_X11_10 (rc_self hk0) (by decide) rfl dX11_copy_13 ?_
  refine g_iload_n o dX11_copy_16 4 rfl ?_
  refine g_bipush (v := (6 : Int32)) o dX11_copy_17 (by decide) ?_
  obtain ⟨x5, e6, h⟩ := ob h
  refine g_invV0 o e2 (by decide) ml_X11_54 kb_X8_find kv_X8_find rfl (c_X8_find (cq X) (cD X) (cY X) (cB X) (d := d) (by omega) (rc_at e2).2 e6) rfl rfl (by simp [cat_i, cat_l, cat_rf]) dX11_copy_19 ?_
  refine g_astore (i := 7) (ls' := [(7, va_rf x5), (6, va_rf x3), (0, va_rf (some a0)), (1, .int v1), (2, .int v2), (3, .int v3), (4, .int v4), (5, .int v5)]) o dX11_copy_22 (ltL hL (by decide)) (by simp [cat_rf]) ?_
  refine g_aload o dX11_copy_24 1 rfl ?_
  refine g_ifnull (tgt := 34) o dX11_copy_26 (by decide) (fun z => ?_) (fun z => ?_)
  · have h := (if_pos z).symm.trans h
    refine gsub [2, 3, 5] rfl ?_
    exact w_X11_copy_34 o hL hr hz hk0 hE hd h
  · have h := (if_neg z).symm.trans h
    refine g_aload o dX11_copy_29 0 rfl ?_
    refine g_ifnonnull (tgt := 43) o dX11_copy_31 (by decide) (fun z => ?_) (fun z => ?_)
    · have h := (if_neg z).symm.trans h
      refine g_aload o dX11_copy_43 1 rfl ?_
      obtain ⟨a7, e8, h⟩ := ob h
      refine g_getR o fl_X11_142 e8 (by decide) rfl dX11_copy_45 ?_
      obtain ⟨a9, e10, h⟩ := ob h
      obtain ⟨x11, e12, h⟩ := ob h
      refine g_invV0 o e10 (by decide) ml_X11_205 kb_X3_hasRow kv_X3_hasRow rfl (c_X3_hasRow (cq X) (cD X) (cY X) (cB X) (d := d) (by omega) (rc_at e10).2 e12) rfl rfl (by simp [cat_i, cat_l, cat_rf]) dX11_copy_48 ?_
      refine g_if_eq (tgt := 65) o dX11_copy_51 (by decide) (fun z => ?_) (fun z => ?_)
      · have h := (if_pos z).symm.trans h
        refine gsub [2] rfl ?_
        exact w_X11_copy_65 o hL hr hz hk0 hE hd h
      · have h := (if_neg z).symm.trans h
        refine g_aload o dX11_copy_54 0 rfl ?_
        obtain ⟨a13, e14, h⟩ := ob h
        refine g_getR o fl_X11_142 e14 (by decide) rfl dX11_copy_56 ?_
        obtain ⟨a15, e16, h⟩ := ob h
        obtain ⟨x17, e18, h⟩ := ob h
        refine g_invV0 o e16 (by decide) ml_X11_205 kb_X3_hasRow kv_X3_hasRow rfl (c_X3_hasRow (cq X) (cD X) (cY X) (cB X) (d := d) (by omega) (rc_at e16).2 e18) rfl rfl (by simp [cat_i, cat_l, cat_rf]) dX11_copy_59 ?_
        refine g_if_ne (tgt := 72) o dX11_copy_62 (by decide) (fun z => ?_) (fun z => ?_)
        · have h := (if_neg z).symm.trans h
          refine g_aload o dX11_copy_72 0 rfl ?_
          refine g_getR o fl_X11_142 e14 (by decide) rfl dX11_copy_74 ?_
          obtain ⟨x19, e20, h⟩ := ob h
          refine g_invV0 o e16 (by decide) ml_X11_146 kb_X3_isStoodOn kv_X3_isStoodOn rfl (c_X3_isStoodOn (cq X) (cD X) (cY X) (cB X) (d := d) (by omega) (rc_at e16).2 e20) rfl rfl (by simp [cat_i, cat_l, cat_rf]) dX11_copy_77 ?_
          refine g_if_eq (tgt := 90) o dX11_copy_80 (by decide) (fun z => ?_) (fun z => ?_)
          · have h := (if_pos z).symm.trans h
            refine g_aload o dX11_copy_90 1 rfl ?_
            refine g_getR o fl_X11_142 e8 (by decide) rfl dX11_copy_92 ?_
            refine g_iload_n o dX11_copy_95 4 rfl ?_
            refine g_iload o dX11_copy_96 7 rfl ?_
            obtain ⟨x21, e22, h⟩ := ob h
            refine g_invV0 o e10 (by decide) ml_X11_224 kb_X3_hasSteps kv_X3_hasSteps rfl (c_X3_hasSteps (cq X) (cD X) (cY X) (cB X) (d := d) (by omega) (rc_at e10).2 e22) rfl rfl (by simp [cat_i, cat_l, cat_rf]) dX11_copy_98 ?_
            refine g_if_eq (tgt := 119) o dX11_copy_101 (by decide) (fun z => ?_) (fun z => ?_)
            · have h := (if_pos z).symm.trans h
              refine gsub [2] rfl ?_
              exact w_X11_copy_119 o hL hr hz hk0 hE hd h
            · have h := (if_neg z).symm.trans h
              refine g_aload o dX11_copy_104 0 rfl ?_
              refine g_getR o fl_X11_142 e14 (by decide) rfl dX11_copy_106 ?_
              refine g_iload o dX11_copy_109 6 rfl ?_
              refine g_iload o dX11_copy_111 7 rfl ?_
              obtain ⟨x23, e24, h⟩ := ob h
              refine g_invV0 o e16 (by decide) ml_X11_224 kb_X3_hasSteps kv_X3_hasSteps rfl (c_X3_hasSteps (cq X) (cD X) (cY X) (cB X) (d := d) (by omega) (rc_at e16).2 e24) rfl rfl (by simp [cat_i, cat_l, cat_rf]) dX11_copy_113 ?_
              refine g_if_ne (tgt := 126) o dX11_copy_116 (by decide) (fun z => ?_) (fun z => ?_)
              · have h := (if_neg z).symm.trans h
                refine g_aload o dX11_copy_126 0 rfl ?_
                refine g_getR o fl_X11_142 e14 (by decide) rfl dX11_copy_128 ?_
                refine g_aload o dX11_copy_131 1 rfl ?_
                refine g_getR o fl_X11_142 e8 (by decide) rfl dX11_copy_133 ?_
                refine g_iload_n o dX11_copy_136 4 rfl ?_
                refine g_iload o dX11_copy_137 6 rfl ?_
                refine g_iload o dX11_copy_139 7 rfl ?_
                obtain ⟨x25, e26, h⟩ := ob h
                refine g_invV0 o e16 (by decide) ml_X11_227 kb_X3_copySteps kv_X3_copySteps rfl (c_X3_copySteps (cq X) (cD X) (cY X) (cB X) (d := d) (by omega) (rc_at e16).2 e26) rfl rfl (by simp [cat_i, cat_l, cat_rf]) dX11_copy_141 ?_
                refine g_iload o dX11_copy_144 7 rfl ?_
                cases h
                exact g_iret o hr hE dX11_copy_146
              · have h := (if_pos z).symm.trans h
                refine gsub [2] rfl ?_
                exact w_X11_copy_119 o hL hr hz hk0 hE hd h
          · have h := (if_neg z).symm.trans h
            refine g_aload_n o dX11_copy_83 2 rfl ?_
            refine g_bipush (v := (-12 : Int32)) o dX11_copy_84 (by decide) ?_
            obtain ⟨x27, e28, h⟩ := ob h
            refine g_invV0 o (rc_self hk0) (by decide) ml_X11_46 kb_X11_refuse kv_X11_refuse rfl (c_X11_refuse (cq X) (cD X) (cY X) (cB X) (d := d) (by omega) (rc_at (rc_self hk0)).2 e28) rfl rfl (by simp [cat_i, cat_l, cat_rf]) dX11_copy_86 ?_
            cases h
            exact g_iret o hr hE dX11_copy_89
        · have h := (if_pos z).symm.trans h
          refine gsub [2] rfl ?_
          exact w_X11_copy_65 o hL hr hz hk0 hE hd h
    · have h := (if_pos z).symm.trans h
      refine gsub [2, 3, 5] rfl ?_
      exact w_X11_copy_34 o hL hr hz hk0 hE hd h
theorem c_X11_copy (l : Launch) (D : va_G) (Y : Nat → ClassId) (B : Nat) {d : Nat} {n : Nat} {K L : Nat → Nat} {M : Mm} {a0 : Nat} {v1 : Int32} {v2 : Int32} {v3 : Int32} {v4 : Int32} {v5 : Int32} {r : (Int32 × Mm)} (hd : 4 ≤ d) (hk0 : K a0 = 11) (h : f_X11_copy K L a0 v1 v2 v3 v4 v5 M = some r) : mC l D Y B d yX11_copy cX11_copy 8 (some .int) [va_rf (some a0), .int v1, .int v2, .int v3, .int v4, .int v5] n K L M n K L r.2 (some (.int r.1)) 0 0 := by
  obtain ⟨d, rfl⟩ : ∃ e, d = e + 1 := ⟨d - 1, by omega⟩
  refine mk_met (by decide) (by simp [lgs_r, lgs_i, lgs_l, lgs_n]) (fun X e1 e2 e3 e4 o hL hr hnm hz hc hs hE => ?_)
  subst e1 e2 e3 e4
  rw [show lv_args 0 [va_rf (some a0), .int v1, .int v2, .int v3, .int v4, .int v5] = [(0, va_rf (some a0)), (1, .int v1), (2, .int v2), (3, .int v3), (4, .int v4), (5, .int v5)] by simp [lva_r, lva_i, lva_l, lva_n]]
  exact w_X11_copy_0 o hL hr hz hk0 hE hd h
