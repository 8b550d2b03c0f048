/-! the methods that make cells -/
def mon (a b : Nat) : Option Unit := if a ≤ b then some () else none
theorem mon_at {a b : Nat} {u : Unit} (h : mon a b = some u) : a ≤ b := by
  unfold mon at h
  split at h
  · assumption
  · cases h
theorem g_shp {X : Cx} {k1 k2 n pc : Nat} {K L K' L' : Nat → Nat} {M M' : Mm} {ls : List (Nat × Value)} {st : List Value} (h1 : K' = K) (h2 : L' = L) (h3 : M' = M) (k : gW X k1 k2 n K' L' M' pc ls st) : gW X k1 k2 n K L M pc ls st := by
  subst h1 h2 h3
  exact k
theorem g_nrm {X : Cx} {k1 k2 n k1' k2' n' pc : Nat} {K L : Nat → Nat} {M : Mm} {ls : List (Nat × Value)} {st : List Value} (h1 : k1' = k1) (h2 : k2' = k2) (h3 : n' = n) (k : gW X k1 k2 n K L M pc ls st) : gW X k1' k2' n' K L M pc ls st := by
  subst h1 h2 h3
  exact k
theorem g_wid {X : Cx} {k1 k2 k1' k2' n pc : Nat} {K L : Nat → Nat} {M : Mm} {ls : List (Nat × Value)} {st : List Value} (h1 : k1' ≤ k1) (h2 : k2' ≤ k2) (k : gW X k1 k2 n K L M pc ls st) : gW X k1' k2' n K L M pc ls st := fun H locs ar a1 a2 a3 => W.widen h1 h2 (k H locs ar a1 a2 a3)
def f_X1_init (B n : Nat) (a0 : Nat) (K L : Nat → Nat) (M : Mm) : Option ((Nat → Nat) × (Nat → Nat) × Mm) :=
  bn (va_up K (B + n) 13) (fun K1 =>
  bn (va_up L (B + n) 16) (fun L3 =>
  bn (mz M (B + n)) (fun M5 =>
  Option.bind (rc K1 (some a0) 1) (fun a7 =>
  bn (ms_R M5 (32 * 1 + 7) a7 (some (B + n))) (fun M9 =>
  some (K1, L3, M9))))))
set_option maxHeartbeats 8000000 in
set_option maxRecDepth 20000 in
theorem w_X1_init_0 {X : Cx} {d : Nat} {n : Nat} {K L : Nat → Nat} {M : Mm} {a0 : Nat} {r : ((Nat → Nat) × (Nat → Nat) × Mm)} (o : cOk X cX1_init RX1 d) (hL : cL X = 1) (hr : (ch X).sig.returnType = none) (hnm : (ch X).name = yX1_init.name) (hz : (cs X).heap.size + 0 = cB X + n) (hk0 : K a0 = 1) (hc : (cR X).cells = 1) (hs : (cR X).slots = 16) (hE : cE X (n + 1) r.1 r.2.1 r.2.2 none 1 16) (hd : 1 ≤ d) (h : f_X1_init (cB X)  n a0  K L M = some r) : gW X 0 0 n K L M 0 [(0, va_rf (some a0))] [] := by
  unfold f_X1_init at h
  obtain ⟨K1, e2, h⟩ := bn_at h
  obtain ⟨L3, e4, h⟩ := bn_at h
  obtain ⟨M5, e6, h⟩ := bn_at h
  obtain ⟨a7, e8, h⟩ := ob h
  obtain ⟨M9, e10, h⟩ := bn_at h
  cases h
  dsimp only at hc hs hE
  refine g_aload_n o dX1_init_0 0 rfl ?_
  refine g_objInit o (by omega) ml_X1_3 (by simp [cat_i, cat_l, cat_rf]) dX1_init_1 ?_
  refine g_aload_n o dX1_init_4 0 rfl ?_
  refine g_bipush (v := (16 : Int32)) o dX1_init_5 (by decide) ?_
  refine g_newI (z := 16) o hz (by decide) (by omega) (by omega) dX1_init_7 ?_
  refine g_shp e2 e4 e6 ?_
  refine g_nrm (k1 := 1) (k2 := 16) (n := n + 1) rfl rfl rfl ?_
  refine g_putFR o (by omega) hnm fl_X1_9 e8 (by decide) rfl rfl rfl rfl dX1_init_9 ?_
  refine g_mem e10 ?_
  exact g_vret o hr hE dX1_init_12
theorem c_X1_init (l : Launch) (D : va_G) (Y : Nat → ClassId) (B : Nat) {d : Nat} {n : Nat} {K L : Nat → Nat} {M : Mm} {a0 : Nat} {r : ((Nat → Nat) × (Nat → Nat) × Mm)} (hd : 1 ≤ d) (hk0 : K a0 = 1) (h : f_X1_init B  n a0  K L M = some r) : mC l D Y B d yX1_init cX1_init 1 (none) [va_rf (some a0)] n K L M (n + 1) r.1 r.2.1 r.2.2 none 1 16 := by
  refine mk_met (by decide) (by simp [lgs_r, lgs_i, lgs_l, lgs_n]) (fun X e1 e2 e3 e4 o hL hr hnm hz hc hs hE => ?_)
  subst e1 e2 e3 e4
  rw [show lv_args 0 [va_rf (some a0)] = [(0, va_rf (some a0))] by simp [lva_r, lva_i, lva_l, lva_n]]
  exact w_X1_init_0 o hL hr hnm hz hk0 hc hs hE hd h
def f_X2_init (B n : Nat) (a0 : Nat) (K L : Nat → Nat) (M : Mm) : Option ((Nat → Nat) × (Nat → Nat) × Mm) :=
  bn (va_up K (B + n) 13) (fun K1 =>
  bn (va_up L (B + n) 240) (fun L3 =>
  bn (mz M (B + n)) (fun M5 =>
  Option.bind (rc K1 (some a0) 2) (fun a7 =>
  bn (ms_R M5 (32 * 2 + 2) a7 (some (B + n))) (fun M9 =>
  bn (va_up K1 (B + (n + 1)) 13) (fun K11 =>
  bn (va_up L3 (B + (n + 1)) 240) (fun L13 =>
  bn (mz M9 (B + (n + 1))) (fun M15 =>
  Option.bind (rc K11 (some a0) 2) (fun a17 =>
  bn (ms_R M15 (32 * 2 + 3) a17 (some (B + (n + 1)))) (fun M19 =>
  bn (va_up K11 (B + (n + 2)) 13) (fun K21 =>
  bn (va_up L13 (B + (n + 2)) 240) (fun L23 =>
  bn (mz M19 (B + (n + 2))) (fun M25 =>
  Option.bind (rc K21 (some a0) 2) (fun a27 =>
  bn (ms_R M25 (32 * 2 + 4) a27 (some (B + (n + 2)))) (fun M29 =>
  some (K21, L23, M29))))))))))))))))
set_option maxHeartbeats 8000000 in
set_option maxRecDepth 20000 in
theorem w_X2_init_0 {X : Cx} {d : Nat} {n : Nat} {K L : Nat → Nat} {M : Mm} {a0 : Nat} {r : ((Nat → Nat) × (Nat → Nat) × Mm)} (o : cOk X cX2_init RX2 d) (hL : cL X = 1) (hr : (ch X).sig.returnType = none) (hnm : (ch X).name = yX2_init.name) (hz : (cs X).heap.size + 0 = cB X + n) (hk0 : K a0 = 2) (hc : (cR X).cells = 3) (hs : (cR X).slots = 720) (hE : cE X (n + 3) r.1 r.2.1 r.2.2 none 3 720) (hd : 1 ≤ d) (h : f_X2_init (cB X)  n a0  K L M = some r) : gW X 0 0 n K L M 0 [(0, va_rf (some a0))] [] := by
  unfold f_X2_init at h
  obtain ⟨K1, e2, h⟩ := bn_at h
  obtain ⟨L3, e4, h⟩ := bn_at h
  obtain ⟨M5, e6, h⟩ := bn_at h
  obtain ⟨a7, e8, h⟩ := ob h
  obtain ⟨M9, e10, h⟩ := bn_at h
  obtain ⟨K11, e12, h⟩ := bn_at h
  obtain ⟨L13, e14, h⟩ := bn_at h
  obtain ⟨M15, e16, h⟩ := bn_at h
  obtain ⟨a17, e18, h⟩ := ob h
  obtain ⟨M19, e20, h⟩ := bn_at h
  obtain ⟨K21, e22, h⟩ := bn_at h
  obtain ⟨L23, e24, h⟩ := bn_at h
  obtain ⟨M25, e26, h⟩ := bn_at h
  obtain ⟨a27, e28, h⟩ := ob h
  obtain ⟨M29, e30, h⟩ := bn_at h
  cases h
  dsimp only at hc hs hE
  refine g_aload_n o dX2_init_0 0 rfl ?_
  refine g_objInit o (by omega) ml_X2_3 (by simp [cat_i, cat_l, cat_rf]) dX2_init_1 ?_
  refine g_aload_n o dX2_init_4 0 rfl ?_
  refine g_sipush (v := (240 : Int32)) o dX2_init_5 (by decide) ?_
  refine g_newI (z := 240) o hz (by decide) (by omega) (by omega) dX2_init_8 ?_
  refine g_shp e2 e4 e6 ?_
  refine g_nrm (k1 := 1) (k2 := 240) (n := n + 1) rfl rfl rfl ?_
  refine g_putFR o (by omega) hnm fl_X2_9 e8 (by decide) rfl rfl rfl rfl dX2_init_10 ?_
  refine g_mem e10 ?_
  refine g_aload_n o dX2_init_13 0 rfl ?_
  refine g_sipush (v := (240 : Int32)) o dX2_init_14 (by decide) ?_
  refine g_newI (z := 240) o (by omega) (by decide) (by omega) (by omega) dX2_init_17 ?_
  refine g_shp e12 e14 e16 ?_
  refine g_nrm (k1 := 2) (k2 := 480) (n := n + 2) rfl rfl rfl ?_
  refine g_putFR o (by omega) hnm fl_X2_15 e18 (by decide) rfl rfl rfl rfl dX2_init_19 ?_
  refine g_mem e20 ?_
  refine g_aload_n o dX2_init_22 0 rfl ?_
  refine g_sipush (v := (240 : Int32)) o dX2_init_23 (by decide) ?_
  refine g_newI (z := 240) o (by omega) (by decide) (by omega) (by omega) dX2_init_26 ?_
  refine g_shp e22 e24 e26 ?_
  refine g_nrm (k1 := 3) (k2 := 720) (n := n + 3) rfl rfl rfl ?_
  refine g_putFR o (by omega) hnm fl_X2_18 e28 (by decide) rfl rfl rfl rfl dX2_init_28 ?_
  refine g_mem e30 ?_
  exact g_vret o hr hE dX2_init_31
theorem c_X2_init (l : Launch) (D : va_G) (Y : Nat → ClassId) (B : Nat) {d : Nat} {n : Nat} {K L : Nat → Nat} {M : Mm} {a0 : Nat} {r : ((Nat → Nat) × (Nat → Nat) × Mm)} (hd : 1 ≤ d) (hk0 : K a0 = 2) (h : f_X2_init B  n a0  K L M = some r) : mC l D Y B d yX2_init cX2_init 1 (none) [va_rf (some a0)] n K L M (n + 3) r.1 r.2.1 r.2.2 none 3 720 := by
  refine mk_met (by decide) (by simp [lgs_r, lgs_i, lgs_l, lgs_n]) (fun X e1 e2 e3 e4 o hL hr hnm hz hc hs hE => ?_)
  subst e1 e2 e3 e4
  rw [show lv_args 0 [va_rf (some a0)] = [(0, va_rf (some a0))] by simp [lva_r, lva_i, lva_l, lva_n]]
  exact w_X2_init_0 o hL hr hnm hz hk0 hc hs hE hd h
def f_X3_init (B n : Nat) (a0 : Nat) (K L : Nat → Nat) (M : Mm) : Option ((Nat → Nat) × (Nat → Nat) × Mm) :=
  bn (va_up K (B + n) 13) (fun K1 =>
  bn (va_up L (B + n) 20) (fun L3 =>
  bn (mz M (B + n)) (fun M5 =>
  Option.bind (rc K1 (some a0) 3) (fun a7 =>
  bn (ms_R M5 (32 * 3 + 0) a7 (some (B + n))) (fun M9 =>
  some (K1, L3, M9))))))
set_option maxHeartbeats 8000000 in
set_option maxRecDepth 20000 in
theorem w_X3_init_0 {X : Cx} {d : Nat} {n : Nat} {K L : Nat → Nat} {M : Mm} {a0 : Nat} {r : ((Nat → Nat) × (Nat → Nat) × Mm)} (o : cOk X cX3_init RX3 d) (hL : cL X = 1) (hr : (ch X).sig.returnType = none) (hnm : (ch X).name = yX3_init.name) (hz : (cs X).heap.size + 0 = cB X + n) (hk0 : K a0 = 3) (hc : (cR X).cells = 1) (hs : (cR X).slots = 20) (hE : cE X (n + 1) r.1 r.2.1 r.2.2 none 1 20) (hd : 1 ≤ d) (h : f_X3_init (cB X)  n a0  K L M = some r) : gW X 0 0 n K L M 0 [(0, va_rf (some a0))] [] := by
  unfold f_X3_init at h
  obtain ⟨K1, e2, h⟩ := bn_at h
  obtain ⟨L3, e4, h⟩ := bn_at h
  obtain ⟨M5, e6, h⟩ := bn_at h
  obtain ⟨a7, e8, h⟩ := ob h
  obtain ⟨M9, e10, h⟩ := bn_at h
  cases h
  dsimp only at hc hs hE
  refine g_aload_n o dX3_init_0 0 rfl ?_
  refine g_objInit o (by omega) ml_X3_3 (by simp [cat_i, cat_l, cat_rf]) dX3_init_1 ?_
  refine g_aload_n o dX3_init_4 0 rfl ?_
  refine g_bipush (v := (20 : Int32)) o dX3_init_5 (by decide) ?_
  refine g_newI (z := 20) o hz (by decide) (by omega) (by omega) dX3_init_7 ?_
  refine g_shp e2 e4 e6 ?_
  refine g_nrm (k1 := 1) (k2 := 20) (n := n + 1) rfl rfl rfl ?_
  refine g_putFR o (by omega) hnm fl_X3_9 e8 (by decide) rfl rfl rfl rfl dX3_init_9 ?_
  refine g_mem e10 ?_
  exact g_vret o hr hE dX3_init_12
theorem c_X3_init (l : Launch) (D : va_G) (Y : Nat → ClassId) (B : Nat) {d : Nat} {n : Nat} {K L : Nat → Nat} {M : Mm} {a0 : Nat} {r : ((Nat → Nat) × (Nat → Nat) × Mm)} (hd : 1 ≤ d) (hk0 : K a0 = 3) (h : f_X3_init B  n a0  K L M = some r) : mC l D Y B d yX3_init cX3_init 1 (none) [va_rf (some a0)] n K L M (n + 1) r.1 r.2.1 r.2.2 none 1 20 := by
  refine mk_met (by decide) (by simp [lgs_r, lgs_i, lgs_l, lgs_n]) (fun X e1 e2 e3 e4 o hL hr hnm hz hc hs hE => ?_)
  subst e1 e2 e3 e4
  rw [show lv_args 0 [va_rf (some a0)] = [(0, va_rf (some a0))] by simp [lva_r, lva_i, lva_l, lva_n]]
  exact w_X3_init_0 o hL hr hnm hz hk0 hc hs hE hd h
def f_X5_init (B n : Nat) (a0 : Nat) (K L : Nat → Nat) (M : Mm) : Option ((Nat → Nat) × (Nat → Nat) × Mm) :=
  bn (va_up K (B + n) 13) (fun K1 =>
  bn (va_up L (B + n) 16) (fun L3 =>
  bn (mz M (B + n)) (fun M5 =>
  Option.bind (rc K1 (some a0) 5) (fun a7 =>
  bn (ms_R M5 (32 * 5 + 0) a7 (some (B + n))) (fun M9 =>
  bn (va_up K1 (B + (n + 1)) 13) (fun K11 =>
  bn (va_up L3 (B + (n + 1)) 16) (fun L13 =>
  bn (mz M9 (B + (n + 1))) (fun M15 =>
  Option.bind (rc K11 (some a0) 5) (fun a17 =>
  bn (ms_R M15 (32 * 5 + 1) a17 (some (B + (n + 1)))) (fun M19 =>
  bn (va_up K11 (B + (n + 2)) 13) (fun K21 =>
  bn (va_up L13 (B + (n + 2)) 16) (fun L23 =>
  bn (mz M19 (B + (n + 2))) (fun M25 =>
  Option.bind (rc K21 (some a0) 5) (fun a27 =>
  bn (ms_R M25 (32 * 5 + 2) a27 (some (B + (n + 2)))) (fun M29 =>
  some (K21, L23, M29))))))))))))))))
set_option maxHeartbeats 8000000 in
set_option maxRecDepth 20000 in
theorem w_X5_init_0 {X : Cx} {d : Nat} {n : Nat} {K L : Nat → Nat} {M : Mm} {a0 : Nat} {r : ((Nat → Nat) × (Nat → Nat) × Mm)} (o : cOk X cX5_init RX5 d) (hL : cL X = 1) (hr : (ch X).sig.returnType = none) (hnm : (ch X).name = yX5_init.name) (hz : (cs X).heap.size + 0 = cB X + n) (hk0 : K a0 = 5) (hc : (cR X).cells = 3) (hs : (cR X).slots = 48) (hE : cE X (n + 3) r.1 r.2.1 r.2.2 none 3 48) (hd : 1 ≤ d) (h : f_X5_init (cB X)  n a0  K L M = some r) : gW X 0 0 n K L M 0 [(0, va_rf (some a0))] [] := by
  unfold f_X5_init at h
  obtain ⟨K1, e2, h⟩ := bn_at h
  obtain ⟨L3, e4, h⟩ := bn_at h
  obtain ⟨M5, e6, h⟩ := bn_at h
  obtain ⟨a7, e8, h⟩ := ob h
  obtain ⟨M9, e10, h⟩ := bn_at h
  obtain ⟨K11, e12, h⟩ := bn_at h
  obtain ⟨L13, e14, h⟩ := bn_at h
  obtain ⟨M15, e16, h⟩ := bn_at h
  obtain ⟨a17, e18, h⟩ := ob h
  obtain ⟨M19, e20, h⟩ := bn_at h
  obtain ⟨K21, e22, h⟩ := bn_at h
  obtain ⟨L23, e24, h⟩ := bn_at h
  obtain ⟨M25, e26, h⟩ := bn_at h
  obtain ⟨a27, e28, h⟩ := ob h
  obtain ⟨M29, e30, h⟩ := bn_at h
  cases h
  dsimp only at hc hs hE
  refine g_aload_n o dX5_init_0 0 rfl ?_
  refine g_objInit o (by omega) ml_X5_3 (by simp [cat_i, cat_l, cat_rf]) dX5_init_1 ?_
  refine g_aload_n o dX5_init_4 0 rfl ?_
  refine g_bipush (v := (16 : Int32)) o dX5_init_5 (by decide) ?_
  refine g_newI (z := 16) o hz (by decide) (by omega) (by omega) dX5_init_7 ?_
  refine g_shp e2 e4 e6 ?_
  refine g_nrm (k1 := 1) (k2 := 16) (n := n + 1) rfl rfl rfl ?_
  refine g_putFR o (by omega) hnm fl_X5_9 e8 (by decide) rfl rfl rfl rfl dX5_init_9 ?_
  refine g_mem e10 ?_
  refine g_aload_n o dX5_init_12 0 rfl ?_
  refine g_bipush (v := (16 : Int32)) o dX5_init_13 (by decide) ?_
  refine g_newI (z := 16) o (by omega) (by decide) (by omega) (by omega) dX5_init_15 ?_
  refine g_shp e12 e14 e16 ?_
  refine g_nrm (k1 := 2) (k2 := 32) (n := n + 2) rfl rfl rfl ?_
  refine g_putFR o (by omega) hnm fl_X5_15 e18 (by decide) rfl rfl rfl rfl dX5_init_17 ?_
  refine g_mem e20 ?_
  refine g_aload_n o dX5_init_20 0 rfl ?_
  refine g_bipush (v := (16 : Int32)) o dX5_init_21 (by decide) ?_
  refine g_newI (z := 16) o (by omega) (by decide) (by omega) (by omega) dX5_init_23 ?_
  refine g_shp e22 e24 e26 ?_
  refine g_nrm (k1 := 3) (k2 := 48) (n := n + 3) rfl rfl rfl ?_
  refine g_putFR o (by omega) hnm fl_X5_18 e28 (by decide) rfl rfl rfl rfl dX5_init_25 ?_
  refine g_mem e30 ?_
  exact g_vret o hr hE dX5_init_28
theorem c_X5_init (l : Launch) (D : va_G) (Y : Nat → ClassId) (B : Nat) {d : Nat} {n : Nat} {K L : Nat → Nat} {M : Mm} {a0 : Nat} {r : ((Nat → Nat) × (Nat → Nat) × Mm)} (hd : 1 ≤ d) (hk0 : K a0 = 5) (h : f_X5_init B  n a0  K L M = some r) : mC l D Y B d yX5_init cX5_init 1 (none) [va_rf (some a0)] n K L M (n + 3) r.1 r.2.1 r.2.2 none 3 48 := by
  refine mk_met (by decide) (by simp [lgs_r, lgs_i, lgs_l, lgs_n]) (fun X e1 e2 e3 e4 o hL hr hnm hz hc hs hE => ?_)
  subst e1 e2 e3 e4
  rw [show lv_args 0 [va_rf (some a0)] = [(0, va_rf (some a0))] by simp [lva_r, lva_i, lva_l, lva_n]]
  exact w_X5_init_0 o hL hr hnm hz hk0 hc hs hE hd h
def f_X6_init (B n : Nat) (a0 : Nat) (K L : Nat → Nat) (M : Mm) : Option ((Nat → Nat) × (Nat → Nat) × Mm) :=
  bn (va_up K (B + n) 13) (fun K1 =>
  bn (va_up L (B + n) 6) (fun L3 =>
  bn (mz M (B + n)) (fun M5 =>
  Option.bind (rc K1 (some a0) 6) (fun a7 =>
  bn (ms_R M5 (32 * 6 + 1) a7 (some (B + n))) (fun M9 =>
  bn (va_up K1 (B + (n + 1)) 13) (fun K11 =>
  bn (va_up L3 (B + (n + 1)) 6) (fun L13 =>
  bn (mz M9 (B + (n + 1))) (fun M15 =>
  Option.bind (rc K11 (some a0) 6) (fun a17 =>
  bn (ms_R M15 (32 * 6 + 2) a17 (some (B + (n + 1)))) (fun M19 =>
  bn (va_up K11 (B + (n + 2)) 13) (fun K21 =>
  bn (va_up L13 (B + (n + 2)) 6) (fun L23 =>
  bn (mz M19 (B + (n + 2))) (fun M25 =>
  Option.bind (rc K21 (some a0) 6) (fun a27 =>
  bn (ms_R M25 (32 * 6 + 3) a27 (some (B + (n + 2)))) (fun M29 =>
  bn (va_up K21 (B + (n + 3)) 13) (fun K31 =>
  bn (va_up L23 (B + (n + 3)) 6) (fun L33 =>
  bn (mz M29 (B + (n + 3))) (fun M35 =>
  Option.bind (rc K31 (some a0) 6) (fun a37 =>
  bn (ms_R M35 (32 * 6 + 4) a37 (some (B + (n + 3)))) (fun M39 =>
  some (K31, L33, M39)))))))))))))))))))))
set_option maxHeartbeats 8000000 in
set_option maxRecDepth 20000 in
theorem w_X6_init_0 {X : Cx} {d : Nat} {n : Nat} {K L : Nat → Nat} {M : Mm} {a0 : Nat} {r : ((Nat → Nat) × (Nat → Nat) × Mm)} (o : cOk X cX6_init RX6 d) (hL : cL X = 1) (hr : (ch X).sig.returnType = none) (hnm : (ch X).name = yX6_init.name) (hz : (cs X).heap.size + 0 = cB X + n) (hk0 : K a0 = 6) (hc : (cR X).cells = 4) (hs : (cR X).slots = 24) (hE : cE X (n + 4) r.1 r.2.1 r.2.2 none 4 24) (hd : 1 ≤ d) (h : f_X6_init (cB X)  n a0  K L M = some r) : gW X 0 0 n K L M 0 [(0, va_rf (some a0))] [] := by
  unfold f_X6_init at h
  obtain ⟨K1, e2, h⟩ := bn_at h
  obtain ⟨L3, e4, h⟩ := bn_at h
  obtain ⟨M5, e6, h⟩ := bn_at h
  obtain ⟨a7, e8, h⟩ := ob h
  obtain ⟨M9, e10, h⟩ := bn_at h
  obtain ⟨K11, e12, h⟩ := bn_at h
  obtain ⟨L13, e14, h⟩ := bn_at h
  obtain ⟨M15, e16, h⟩ := bn_at h
  obtain ⟨a17, e18, h⟩ := ob h
  obtain ⟨M19, e20, h⟩ := bn_at h
  obtain ⟨K21, e22, h⟩ := bn_at h
  obtain ⟨L23, e24, h⟩ := bn_at h
  obtain ⟨M25, e26, h⟩ := bn_at h
  obtain ⟨a27, e28, h⟩ := ob h
  obtain ⟨M29, e30, h⟩ := bn_at h
  obtain ⟨K31, e32, h⟩ := bn_at h
  obtain ⟨L33, e34, h⟩ := bn_at h
  obtain ⟨M35, e36, h⟩ := bn_at h
  obtain ⟨a37, e38, h⟩ := ob h
  obtain ⟨M39, e40, h⟩ := bn_at h
  cases h
  dsimp only at hc hs hE
  refine g_aload_n o dX6_init_0 0 rfl ?_
  refine g_objInit o (by omega) ml_X6_3 (by simp [cat_i, cat_l, cat_rf]) dX6_init_1 ?_
  refine g_aload_n o dX6_init_4 0 rfl ?_
  refine g_bipush (v := (6 : Int32)) o dX6_init_5 (by decide) ?_
  refine g_newI (z := 6) o hz (by decide) (by omega) (by omega) dX6_init_7 ?_
  refine g_shp e2 e4 e6 ?_
  refine g_nrm (k1 := 1) (k2 := 6) (n := n + 1) rfl rfl rfl ?_
  refine g_putFR o (by omega) hnm fl_X6_9 e8 (by decide) rfl rfl rfl rfl dX6_init_9 ?_
  refine g_mem e10 ?_
  refine g_aload_n o dX6_init_12 0 rfl ?_
  refine g_bipush (v := (6 : Int32)) o dX6_init_13 (by decide) ?_
  refine g_newI (z := 6) o (by omega) (by decide) (by omega) (by omega) dX6_init_15 ?_
  refine g_shp e12 e14 e16 ?_
  refine g_nrm (k1 := 2) (k2 := 12) (n := n + 2) rfl rfl rfl ?_
  refine g_putFR o (by omega) hnm fl_X6_15 e18 (by decide) rfl rfl rfl rfl dX6_init_17 ?_
  refine g_mem e20 ?_
  refine g_aload_n o dX6_init_20 0 rfl ?_
  refine g_bipush (v := (6 : Int32)) o dX6_init_21 (by decide) ?_
  refine g_newI (z := 6) o (by omega) (by decide) (by omega) (by omega) dX6_init_23 ?_
  refine g_shp e22 e24 e26 ?_
  refine g_nrm (k1 := 3) (k2 := 18) (n := n + 3) rfl rfl rfl ?_
  refine g_putFR o (by omega) hnm fl_X6_18 e28 (by decide) rfl rfl rfl rfl dX6_init_25 ?_
  refine g_mem e30 ?_
  refine g_aload_n o dX6_init_28 0 rfl ?_
  refine g_bipush (v := (6 : Int32)) o dX6_init_29 (by decide) ?_
  refine g_newI (z := 6) o (by omega) (by decide) (by omega) (by omega) dX6_init_31 ?_
  refine g_shp e32 e34 e36 ?_
  refine g_nrm (k1 := 4) (k2 := 24) (n := n + 4) rfl rfl rfl ?_
  refine g_putFR o (by omega) hnm fl_X6_21 e38 (by decide) rfl rfl rfl rfl dX6_init_33 ?_
  refine g_mem e40 ?_
  exact g_vret o hr hE dX6_init_36
theorem c_X6_init (l : Launch) (D : va_G) (Y : Nat → ClassId) (B : Nat) {d : Nat} {n : Nat} {K L : Nat → Nat} {M : Mm} {a0 : Nat} {r : ((Nat → Nat) × (Nat → Nat) × Mm)} (hd : 1 ≤ d) (hk0 : K a0 = 6) (h : f_X6_init B  n a0  K L M = some r) : mC l D Y B d yX6_init cX6_init 1 (none) [va_rf (some a0)] n K L M (n + 4) r.1 r.2.1 r.2.2 none 4 24 := by
  refine mk_met (by decide) (by simp [lgs_r, lgs_i, lgs_l, lgs_n]) (fun X e1 e2 e3 e4 o hL hr hnm hz hc hs hE => ?_)
  subst e1 e2 e3 e4
  rw [show lv_args 0 [va_rf (some a0)] = [(0, va_rf (some a0))] by simp [lva_r, lva_i, lva_l, lva_n]]
  exact w_X6_init_0 o hL hr hnm hz hk0 hc hs hE hd h
def f_X7_init (B n : Nat) (a0 : Nat) (K L : Nat → Nat) (M : Mm) : Option ((Nat → Nat) × (Nat → Nat) × Mm) :=
  bn (va_up K (B + n) 13) (fun K1 =>
  bn (va_up L (B + n) 8) (fun L3 =>
  bn (mz M (B + n)) (fun M5 =>
  Option.bind (rc K1 (some a0) 7) (fun a7 =>
  bn (ms_R M5 (32 * 7 + 0) a7 (some (B + n))) (fun M9 =>
  bn (va_up K1 (B + (n + 1)) 13) (fun K11 =>
  bn (va_up L3 (B + (n + 1)) 8) (fun L13 =>
  bn (mz M9 (B + (n + 1))) (fun M15 =>
  Option.bind (rc K11 (some a0) 7) (fun a17 =>
  bn (ms_R M15 (32 * 7 + 1) a17 (some (B + (n + 1)))) (fun M19 =>
  some (K11, L13, M19)))))))))))
set_option maxHeartbeats 8000000 in
set_option maxRecDepth 20000 in
theorem w_X7_init_0 {X : Cx} {d : Nat} {n : Nat} {K L : Nat → Nat} {M : Mm} {a0 : Nat} {r : ((Nat → Nat) × (Nat → Nat) × Mm)} (o : cOk X cX7_init RX7 d) (hL : cL X = 1) (hr : (ch X).sig.returnType = none) (hnm : (ch X).name = yX7_init.name) (hz : (cs X).heap.size + 0 = cB X + n) (hk0 : K a0 = 7) (hc : (cR X).cells = 2) (hs : (cR X).slots = 16) (hE : cE X (n + 2) r.1 r.2.1 r.2.2 none 2 16) (hd : 1 ≤ d) (h : f_X7_init (cB X)  n a0  K L M = some r) : gW X 0 0 n K L M 0 [(0, va_rf (some a0))] [] := by
  unfold f_X7_init at h
  obtain ⟨K1, e2, h⟩ := bn_at h
  obtain ⟨L3, e4, h⟩ := bn_at h
  obtain ⟨M5, e6, h⟩ := bn_at h
  obtain ⟨a7, e8, h⟩ := ob h
  obtain ⟨M9, e10, h⟩ := bn_at h
  obtain ⟨K11, e12, h⟩ := bn_at h
  obtain ⟨L13, e14, h⟩ := bn_at h
  obtain ⟨M15, e16, h⟩ := bn_at h
  obtain ⟨a17, e18, h⟩ := ob h
  obtain ⟨M19, e20, h⟩ := bn_at h
  cases h
  dsimp only at hc hs hE
  refine g_aload_n o dX7_init_0 0 rfl ?_
  refine g_objInit o (by omega) ml_X7_3 (by simp [cat_i, cat_l, cat_rf]) dX7_init_1 ?_
  refine g_aload_n o dX7_init_4 0 rfl ?_
  refine g_bipush (v := (8 : Int32)) o dX7_init_5 (by decide) ?_
  refine g_newI (z := 8) o hz (by decide) (by omega) (by omega) dX7_init_7 ?_
  refine g_shp e2 e4 e6 ?_
  refine g_nrm (k1 := 1) (k2 := 8) (n := n + 1) rfl rfl rfl ?_
  refine g_putFR o (by omega) hnm fl_X7_9 e8 (by decide) rfl rfl rfl rfl dX7_init_9 ?_
  refine g_mem e10 ?_
  refine g_aload_n o dX7_init_12 0 rfl ?_
  refine g_bipush (v := (8 : Int32)) o dX7_init_13 (by decide) ?_
  refine g_newI (z := 8) o (by omega) (by decide) (by omega) (by omega) dX7_init_15 ?_
  refine g_shp e12 e14 e16 ?_
  refine g_nrm (k1 := 2) (k2 := 16) (n := n + 2) rfl rfl rfl ?_
  refine g_putFR o (by omega) hnm fl_X7_15 e18 (by decide) rfl rfl rfl rfl dX7_init_17 ?_
  refine g_mem e20 ?_
  exact g_vret o hr hE dX7_init_20
theorem c_X7_init (l : Launch) (D : va_G) (Y : Nat → ClassId) (B : Nat) {d : Nat} {n : Nat} {K L : Nat → Nat} {M : Mm} {a0 : Nat} {r : ((Nat → Nat) × (Nat → Nat) × Mm)} (hd : 1 ≤ d) (hk0 : K a0 = 7) (h : f_X7_init B  n a0  K L M = some r) : mC l D Y B d yX7_init cX7_init 1 (none) [va_rf (some a0)] n K L M (n + 2) r.1 r.2.1 r.2.2 none 2 16 := by
  refine mk_met (by decide) (by simp [lgs_r, lgs_i, lgs_l, lgs_n]) (fun X e1 e2 e3 e4 o hL hr hnm hz hc hs hE => ?_)
  subst e1 e2 e3 e4
  rw [show lv_args 0 [va_rf (some a0)] = [(0, va_rf (some a0))] by simp [lva_r, lva_i, lva_l, lva_n]]
  exact w_X7_init_0 o hL hr hnm hz hk0 hc hs hE hd h
def f_X8_init (B n : Nat) (a0 : Nat) (K L : Nat → Nat) (M : Mm) : Option ((Nat → Nat) × (Nat → Nat) × Mm) :=
  bn (va_up K (B + n) 17) (fun K1 =>
  bn (va_up L (B + n) 16) (fun L3 =>
  bn (mz M (B + n)) (fun M5 =>
  Option.bind (rc K1 (some a0) 8) (fun a7 =>
  bn (ms_R M5 (32 * 8 + 0) a7 (some (B + n))) (fun M9 =>
  bn (va_up K1 (B + (n + 1)) 4) (fun K11 =>
  bn (va_up L3 (B + (n + 1)) 0) (fun L13 =>
  bn (mz M9 (B + (n + 1))) (fun M15 =>
  Option.bind (rc K11 (some (B + (n + 1))) 4) (fun a17 =>
  Option.bind (f_X4_init a17) (fun x19 =>
  Option.bind (rx K11 L13 (mm_R M9 (32 * 8 + 0) a7) 17 (0 : Int32)) (fun a21 =>
  bn (ms_C M15 a21 (va_up (mm_C M15 a21) (0 : Int32).toNatClampNeg (some a17))) (fun M23 =>
  Option.bind (rc K11 (some a0) 8) (fun a25 =>
  bn (va_up K11 (B + (n + 2)) 4) (fun K27 =>
  bn (va_up L13 (B + (n + 2)) 0) (fun L29 =>
  bn (mz M23 (B + (n + 2))) (fun M31 =>
  Option.bind (rc K27 (some (B + (n + 2))) 4) (fun a33 =>
  Option.bind (f_X4_init a33) (fun x35 =>
  Option.bind (rx K27 L29 (mm_R M23 (32 * 8 + 0) a25) 17 (1 : Int32)) (fun a37 =>
  bn (ms_C M31 a37 (va_up (mm_C M31 a37) (1 : Int32).toNatClampNeg (some a33))) (fun M39 =>
  Option.bind (rc K27 (some a0) 8) (fun a41 =>
  bn (va_up K27 (B + (n + 3)) 4) (fun K43 =>
  bn (va_up L29 (B + (n + 3)) 0) (fun L45 =>
  bn (mz M39 (B + (n + 3))) (fun M47 =>
  Option.bind (rc K43 (some (B + (n + 3))) 4) (fun a49 =>
  Option.bind (f_X4_init a49) (fun x51 =>
  Option.bind (rx K43 L45 (mm_R M39 (32 * 8 + 0) a41) 17 (2 : Int32)) (fun a53 =>
  bn (ms_C M47 a53 (va_up (mm_C M47 a53) (2 : Int32).toNatClampNeg (some a49))) (fun M55 =>
  Option.bind (rc K43 (some a0) 8) (fun a57 =>
  bn (va_up K43 (B + (n + 4)) 4) (fun K59 =>
  bn (va_up L45 (B + (n + 4)) 0) (fun L61 =>
  bn (mz M55 (B + (n + 4))) (fun M63 =>
  Option.bind (rc K59 (some (B + (n + 4))) 4) (fun a65 =>
  Option.bind (f_X4_init a65) (fun x67 =>
  Option.bind (rx K59 L61 (mm_R M55 (32 * 8 + 0) a57) 17 (3 : Int32)) (fun a69 =>
  bn (ms_C M63 a69 (va_up (mm_C M63 a69) (3 : Int32).toNatClampNeg (some a65))) (fun M71 =>
  Option.bind (rc K59 (some a0) 8) (fun a73 =>
  bn (va_up K59 (B + (n + 5)) 4) (fun K75 =>
  bn (va_up L61 (B + (n + 5)) 0) (fun L77 =>
  bn (mz M71 (B + (n + 5))) (fun M79 =>
  Option.bind (rc K75 (some (B + (n + 5))) 4) (fun a81 =>
  Option.bind (f_X4_init a81) (fun x83 =>
  Option.bind (rx K75 L77 (mm_R M71 (32 * 8 + 0) a73) 17 (4 : Int32)) (fun a85 =>
  bn (ms_C M79 a85 (va_up (mm_C M79 a85) (4 : Int32).toNatClampNeg (some a81))) (fun M87 =>
  Option.bind (rc K75 (some a0) 8) (fun a89 =>
  bn (va_up K75 (B + (n + 6)) 4) (fun K91 =>
  bn (va_up L77 (B + (n + 6)) 0) (fun L93 =>
  bn (mz M87 (B + (n + 6))) (fun M95 =>
  Option.bind (rc K91 (some (B + (n + 6))) 4) (fun a97 =>
  Option.bind (f_X4_init a97) (fun x99 =>
  Option.bind (rx K91 L93 (mm_R M87 (32 * 8 + 0) a89) 17 (5 : Int32)) (fun a101 =>
  bn (ms_C M95 a101 (va_up (mm_C M95 a101) (5 : Int32).toNatClampNeg (some a97))) (fun M103 =>
  Option.bind (rc K91 (some a0) 8) (fun a105 =>
  bn (va_up K91 (B + (n + 7)) 4) (fun K107 =>
  bn (va_up L93 (B + (n + 7)) 0) (fun L109 =>
  bn (mz M103 (B + (n + 7))) (fun M111 =>
  Option.bind (rc K107 (some (B + (n + 7))) 4) (fun a113 =>
  Option.bind (f_X4_init a113) (fun x115 =>
  Option.bind (rx K107 L109 (mm_R M103 (32 * 8 + 0) a105) 17 (6 : Int32)) (fun a117 =>
  bn (ms_C M111 a117 (va_up (mm_C M111 a117) (6 : Int32).toNatClampNeg (some a113))) (fun M119 =>
  Option.bind (rc K107 (some a0) 8) (fun a121 =>
  bn (va_up K107 (B + (n + 8)) 4) (fun K123 =>
  bn (va_up L109 (B + (n + 8)) 0) (fun L125 =>
  bn (mz M119 (B + (n + 8))) (fun M127 =>
  Option.bind (rc K123 (some (B + (n + 8))) 4) (fun a129 =>
  Option.bind (f_X4_init a129) (fun x131 =>
  Option.bind (rx K123 L125 (mm_R M119 (32 * 8 + 0) a121) 17 (7 : Int32)) (fun a133 =>
  bn (ms_C M127 a133 (va_up (mm_C M127 a133) (7 : Int32).toNatClampNeg (some a129))) (fun M135 =>
  Option.bind (rc K123 (some a0) 8) (fun a137 =>
  bn (va_up K123 (B + (n + 9)) 4) (fun K139 =>
  bn (va_up L125 (B + (n + 9)) 0) (fun L141 =>
  bn (mz M135 (B + (n + 9))) (fun M143 =>
  Option.bind (rc K139 (some (B + (n + 9))) 4) (fun a145 =>
  Option.bind (f_X4_init a145) (fun x147 =>
  Option.bind (rx K139 L141 (mm_R M135 (32 * 8 + 0) a137) 17 (8 : Int32)) (fun a149 =>
  bn (ms_C M143 a149 (va_up (mm_C M143 a149) (8 : Int32).toNatClampNeg (some a145))) (fun M151 =>
  Option.bind (rc K139 (some a0) 8) (fun a153 =>
  bn (va_up K139 (B + (n + 10)) 4) (fun K155 =>
  bn (va_up L141 (B + (n + 10)) 0) (fun L157 =>
  bn (mz M151 (B + (n + 10))) (fun M159 =>
  Option.bind (rc K155 (some (B + (n + 10))) 4) (fun a161 =>
  Option.bind (f_X4_init a161) (fun x163 =>
  Option.bind (rx K155 L157 (mm_R M151 (32 * 8 + 0) a153) 17 (9 : Int32)) (fun a165 =>
  bn (ms_C M159 a165 (va_up (mm_C M159 a165) (9 : Int32).toNatClampNeg (some a161))) (fun M167 =>
  Option.bind (rc K155 (some a0) 8) (fun a169 =>
  bn (va_up K155 (B + (n + 11)) 4) (fun K171 =>
  bn (va_up L157 (B + (n + 11)) 0) (fun L173 =>
  bn (mz M167 (B + (n + 11))) (fun M175 =>
  Option.bind (rc K171 (some (B + (n + 11))) 4) (fun a177 =>
  Option.bind (f_X4_init a177) (fun x179 =>
  Option.bind (rx K171 L173 (mm_R M167 (32 * 8 + 0) a169) 17 (10 : Int32)) (fun a181 =>
  bn (ms_C M175 a181 (va_up (mm_C M175 a181) (10 : Int32).toNatClampNeg (some a177))) (fun M183 =>
  Option.bind (rc K171 (some a0) 8) (fun a185 =>
  bn (va_up K171 (B + (n + 12)) 4) (fun K187 =>
  bn (va_up L173 (B + (n + 12)) 0) (fun L189 =>
  bn (mz M183 (B + (n + 12))) (fun M191 =>
  Option.bind (rc K187 (some (B + (n + 12))) 4) (fun a193 =>
  Option.bind (f_X4_init a193) (fun x195 =>
  Option.bind (rx K187 L189 (mm_R M183 (32 * 8 + 0) a185) 17 (11 : Int32)) (fun a197 =>
  bn (ms_C M191 a197 (va_up (mm_C M191 a197) (11 : Int32).toNatClampNeg (some a193))) (fun M199 =>
  Option.bind (rc K187 (some a0) 8) (fun a201 =>
  bn (va_up K187 (B + (n + 13)) 4) (fun K203 =>
  bn (va_up L189 (B + (n + 13)) 0) (fun L205 =>
  bn (mz M199 (B + (n + 13))) (fun M207 =>
  Option.bind (rc K203 (some (B + (n + 13))) 4) (fun a209 =>
  Option.bind (f_X4_init a209) (fun x211 =>
  Option.bind (rx K203 L205 (mm_R M199 (32 * 8 + 0) a201) 17 (12 : Int32)) (fun a213 =>
  bn (ms_C M207 a213 (va_up (mm_C M207 a213) (12 : Int32).toNatClampNeg (some a209))) (fun M215 =>
  Option.bind (rc K203 (some a0) 8) (fun a217 =>
  bn (va_up K203 (B + (n + 14)) 4) (fun K219 =>
  bn (va_up L205 (B + (n + 14)) 0) (fun L221 =>
  bn (mz M215 (B + (n + 14))) (fun M223 =>
  Option.bind (rc K219 (some (B + (n + 14))) 4) (fun a225 =>
  Option.bind (f_X4_init a225) (fun x227 =>
  Option.bind (rx K219 L221 (mm_R M215 (32 * 8 + 0) a217) 17 (13 : Int32)) (fun a229 =>
  bn (ms_C M223 a229 (va_up (mm_C M223 a229) (13 : Int32).toNatClampNeg (some a225))) (fun M231 =>
  Option.bind (rc K219 (some a0) 8) (fun a233 =>
  bn (va_up K219 (B + (n + 15)) 4) (fun K235 =>
  bn (va_up L221 (B + (n + 15)) 0) (fun L237 =>
  bn (mz M231 (B + (n + 15))) (fun M239 =>
  Option.bind (rc K235 (some (B + (n + 15))) 4) (fun a241 =>
  Option.bind (f_X4_init a241) (fun x243 =>
  Option.bind (rx K235 L237 (mm_R M231 (32 * 8 + 0) a233) 17 (14 : Int32)) (fun a245 =>
  bn (ms_C M239 a245 (va_up (mm_C M239 a245) (14 : Int32).toNatClampNeg (some a241))) (fun M247 =>
  Option.bind (rc K235 (some a0) 8) (fun a249 =>
  bn (va_up K235 (B + (n + 16)) 4) (fun K251 =>
  bn (va_up L237 (B + (n + 16)) 0) (fun L253 =>
  bn (mz M247 (B + (n + 16))) (fun M255 =>
  Option.bind (rc K251 (some (B + (n + 16))) 4) (fun a257 =>
  Option.bind (f_X4_init a257) (fun x259 =>
  Option.bind (rx K251 L253 (mm_R M247 (32 * 8 + 0) a249) 17 (15 : Int32)) (fun a261 =>
  bn (ms_C M255 a261 (va_up (mm_C M255 a261) (15 : Int32).toNatClampNeg (some a257))) (fun M263 =>
  some (K251, L253, M263)))))))))))))))))))))))))))))))))))))))))))))))))))))))))))))))))))))))))))))))))))))))))))))))))))))))))))))))))))))))))))))))))))))
set_option maxHeartbeats 8000000 in
set_option maxRecDepth 20000 in
theorem w_X8_init_0 {X : Cx} {d : Nat} {n : Nat} {K L : Nat → Nat} {M : Mm} {a0 : Nat} {r : ((Nat → Nat) × (Nat → Nat) × Mm)} (o : cOk X cX8_init RX8 (d + 1)) (hL : cL X = 2) (hr : (ch X).sig.returnType = none) (hnm : (ch X).name = yX8_init.name) (hz : (cs X).heap.size + 0 = cB X + n) (hk0 : K a0 = 8) (hc : (cR X).cells = 17) (hs : (cR X).slots = 80) (hE : cE X (n + 17) r.1 r.2.1 r.2.2 none 17 80) (hd : 2 ≤ d + 1) (h : f_X8_init (cB X)  n a0  K L M = some r) : gW X 0 0 n K L M 0 [(0, va_rf (some a0))] [] := by
  unfold f_X8_init at h
  obtain ⟨K1, e2, h⟩ := bn_at h
  obtain ⟨L3, e4, h⟩ := bn_at h
  obtain ⟨M5, e6, h⟩ := bn_at h
  obtain ⟨a7, e8, h⟩ := ob h
  obtain ⟨M9, e10, h⟩ := bn_at h
  obtain ⟨K11, e12, h⟩ := bn_at h
  obtain ⟨L13, e14, h⟩ := bn_at h
  obtain ⟨M15, e16, h⟩ := bn_at h
  obtain ⟨a17, e18, h⟩ := ob h
  obtain ⟨x19, e20, h⟩ := ob h
  obtain ⟨a21, e22, h⟩ := ob h
  obtain ⟨M23, e24, h⟩ := bn_at h
  obtain ⟨a25, e26, h⟩ := ob h
  obtain ⟨K27, e28, h⟩ := bn_at h
  obtain ⟨L29, e30, h⟩ := bn_at h
  obtain ⟨M31, e32, h⟩ := bn_at h
  obtain ⟨a33, e34, h⟩ := ob h
  obtain ⟨x35, e36, h⟩ := ob h
  obtain ⟨a37, e38, h⟩ := ob h
  obtain ⟨M39, e40, h⟩ := bn_at h
  obtain ⟨a41, e42, h⟩ := ob h
  obtain ⟨K43, e44, h⟩ := bn_at h
  obtain ⟨L45, e46, h⟩ := bn_at h
  obtain ⟨M47, e48, h⟩ := bn_at h
  obtain ⟨a49, e50, h⟩ := ob h
  obtain ⟨x51, e52, h⟩ := ob h
  obtain ⟨a53, e54, h⟩ := ob h
  obtain ⟨M55, e56, h⟩ := bn_at h
  obtain ⟨a57, e58, h⟩ := ob h
  obtain ⟨K59, e60, h⟩ := bn_at h
  obtain ⟨L61, e62, h⟩ := bn_at h
  obtain ⟨M63, e64, h⟩ := bn_at h
  obtain ⟨a65, e66, h⟩ := ob h
  obtain ⟨x67, e68, h⟩ := ob h
  obtain ⟨a69, e70, h⟩ := ob h
  obtain ⟨M71, e72, h⟩ := bn_at h
  obtain ⟨a73, e74, h⟩ := ob h
  obtain ⟨K75, e76, h⟩ := bn_at h
  obtain ⟨L77, e78, h⟩ := bn_at h
  obtain ⟨M79, e80, h⟩ := bn_at h
  obtain ⟨a81, e82, h⟩ := ob h
  obtain ⟨x83, e84, h⟩ := ob h
  obtain ⟨a85, e86, h⟩ := ob h
  obtain ⟨M87, e88, h⟩ := bn_at h
  obtain ⟨a89, e90, h⟩ := ob h
  obtain ⟨K91, e92, h⟩ := bn_at h
  obtain ⟨L93, e94, h⟩ := bn_at h
  obtain ⟨M95, e96, h⟩ := bn_at h
  obtain ⟨a97, e98, h⟩ := ob h
  obtain ⟨x99, e100, h⟩ := ob h
  obtain ⟨a101, e102, h⟩ := ob h
  obtain ⟨M103, e104, h⟩ := bn_at h
  obtain ⟨a105, e106, h⟩ := ob h
  obtain ⟨K107, e108, h⟩ := bn_at h
  obtain ⟨L109, e110, h⟩ := bn_at h
  obtain ⟨M111, e112, h⟩ := bn_at h
  obtain ⟨a113, e114, h⟩ := ob h
  obtain ⟨x115, e116, h⟩ := ob h
  obtain ⟨a117, e118, h⟩ := ob h
  obtain ⟨M119, e120, h⟩ := bn_at h
  obtain ⟨a121, e122, h⟩ := ob h
  obtain ⟨K123, e124, h⟩ := bn_at h
  obtain ⟨L125, e126, h⟩ := bn_at h
  obtain ⟨M127, e128, h⟩ := bn_at h
  obtain ⟨a129, e130, h⟩ := ob h
  obtain ⟨x131, e132, h⟩ := ob h
  obtain ⟨a133, e134, h⟩ := ob h
  obtain ⟨M135, e136, h⟩ := bn_at h
  obtain ⟨a137, e138, h⟩ := ob h
  obtain ⟨K139, e140, h⟩ := bn_at h
  obtain ⟨L141, e142, h⟩ := bn_at h
  obtain ⟨M143, e144, h⟩ := bn_at h
  obtain ⟨a145, e146, h⟩ := ob h
  obtain ⟨x147, e148, h⟩ := ob h
  obtain ⟨a149, e150, h⟩ := ob h
  obtain ⟨M151, e152, h⟩ := bn_at h
  obtain ⟨a153, e154, h⟩ := ob h
  obtain ⟨K155, e156, h⟩ := bn_at h
  obtain ⟨L157, e158, h⟩ := bn_at h
  obtain ⟨M159, e160, h⟩ := bn_at h
  obtain ⟨a161, e162, h⟩ := ob h
  obtain ⟨x163, e164, h⟩ := ob h
  obtain ⟨a165, e166, h⟩ := ob h
  obtain ⟨M167, e168, h⟩ := bn_at h
  obtain ⟨a169, e170, h⟩ := ob h
  obtain ⟨K171, e172, h⟩ := bn_at h
  obtain ⟨L173, e174, h⟩ := bn_at h
  obtain ⟨M175, e176, h⟩ := bn_at h
  obtain ⟨a177, e178, h⟩ := ob h
  obtain ⟨x179, e180, h⟩ := ob h
  obtain ⟨a181, e182, h⟩ := ob h
  obtain ⟨M183, e184, h⟩ := bn_at h
  obtain ⟨a185, e186, h⟩ := ob h
  obtain ⟨K187, e188, h⟩ := bn_at h
  obtain ⟨L189, e190, h⟩ := bn_at h
  obtain ⟨M191, e192, h⟩ := bn_at h
  obtain ⟨a193, e194, h⟩ := ob h
  obtain ⟨x195, e196, h⟩ := ob h
  obtain ⟨a197, e198, h⟩ := ob h
  obtain ⟨M199, e200, h⟩ := bn_at h
  obtain ⟨a201, e202, h⟩ := ob h
  obtain ⟨K203, e204, h⟩ := bn_at h
  obtain ⟨L205, e206, h⟩ := bn_at h
  obtain ⟨M207, e208, h⟩ := bn_at h
  obtain ⟨a209, e210, h⟩ := ob h
  obtain ⟨x211, e212, h⟩ := ob h
  obtain ⟨a213, e214, h⟩ := ob h
  obtain ⟨M215, e216, h⟩ := bn_at h
  obtain ⟨a217, e218, h⟩ := ob h
  obtain ⟨K219, e220, h⟩ := bn_at h
  obtain ⟨L221, e222, h⟩ := bn_at h
  obtain ⟨M223, e224, h⟩ := bn_at h
  obtain ⟨a225, e226, h⟩ := ob h
  obtain ⟨x227, e228, h⟩ := ob h
  obtain ⟨a229, e230, h⟩ := ob h
  obtain ⟨M231, e232, h⟩ := bn_at h
  obtain ⟨a233, e234, h⟩ := ob h
  obtain ⟨K235, e236, h⟩ := bn_at h
  obtain ⟨L237, e238, h⟩ := bn_at h
  obtain ⟨M239, e240, h⟩ := bn_at h
  obtain ⟨a241, e242, h⟩ := ob h
  obtain ⟨x243, e244, h⟩ := ob h
  obtain ⟨a245, e246, h⟩ := ob h
  obtain ⟨M247, e248, h⟩ := bn_at h
  obtain ⟨a249, e250, h⟩ := ob h
  obtain ⟨K251, e252, h⟩ := bn_at h
  obtain ⟨L253, e254, h⟩ := bn_at h
  obtain ⟨M255, e256, h⟩ := bn_at h
  obtain ⟨a257, e258, h⟩ := ob h
  obtain ⟨x259, e260, h⟩ := ob h
  obtain ⟨a261, e262, h⟩ := ob h
  obtain ⟨M263, e264, h⟩ := bn_at h
  cases h
  dsimp only at hc hs hE
  refine g_aload_n o dX8_init_0 0 rfl ?_
  refine g_objInit o (by omega) ml_X8_3 (by simp [cat_i, cat_l, cat_rf]) dX8_init_1 ?_
  refine g_aload_n o dX8_init_4 0 rfl ?_
  refine g_bipush (v := (16 : Int32)) o dX8_init_5 (by decide) ?_
  refine g_newC (z := 16) (k := 17) (c := 4) o hz (by decide) kl_X8_9 (by decide) (by omega) (by omega) dX8_init_7 ?_
  refine g_shp e2 e4 e6 ?_
  refine g_nrm (k1 := 1) (k2 := 16) (n := n + 1) rfl rfl rfl ?_
  refine g_putFR o (by omega) hnm fl_X8_11 e8 (by decide) rfl rfl rfl rfl dX8_init_10 ?_
  refine g_mem e10 ?_
  refine g_iconst (v := (0 : Int32)) o dX8_init_13 (by decide) ?_
  refine g_istore_n (i := 1) (ls' := [(1, .int (0 : Int32)), (0, va_rf (some a0))]) o dX8_init_14 rfl (ltL hL (by decide)) rfl ?_
  refine g_iload_n o dX8_init_15 0 rfl ?_
  refine g_bipush (v := (16 : Int32)) o dX8_init_16 (by decide) ?_
  refine g_icmp_ge (tgt := 40) o dX8_init_18 (by decide) (fun q => absurd q (by decide)) (fun _ => ?_)
  refine g_aload_n o dX8_init_21 1 rfl ?_
  refine g_getR o fl_X8_11 e8 (by decide) rfl dX8_init_22 ?_
  refine g_iload_n o dX8_init_25 0 rfl ?_
  refine g_new (c := 4) o (by omega) (by decide) ⟨kl_X8_9, ki_X4.1, ki_X4.2⟩ (by omega) (show _ + 4 ≤ _ by omega) dX8_init_26 ?_
  refine g_shp e12 e14 e16 ?_
  refine g_nrm (k1 := 2) (k2 := 20) (n := n + 2) rfl rfl rfl ?_
  refine g_dup o dX8_init_29 (cat_rf _) ?_
  obtain ⟨hq, -⟩ := rc_at e18
  cases hq
  refine g_invIN o mn_X8_17 kb_X4_init kv_X4_init (c_X4_init (cq X) (cD X) (cY X) (cB X) (d := d) (by omega) (rc_at e18).2 e20) rfl rfl (by simp [cat_i, cat_l, cat_rf]) ⟨by omega, by omega⟩ dX8_init_30 ?_
  refine g_aast (k := 17) (c := 4) o (by omega) (by decide) e22 e18 dX8_init_33 ?_
  refine g_mem e24 ?_
  refine g_iinc (i := 1) (v := (1 : Int32)) (ls' := [(1, .int (1 : Int32)), (0, va_rf (some a0))]) o dX8_init_34 0 rfl (by decide) (ltL hL (by decide)) rfl ?_
  refine g_goto (tgt := 15) o dX8_init_37 (by decide) ?_
  refine g_iload_n o dX8_init_15 0 rfl ?_
  refine g_bipush (v := (16 : Int32)) o dX8_init_16 (by decide) ?_
  refine g_icmp_ge (tgt := 40) o dX8_init_18 (by decide) (fun q => absurd q (by decide)) (fun _ => ?_)
  refine g_aload_n o dX8_init_21 1 rfl ?_
  refine g_getR o fl_X8_11 e26 (by decide) rfl dX8_init_22 ?_
  refine g_iload_n o dX8_init_25 0 rfl ?_
  refine g_new (c := 4) o (by omega) (by decide) ⟨kl_X8_9, ki_X4.1, ki_X4.2⟩ (by omega) (show _ + 4 ≤ _ by omega) dX8_init_26 ?_
  refine g_shp e28 e30 e32 ?_
  refine g_nrm (k1 := 3) (k2 := 24) (n := n + 3) rfl rfl rfl ?_
  refine g_dup o dX8_init_29 (cat_rf _) ?_
  obtain ⟨hq, -⟩ := rc_at e34
  cases hq
  refine g_invIN o mn_X8_17 kb_X4_init kv_X4_init (c_X4_init (cq X) (cD X) (cY X) (cB X) (d := d) (by omega) (rc_at e34).2 e36) rfl rfl (by simp [cat_i, cat_l, cat_rf]) ⟨by omega, by omega⟩ dX8_init_30 ?_
  refine g_aast (k := 17) (c := 4) o (by omega) (by decide) e38 e34 dX8_init_33 ?_
  refine g_mem e40 ?_
  refine g_iinc (i := 1) (v := (2 : Int32)) (ls' := [(1, .int (2 : Int32)), (0, va_rf (some a0))]) o dX8_init_34 0 rfl (by decide) (ltL hL (by decide)) rfl ?_
  refine g_goto (tgt := 15) o dX8_init_37 (by decide) ?_
  refine g_iload_n o dX8_init_15 0 rfl ?_
  refine g_bipush (v := (16 : Int32)) o dX8_init_16 (by decide) ?_
  refine g_icmp_ge (tgt := 40) o dX8_init_18 (by decide) (fun q => absurd q (by decide)) (fun _ => ?_)
  refine g_aload_n o dX8_init_21 1 rfl ?_
  refine g_getR o fl_X8_11 e42 (by decide) rfl dX8_init_22 ?_
  refine g_iload_n o dX8_init_25 0 rfl ?_
  refine g_new (c := 4) o (by omega) (by decide) ⟨kl_X8_9, ki_X4.1, ki_X4.2⟩ (by omega) (show _ + 4 ≤ _ by omega) dX8_init_26 ?_
  refine g_shp e44 e46 e48 ?_
  refine g_nrm (k1 := 4) (k2 := 28) (n := n + 4) rfl rfl rfl ?_
  refine g_dup o dX8_init_29 (cat_rf _) ?_
  obtain ⟨hq, -⟩ := rc_at e50
  cases hq
  refine g_invIN o mn_X8_17 kb_X4_init kv_X4_init (c_X4_init (cq X) (cD X) (cY X) (cB X) (d := d) (by omega) (rc_at e50).2 e52) rfl rfl (by simp [cat_i, cat_l, cat_rf]) ⟨by omega, by omega⟩ dX8_init_30 ?_
  refine g_aast (k := 17) (c := 4) o (by omega) (by decide) e54 e50 dX8_init_33 ?_
  refine g_mem e56 ?_
  refine g_iinc (i := 1) (v := (3 : Int32)) (ls' := [(1, .int (3 : Int32)), (0, va_rf (some a0))]) o dX8_init_34 0 rfl (by decide) (ltL hL (by decide)) rfl ?_
  refine g_goto (tgt := 15) o dX8_init_37 (by decide) ?_
  refine g_iload_n o dX8_init_15 0 rfl ?_
  refine g_bipush (v := (16 : Int32)) o dX8_init_16 (by decide) ?_
  refine g_icmp_ge (tgt := 40) o dX8_init_18 (by decide) (fun q => absurd q (by decide)) (fun _ => ?_)
  refine g_aload_n o dX8_init_21 1 rfl ?_
  refine g_getR o fl_X8_11 e58 (by decide) rfl dX8_init_22 ?_
  refine g_iload_n o dX8_init_25 0 rfl ?_
  refine g_new (c := 4) o (by omega) (by decide) ⟨kl_X8_9, ki_X4.1, ki_X4.2⟩ (by omega) (show _ + 4 ≤ _ by omega) dX8_init_26 ?_
  refine g_shp e60 e62 e64 ?_
  refine g_nrm (k1 := 5) (k2 := 32) (n := n + 5) rfl rfl rfl ?_
  refine g_dup o dX8_init_29 (cat_rf _) ?_
  obtain ⟨hq, -⟩ := rc_at e66
  cases hq
  refine g_invIN o mn_X8_17 kb_X4_init kv_X4_init (c_X4_init (cq X) (cD X) (cY X) (cB X) (d := d) (by omega) (rc_at e66).2 e68) rfl rfl (by simp [cat_i, cat_l, cat_rf]) ⟨by omega, by omega⟩ dX8_init_30 ?_
  refine g_aast (k := 17) (c := 4) o (by omega) (by decide) e70 e66 dX8_init_33 ?_
  refine g_mem e72 ?_
  refine g_iinc (i := 1) (v := (4 : Int32)) (ls' := [(1, .int (4 : Int32)), (0, va_rf (some a0))]) o dX8_init_34 0 rfl (by decide) (ltL hL (by decide)) rfl ?_
  refine g_goto (tgt := 15) o dX8_init_37 (by decide) ?_
  refine g_iload_n o dX8_init_15 0 rfl ?_
  refine g_bipush (v := (16 : Int32)) o dX8_init_16 (by decide) ?_
  refine g_icmp_ge (tgt := 40) o dX8_init_18 (by decide) (fun q => absurd q (by decide)) (fun _ => ?_)
  refine g_aload_n o dX8_init_21 1 rfl ?_
  refine g_getR o fl_X8_11 e74 (by decide) rfl dX8_init_22 ?_
  refine g_iload_n o dX8_init_25 0 rfl ?_
  refine g_new (c := 4) o (by omega) (by decide) ⟨kl_X8_9, ki_X4.1, ki_X4.2⟩ (by omega) (show _ + 4 ≤ _ by omega) dX8_init_26 ?_
  refine g_shp e76 e78 e80 ?_
  refine g_nrm (k1 := 6) (k2 := 36) (n := n + 6) rfl rfl rfl ?_
  refine g_dup o dX8_init_29 (cat_rf _) ?_
  obtain ⟨hq, -⟩ := rc_at e82
  cases hq
  refine g_invIN o mn_X8_17 kb_X4_init kv_X4_init (c_X4_init (cq X) (cD X) (cY X) (cB X) (d := d) (by omega) (rc_at e82).2 e84) rfl rfl (by simp [cat_i, cat_l, cat_rf]) ⟨by omega, by omega⟩ dX8_init_30 ?_
  refine g_aast (k := 17) (c := 4) o (by omega) (by decide) e86 e82 dX8_init_33 ?_
  refine g_mem e88 ?_
  refine g_iinc (i := 1) (v := (5 : Int32)) (ls' := [(1, .int (5 : Int32)), (0, va_rf (some a0))]) o dX8_init_34 0 rfl (by decide) (ltL hL (by decide)) rfl ?_
  refine g_goto (tgt := 15) o dX8_init_37 (by decide) ?_
  refine g_iload_n o dX8_init_15 0 rfl ?_
  refine g_bipush (v := (16 : Int32)) o dX8_init_16 (by decide) ?_
  refine g_icmp_ge (tgt := 40) o dX8_init_18 (by decide) (fun q => absurd q (by decide)) (fun _ => ?_)
  refine g_aload_n o dX8_init_21 1 rfl ?_
  refine g_getR o fl_X8_11 e90 (by decide) rfl dX8_init_22 ?_
  refine g_iload_n o dX8_init_25 0 rfl ?_
  refine g_new (c := 4) o (by omega) (by decide) ⟨kl_X8_9, ki_X4.1, ki_X4.2⟩ (by omega) (show _ + 4 ≤ _ by omega) dX8_init_26 ?_
  refine g_shp e92 e94 e96 ?_
  refine g_nrm (k1 := 7) (k2 := 40) (n := n + 7) rfl rfl rfl ?_
  refine g_dup o dX8_init_29 (cat_rf _) ?_
  obtain ⟨hq, -⟩ := rc_at e98
  cases hq
  refine g_invIN o mn_X8_17 kb_X4_init kv_X4_init (c_X4_init (cq X) (cD X) (cY X) (cB X) (d := d) (by omega) (rc_at e98).2 e100) rfl rfl (by simp [cat_i, cat_l, cat_rf]) ⟨by omega, by omega⟩ dX8_init_30 ?_
  refine g_aast (k := 17) (c := 4) o (by omega) (by decide) e102 e98 dX8_init_33 ?_
  refine g_mem e104 ?_
  refine g_iinc (i := 1) (v := (6 : Int32)) (ls' := [(1, .int (6 : Int32)), (0, va_rf (some a0))]) o dX8_init_34 0 rfl (by decide) (ltL hL (by decide)) rfl ?_
  refine g_goto (tgt := 15) o dX8_init_37 (by decide) ?_
  refine g_iload_n o dX8_init_15 0 rfl ?_
  refine g_bipush (v := (16 : Int32)) o dX8_init_16 (by decide) ?_
  refine g_icmp_ge (tgt := 40) o dX8_init_18 (by decide) (fun q => absurd q (by decide)) (fun _ => ?_)
  refine g_aload_n o dX8_init_21 1 rfl ?_
  refine g_getR o fl_X8_11 e106 (by decide) rfl dX8_init_22 ?_
  refine g_iload_n o dX8_init_25 0 rfl ?_
  refine g_new (c := 4) o (by omega) (by decide) ⟨kl_X8_9, ki_X4.1, ki_X4.2⟩ (by omega) (show _ + 4 ≤ _ by omega) dX8_init_26 ?_
  refine g_shp e108 e110 e112 ?_
  refine g_nrm (k1 := 8) (k2 := 44) (n := n + 8) rfl rfl rfl ?_
  refine g_dup o dX8_init_29 (cat_rf _) ?_
  obtain ⟨hq, -⟩ := rc_at e114
  cases hq
  refine g_invIN o mn_X8_17 kb_X4_init kv_X4_init (c_X4_init (cq X) (cD X) (cY X) (cB X) (d := d) (by omega) (rc_at e114).2 e116) rfl rfl (by simp [cat_i, cat_l, cat_rf]) ⟨by omega, by omega⟩ dX8_init_30 ?_
  refine g_aast (k := 17) (c := 4) o (by omega) (by decide) e118 e114 dX8_init_33 ?_
  refine g_mem e120 ?_
  refine g_iinc (i := 1) (v := (7 : Int32)) (ls' := [(1, .int (7 : Int32)), (0, va_rf (some a0))]) o dX8_init_34 0 rfl (by decide) (ltL hL (by decide)) rfl ?_
  refine g_goto (tgt := 15) o dX8_init_37 (by decide) ?_
  refine g_iload_n o dX8_init_15 0 rfl ?_
  refine g_bipush (v := (16 : Int32)) o dX8_init_16 (by decide) ?_
  refine g_icmp_ge (tgt := 40) o dX8_init_18 (by decide) (fun q => absurd q (by decide)) (fun _ => ?_)
  refine g_aload_n o dX8_init_21 1 rfl ?_
  refine g_getR o fl_X8_11 e122 (by decide) rfl dX8_init_22 ?_
  refine g_iload_n o dX8_init_25 0 rfl ?_
  refine g_new (c := 4) o (by omega) (by decide) ⟨kl_X8_9, ki_X4.1, ki_X4.2⟩ (by omega) (show _ + 4 ≤ _ by omega) dX8_init_26 ?_
  refine g_shp e124 e126 e128 ?_
  refine g_nrm (k1 := 9) (k2 := 48) (n := n + 9) rfl rfl rfl ?_
  refine g_dup o dX8_init_29 (cat_rf _) ?_
  obtain ⟨hq, -⟩ := rc_at e130
  cases hq
  refine g_invIN o mn_X8_17 kb_X4_init kv_X4_init (c_X4_init (cq X) (cD X) (cY X) (cB X) (d := d) (by omega) (rc_at e130).2 e132) rfl rfl (by simp [cat_i, cat_l, cat_rf]) ⟨by omega, by omega⟩ dX8_init_30 ?_
  refine g_aast (k := 17) (c := 4) o (by omega) (by decide) e134 e130 dX8_init_33 ?_
  refine g_mem e136 ?_
  refine g_iinc (i := 1) (v := (8 : Int32)) (ls' := [(1, .int (8 : Int32)), (0, va_rf (some a0))]) o dX8_init_34 0 rfl (by decide) (ltL hL (by decide)) rfl ?_
  refine g_goto (tgt := 15) o dX8_init_37 (by decide) ?_
  refine g_iload_n o dX8_init_15 0 rfl ?_
  refine g_bipush (v := (16 : Int32)) o dX8_init_16 (by decide) ?_
  refine g_icmp_ge (tgt := 40) o dX8_init_18 (by decide) (fun q => absurd q (by decide)) (fun _ => ?_)
  refine g_aload_n o dX8_init_21 1 rfl ?_
  refine g_getR o fl_X8_11 e138 (by decide) rfl dX8_init_22 ?_
  refine g_iload_n o dX8_init_25 0 rfl ?_
  refine g_new (c := 4) o (by omega) (by decide) ⟨kl_X8_9, ki_X4.1, ki_X4.2⟩ (by omega) (show _ + 4 ≤ _ by omega) dX8_init_26 ?_
  refine g_shp e140 e142 e144 ?_
  refine g_nrm (k1 := 10) (k2 := 52) (n := n + 10) rfl rfl rfl ?_
  refine g_dup o dX8_init_29 (cat_rf _) ?_
  obtain ⟨hq, -⟩ := rc_at e146
  cases hq
  refine g_invIN o mn_X8_17 kb_X4_init kv_X4_init (c_X4_init (cq X) (cD X) (cY X) (cB X) (d := d) (by omega) (rc_at e146).2 e148) rfl rfl (by simp [cat_i, cat_l, cat_rf]) ⟨by omega, by omega⟩ dX8_init_30 ?_
  refine g_aast (k := 17) (c := 4) o (by omega) (by decide) e150 e146 dX8_init_33 ?_
  refine g_mem e152 ?_
  refine g_iinc (i := 1) (v := (9 : Int32)) (ls' := [(1, .int (9 : Int32)), (0, va_rf (some a0))]) o dX8_init_34 0 rfl (by decide) (ltL hL (by decide)) rfl ?_
  refine g_goto (tgt := 15) o dX8_init_37 (by decide) ?_
  refine g_iload_n o dX8_init_15 0 rfl ?_
  refine g_bipush (v := (16 : Int32)) o dX8_init_16 (by decide) ?_
  refine g_icmp_ge (tgt := 40) o dX8_init_18 (by decide) (fun q => absurd q (by decide)) (fun _ => ?_)
  refine g_aload_n o dX8_init_21 1 rfl ?_
  refine g_getR o fl_X8_11 e154 (by decide) rfl dX8_init_22 ?_
  refine g_iload_n o dX8_init_25 0 rfl ?_
  refine g_new (c := 4) o (by omega) (by decide) ⟨kl_X8_9, ki_X4.1, ki_X4.2⟩ (by omega) (show _ + 4 ≤ _ by omega) dX8_init_26 ?_
  refine g_shp e156 e158 e160 ?_
  refine g_nrm (k1 := 11) (k2 := 56) (n := n + 11) rfl rfl rfl ?_
  refine g_dup o dX8_init_29 (cat_rf _) ?_
  obtain ⟨hq, -⟩ := rc_at e162
  cases hq
  refine g_invIN o mn_X8_17 kb_X4_init kv_X4_init (c_X4_init (cq X) (cD X) (cY X) (cB X) (d := d) (by omega) (rc_at e162).2 e164) rfl rfl (by simp [cat_i, cat_l, cat_rf]) ⟨by omega, by omega⟩ dX8_init_30 ?_
  refine g_aast (k := 17) (c := 4) o (by omega) (by decide) e166 e162 dX8_init_33 ?_
  refine g_mem e168 ?_
  refine g_iinc (i := 1) (v := (10 : Int32)) (ls' := [(1, .int (10 : Int32)), (0, va_rf (some a0))]) o dX8_init_34 0 rfl (by decide) (ltL hL (by decide)) rfl ?_
  refine g_goto (tgt := 15) o dX8_init_37 (by decide) ?_
  refine g_iload_n o dX8_init_15 0 rfl ?_
  refine g_bipush (v := (16 : Int32)) o dX8_init_16 (by decide) ?_
  refine g_icmp_ge (tgt := 40) o dX8_init_18 (by decide) (fun q => absurd q (by decide)) (fun _ => ?_)
  refine g_aload_n o dX8_init_21 1 rfl ?_
  refine g_getR o fl_X8_11 e170 (by decide) rfl dX8_init_22 ?_
  refine g_iload_n o dX8_init_25 0 rfl ?_
  refine g_new (c := 4) o (by omega) (by decide) ⟨kl_X8_9, ki_X4.1, ki_X4.2⟩ (by omega) (show _ + 4 ≤ _ by omega) dX8_init_26 ?_
  refine g_shp e172 e174 e176 ?_
  refine g_nrm (k1 := 12) (k2 := 60) (n := n + 12) rfl rfl rfl ?_
  refine g_dup o dX8_init_29 (cat_rf _) ?_
  obtain ⟨hq, -⟩ := rc_at e178
  cases hq
  refine g_invIN o mn_X8_17 kb_X4_init kv_X4_init (c_X4_init (cq X) (cD X) (cY X) (cB X) (d := d) (by omega) (rc_at e178).2 e180) rfl rfl (by simp [cat_i, cat_l, cat_rf]) ⟨by omega, by omega⟩ dX8_init_30 ?_
  refine g_aast (k := 17) (c := 4) o (by omega) (by decide) e182 e178 dX8_init_33 ?_
  refine g_mem e184 ?_
  refine g_iinc (i := 1) (v := (11 : Int32)) (ls' := [(1, .int (11 : Int32)), (0, va_rf (some a0))]) o dX8_init_34 0 rfl (by decide) (ltL hL (by decide)) rfl ?_
  refine g_goto (tgt := 15) o dX8_init_37 (by decide) ?_
  refine g_iload_n o dX8_init_15 0 rfl ?_
  refine g_bipush (v := (16 : Int32)) o dX8_init_16 (by decide) ?_
  refine g_icmp_ge (tgt := 40) o dX8_init_18 (by decide) (fun q => absurd q (by decide)) (fun _ => ?_)
  refine g_aload_n o dX8_init_21 1 rfl ?_
  refine g_getR o fl_X8_11 e186 (by decide) rfl dX8_init_22 ?_
  refine g_iload_n o dX8_init_25 0 rfl ?_
  refine g_new (c := 4) o (by omega) (by decide) ⟨kl_X8_9, ki_X4.1, ki_X4.2⟩ (by omega) (show _ + 4 ≤ _ by omega) dX8_init_26 ?_
  refine g_shp e188 e190 e192 ?_
  refine g_nrm (k1 := 13) (k2 := 64) (n := n + 13) rfl rfl rfl ?_
  refine g_dup o dX8_init_29 (cat_rf _) ?_
  obtain ⟨hq, -⟩ := rc_at e194
  cases hq
  refine g_invIN o mn_X8_17 kb_X4_init kv_X4_init (c_X4_init (cq X) (cD X) (cY X) (cB X) (d := d) (by omega) (rc_at e194).2 e196) rfl rfl (by simp [cat_i, cat_l, cat_rf]) ⟨by omega, by omega⟩ dX8_init_30 ?_
  refine g_aast (k := 17) (c := 4) o (by omega) (by decide) e198 e194 dX8_init_33 ?_
  refine g_mem e200 ?_
  refine g_iinc (i := 1) (v := (12 : Int32)) (ls' := [(1, .int (12 : Int32)), (0, va_rf (some a0))]) o dX8_init_34 0 rfl (by decide) (ltL hL (by decide)) rfl ?_
  refine g_goto (tgt := 15) o dX8_init_37 (by decide) ?_
  refine g_iload_n o dX8_init_15 0 rfl ?_
  refine g_bipush (v := (16 : Int32)) o dX8_init_16 (by decide) ?_
  refine g_icmp_ge (tgt := 40) o dX8_init_18 (by decide) (fun q => absurd q (by decide)) (fun _ => ?_)
  refine g_aload_n o dX8_init_21 1 rfl ?_
  refine g_getR o fl_X8_11 e202 (by decide) rfl dX8_init_22 ?_
  refine g_iload_n o dX8_init_25 0 rfl ?_
  refine g_new (c := 4) o (by omega) (by decide) ⟨kl_X8_9, ki_X4.1, ki_X4.2⟩ (by omega) (show _ + 4 ≤ _ by omega) dX8_init_26 ?_
  refine g_shp e204 e206 e208 ?_
  refine g_nrm (k1 := 14) (k2 := 68) (n := n + 14) rfl rfl rfl ?_
  refine g_dup o dX8_init_29 (cat_rf _) ?_
  obtain ⟨hq, -⟩ := rc_at e210
  cases hq
  refine g_invIN o mn_X8_17 kb_X4_init kv_X4_init (c_X4_init (cq X) (cD X) (cY X) (cB X) (d := d) (by omega) (rc_at e210).2 e212) rfl rfl (by simp [cat_i, cat_l, cat_rf]) ⟨by omega, by omega⟩ dX8_init_30 ?_
  refine g_aast (k := 17) (c := 4) o (by omega) (by decide) e214 e210 dX8_init_33 ?_
  refine g_mem e216 ?_
  refine g_iinc (i := 1) (v := (13 : Int32)) (ls' := [(1, .int (13 : Int32)), (0, va_rf (some a0))]) o dX8_init_34 0 rfl (by decide) (ltL hL (by decide)) rfl ?_
  refine g_goto (tgt := 15) o dX8_init_37 (by decide) ?_
  refine g_iload_n o dX8_init_15 0 rfl ?_
  refine g_bipush (v := (16 : Int32)) o dX8_init_16 (by decide) ?_
  refine g_icmp_ge (tgt := 40) o dX8_init_18 (by decide) (fun q => absurd q (by decide)) (fun _ => ?_)
  refine g_aload_n o dX8_init_21 1 rfl ?_
  refine g_getR o fl_X8_11 e218 (by decide) rfl dX8_init_22 ?_
  refine g_iload_n o dX8_init_25 0 rfl ?_
  refine g_new (c := 4) o (by omega) (by decide) ⟨kl_X8_9, ki_X4.1, ki_X4.2⟩ (by omega) (show _ + 4 ≤ _ by omega) dX8_init_26 ?_
  refine g_shp e220 e222 e224 ?_
  refine g_nrm (k1 := 15) (k2 := 72) (n := n + 15) rfl rfl rfl ?_
  refine g_dup o dX8_init_29 (cat_rf _) ?_
  obtain ⟨hq, -⟩ := rc_at e226
  cases hq
  refine g_invIN o mn_X8_17 kb_X4_init kv_X4_init (c_X4_init (cq X) (cD X) (cY X) (cB X) (d := d) (by omega) (rc_at e226).2 e228) rfl rfl (by simp [cat_i, cat_l, cat_rf]) ⟨by omega, by omega⟩ dX8_init_30 ?_
  refine g_aast (k := 17) (c := 4) o (by omega) (by decide) e230 e226 dX8_init_33 ?_
  refine g_mem e232 ?_
  refine g_iinc (i := 1) (v := (14 : Int32)) (ls' := [(1, .int (14 : Int32)), (0, va_rf (some a0))]) o dX8_init_34 0 rfl (by decide) (ltL hL (by decide)) rfl ?_
  refine g_goto (tgt := 15) o dX8_init_37 (by decide) ?_
  refine g_iload_n o dX8_init_15 0 rfl ?_
  refine g_bipush (v := (16 : Int32)) o dX8_init_16 (by decide) ?_
  refine g_icmp_ge (tgt := 40) o dX8_init_18 (by decide) (fun q => absurd q (by decide)) (fun _ => ?_)
  refine g_aload_n o dX8_init_21 1 rfl ?_
  refine g_getR o fl_X8_11 e234 (by decide) rfl dX8_init_22 ?_
  refine g_iload_n o dX8_init_25 0 rfl ?_
  refine g_new (c := 4) o (by omega) (by decide) ⟨kl_X8_9, ki_X4.1, ki_X4.2⟩ (by omega) (show _ + 4 ≤ _ by omega) dX8_init_26 ?_
  refine g_shp e236 e238 e240 ?_
  refine g_nrm (k1 := 16) (k2 := 76) (n := n + 16) rfl rfl rfl ?_
  refine g_dup o dX8_init_29 (cat_rf _) ?_
  obtain ⟨hq, -⟩ := rc_at e242
  cases hq
  refine g_invIN o mn_X8_17 kb_X4_init kv_X4_init (c_X4_init (cq X) (cD X) (cY X) (cB X) (d := d) (by omega) (rc_at e242).2 e244) rfl rfl (by simp [cat_i, cat_l, cat_rf]) ⟨by omega, by omega⟩ dX8_init_30 ?_
  refine g_aast (k := 17) (c := 4) o (by omega) (by decide) e246 e242 dX8_init_33 ?_
  refine g_mem e248 ?_
  refine g_iinc (i := 1) (v := (15 : Int32)) (ls' := [(1, .int (15 : Int32)), (0, va_rf (some a0))]) o dX8_init_34 0 rfl (by decide) (ltL hL (by decide)) rfl ?_
  refine g_goto (tgt := 15) o dX8_init_37 (by decide) ?_
  refine g_iload_n o dX8_init_15 0 rfl ?_
  refine g_bipush (v := (16 : Int32)) o dX8_init_16 (by decide) ?_
  refine g_icmp_ge (tgt := 40) o dX8_init_18 (by decide) (fun q => absurd q (by decide)) (fun _ => ?_)
  refine g_aload_n o dX8_init_21 1 rfl ?_
  refine g_getR o fl_X8_11 e250 (by decide) rfl dX8_init_22 ?_
  refine g_iload_n o dX8_init_25 0 rfl ?_
  refine g_new (c := 4) o (by omega) (by decide) ⟨kl_X8_9, ki_X4.1, ki_X4.2⟩ (by omega) (show _ + 4 ≤ _ by omega) dX8_init_26 ?_
  refine g_shp e252 e254 e256 ?_
  refine g_nrm (k1 := 17) (k2 := 80) (n := n + 17) rfl rfl rfl ?_
  refine g_dup o dX8_init_29 (cat_rf _) ?_
  obtain ⟨hq, -⟩ := rc_at e258
  cases hq
  refine g_invIN o mn_X8_17 kb_X4_init kv_X4_init (c_X4_init (cq X) (cD X) (cY X) (cB X) (d := d) (by omega) (rc_at e258).2 e260) rfl rfl (by simp [cat_i, cat_l, cat_rf]) ⟨by omega, by omega⟩ dX8_init_30 ?_
  refine g_aast (k := 17) (c := 4) o (by omega) (by decide) e262 e258 dX8_init_33 ?_
  refine g_mem e264 ?_
  refine g_iinc (i := 1) (v := (16 : Int32)) (ls' := [(1, .int (16 : Int32)), (0, va_rf (some a0))]) o dX8_init_34 0 rfl (by decide) (ltL hL (by decide)) rfl ?_
  refine g_goto (tgt := 15) o dX8_init_37 (by decide) ?_
  refine g_iload_n o dX8_init_15 0 rfl ?_
  refine g_bipush (v := (16 : Int32)) o dX8_init_16 (by decide) ?_
  refine g_icmp_ge (tgt := 40) o dX8_init_18 (by decide) (fun _ => ?_) (fun q => absurd (by decide) q)
  exact g_vret o hr hE dX8_init_40
theorem c_X8_init (l : Launch) (D : va_G) (Y : Nat → ClassId) (B : Nat) {d : Nat} {n : Nat} {K L : Nat → Nat} {M : Mm} {a0 : Nat} {r : ((Nat → Nat) × (Nat → Nat) × Mm)} (hd : 2 ≤ d) (hk0 : K a0 = 8) (h : f_X8_init B  n a0  K L M = some r) : mC l D Y B d yX8_init cX8_init 2 (none) [va_rf (some a0)] n K L M (n + 17) r.1 r.2.1 r.2.2 none 17 80 := by
  obtain ⟨d, rfl⟩ : ∃ e, d = e + 1 := ⟨d - 1, by omega⟩
  refine mk_met (by decide) (by simp [lgs_r, lgs_i, lgs_l, lgs_n]) (fun X e1 e2 e3 e4 o hL hr hnm hz hc hs hE => ?_)
  subst e1 e2 e3 e4
  rw [show lv_args 0 [va_rf (some a0)] = [(0, va_rf (some a0))] by simp [lva_r, lva_i, lva_l, lva_n]]
  exact w_X8_init_0 o hL hr hnm hz hk0 hc hs hE hd h
def f_X9_init (B n : Nat) (a0 : Nat) (K L : Nat → Nat) (M : Mm) : Option ((Nat → Nat) × (Nat → Nat) × Mm) :=
  bn (va_up K (B + n) 6) (fun K1 =>
  bn (va_up L (B + n) 0) (fun L3 =>
  bn (mz M (B + n)) (fun M5 =>
  Option.bind (rc K1 (some (B + n)) 6) (fun a7 =>
  Option.bind (f_X6_init B (n + 1) a7 K1 L3 M5) (fun x9 =>
  Option.bind (rc x9.1 (some a0) 9) (fun a11 =>
  bn (ms_R x9.2.2 (32 * 9 + 3) a11 (some (B + n))) (fun M13 =>
  bn (va_up x9.1 (B + (n + 5)) 7) (fun K15 =>
  bn (va_up x9.2.1 (B + (n + 5)) 0) (fun L17 =>
  bn (mz M13 (B + (n + 5))) (fun M19 =>
  Option.bind (rc K15 (some (B + (n + 5))) 7) (fun a21 =>
  Option.bind (f_X7_init B (n + 6) a21 K15 L17 M19) (fun x23 =>
  Option.bind (rc x23.1 (some a0) 9) (fun a25 =>
  bn (ms_R x23.2.2 (32 * 9 + 4) a25 (some (B + (n + 5)))) (fun M27 =>
  bn (va_up x23.1 (B + (n + 8)) 3) (fun K29 =>
  bn (va_up x23.2.1 (B + (n + 8)) 0) (fun L31 =>
  bn (mz M27 (B + (n + 8))) (fun M33 =>
  Option.bind (rc K29 (some (B + (n + 8))) 3) (fun a35 =>
  Option.bind (f_X3_init B (n + 9) a35 K29 L31 M33) (fun x37 =>
  Option.bind (rc x37.1 (some a0) 9) (fun a39 =>
  bn (ms_R x37.2.2 (32 * 9 + 9) a39 (some (B + (n + 8)))) (fun M41 =>
  bn (va_up x37.1 (B + (n + 10)) 0) (fun K43 =>
  bn (va_up x37.2.1 (B + (n + 10)) 0) (fun L45 =>
  bn (mz M41 (B + (n + 10))) (fun M47 =>
  Option.bind (rc K43 (some (B + (n + 10))) 0) (fun a49 =>
  Option.bind (f_X0_init a49) (fun x51 =>
  Option.bind (rc K43 (some a0) 9) (fun a53 =>
  bn (ms_R M47 (32 * 9 + 10) a53 (some (B + (n + 10)))) (fun M55 =>
  bn (va_up K43 (B + (n + 11)) 10) (fun K57 =>
  bn (va_up L45 (B + (n + 11)) 0) (fun L59 =>
  bn (mz M55 (B + (n + 11))) (fun M61 =>
  Option.bind (rc K57 (some (B + (n + 11))) 10) (fun a63 =>
  Option.bind (f_X10_init a63) (fun x65 =>
  Option.bind (rc K57 (some a0) 9) (fun a67 =>
  bn (ms_R M61 (32 * 9 + 11) a67 (some (B + (n + 11)))) (fun M69 =>
  bn (va_up K57 (B + (n + 12)) 16) (fun K71 =>
  bn (va_up L59 (B + (n + 12)) 4) (fun L73 =>
  bn (mz M69 (B + (n + 12))) (fun M75 =>
  Option.bind (rc K71 (some a0) 9) (fun a77 =>
  bn (ms_R M75 (32 * 9 + 12) a77 (some (B + (n + 12)))) (fun M79 =>
  bn (va_up K71 (B + (n + 13)) 2) (fun K81 =>
  bn (va_up L73 (B + (n + 13)) 0) (fun L83 =>
  bn (mz M79 (B + (n + 13))) (fun M85 =>
  Option.bind (rc K81 (some (B + (n + 13))) 2) (fun a87 =>
  Option.bind (f_X2_init B (n + 14) a87 K81 L83 M85) (fun x89 =>
  Option.bind (rx x89.1 x89.2.1 (mm_R M79 (32 * 9 + 12) a77) 16 (0 : Int32)) (fun a91 =>
  Option.bind (rc x89.1 (some (B + (n + 13))) 2) (fun a93 =>
  bn (ms_C x89.2.2 a91 (va_up (mm_C x89.2.2 a91) (0 : Int32).toNatClampNeg (some a93))) (fun M95 =>
  Option.bind (rc x89.1 (some a0) 9) (fun a97 =>
  bn (va_up x89.1 (B + (n + 17)) 2) (fun K99 =>
  bn (va_up x89.2.1 (B + (n + 17)) 0) (fun L101 =>
  bn (mz M95 (B + (n + 17))) (fun M103 =>
  Option.bind (rc K99 (some (B + (n + 17))) 2) (fun a105 =>
  Option.bind (f_X2_init B (n + 18) a105 K99 L101 M103) (fun x107 =>
  Option.bind (rx x107.1 x107.2.1 (mm_R M95 (32 * 9 + 12) a97) 16 (1 : Int32)) (fun a109 =>
  Option.bind (rc x107.1 (some (B + (n + 17))) 2) (fun a111 =>
  bn (ms_C x107.2.2 a109 (va_up (mm_C x107.2.2 a109) (1 : Int32).toNatClampNeg (some a111))) (fun M113 =>
  Option.bind (rc x107.1 (some a0) 9) (fun a115 =>
  bn (va_up x107.1 (B + (n + 21)) 2) (fun K117 =>
  bn (va_up x107.2.1 (B + (n + 21)) 0) (fun L119 =>
  bn (mz M113 (B + (n + 21))) (fun M121 =>
  Option.bind (rc K117 (some (B + (n + 21))) 2) (fun a123 =>
  Option.bind (f_X2_init B (n + 22) a123 K117 L119 M121) (fun x125 =>
  Option.bind (rx x125.1 x125.2.1 (mm_R M113 (32 * 9 + 12) a115) 16 (2 : Int32)) (fun a127 =>
  Option.bind (rc x125.1 (some (B + (n + 21))) 2) (fun a129 =>
  bn (ms_C x125.2.2 a127 (va_up (mm_C x125.2.2 a127) (2 : Int32).toNatClampNeg (some a129))) (fun M131 =>
  Option.bind (rc x125.1 (some a0) 9) (fun a133 =>
  bn (va_up x125.1 (B + (n + 25)) 2) (fun K135 =>
  bn (va_up x125.2.1 (B + (n + 25)) 0) (fun L137 =>
  bn (mz M131 (B + (n + 25))) (fun M139 =>
  Option.bind (rc K135 (some (B + (n + 25))) 2) (fun a141 =>
  Option.bind (f_X2_init B (n + 26) a141 K135 L137 M139) (fun x143 =>
  Option.bind (rx x143.1 x143.2.1 (mm_R M131 (32 * 9 + 12) a133) 16 (3 : Int32)) (fun a145 =>
  Option.bind (rc x143.1 (some (B + (n + 25))) 2) (fun a147 =>
  bn (ms_C x143.2.2 a145 (va_up (mm_C x143.2.2 a145) (3 : Int32).toNatClampNeg (some a147))) (fun M149 =>
  some (x143.1, x143.2.1, M149))))))))))))))))))))))))))))))))))))))))))))))))))))))))))))))))))))))))))))
set_option maxHeartbeats 8000000 in
set_option maxRecDepth 20000 in
theorem w_X9_init_0 {X : Cx} {d : Nat} {n : Nat} {K L : Nat → Nat} {M : Mm} {a0 : Nat} {r : ((Nat → Nat) × (Nat → Nat) × Mm)} (o : cOk X cX9_init RX9 (d + 1)) (hL : cL X = 2) (hr : (ch X).sig.returnType = none) (hnm : (ch X).name = yX9_init.name) (hz : (cs X).heap.size + 0 = cB X + n) (hk0 : K a0 = 9) (hc : (cR X).cells = 29) (hs : (cR X).slots = 2992) (hE : cE X (n + 29) r.1 r.2.1 r.2.2 none 29 2992) (hd : 2 ≤ d + 1) (h : f_X9_init (cB X)  n a0  K L M = some r) : gW X 0 0 n K L M 0 [(0, va_rf (some a0))] [] := by
  unfold f_X9_init at h
  obtain ⟨K1, e2, h⟩ := bn_at h
  obtain ⟨L3, e4, h⟩ := bn_at h
  obtain ⟨M5, e6, h⟩ := bn_at h
  obtain ⟨a7, e8, h⟩ := ob h
  obtain ⟨x9, e10, h⟩ := ob h
  obtain ⟨a11, e12, h⟩ := ob h
  obtain ⟨M13, e14, h⟩ := bn_at h
  obtain ⟨K15, e16, h⟩ := bn_at h
  obtain ⟨L17, e18, h⟩ := bn_at h
  obtain ⟨M19, e20, h⟩ := bn_at h
  obtain ⟨a21, e22, h⟩ := ob h
  obtain ⟨x23, e24, h⟩ := ob h
  obtain ⟨a25, e26, h⟩ := ob h
  obtain ⟨M27, e28, h⟩ := bn_at h
  obtain ⟨K29, e30, h⟩ := bn_at h
  obtain ⟨L31, e32, h⟩ := bn_at h
  obtain ⟨M33, e34, h⟩ := bn_at h
  obtain ⟨a35, e36, h⟩ := ob h
  obtain ⟨x37, e38, h⟩ := ob h
  obtain ⟨a39, e40, h⟩ := ob h
  obtain ⟨M41, e42, h⟩ := bn_at h
  obtain ⟨K43, e44, h⟩ := bn_at h
  obtain ⟨L45, e46, h⟩ := bn_at h
  obtain ⟨M47, e48, h⟩ := bn_at h
  obtain ⟨a49, e50, h⟩ := ob h
  obtain ⟨x51, e52, h⟩ := ob h
  obtain ⟨a53, e54, h⟩ := ob h
  obtain ⟨M55, e56, h⟩ := bn_at h
  obtain ⟨K57, e58, h⟩ := bn_at h
  obtain ⟨L59, e60, h⟩ := bn_at h
  obtain ⟨M61, e62, h⟩ := bn_at h
  obtain ⟨a63, e64, h⟩ := ob h
  obtain ⟨x65, e66, h⟩ := ob h
  obtain ⟨a67, e68, h⟩ := ob h
  obtain ⟨M69, e70, h⟩ := bn_at h
  obtain ⟨K71, e72, h⟩ := bn_at h
  obtain ⟨L73, e74, h⟩ := bn_at h
  obtain ⟨M75, e76, h⟩ := bn_at h
  obtain ⟨a77, e78, h⟩ := ob h
  obtain ⟨M79, e80, h⟩ := bn_at h
  obtain ⟨K81, e82, h⟩ := bn_at h
  obtain ⟨L83, e84, h⟩ := bn_at h
  obtain ⟨M85, e86, h⟩ := bn_at h
  obtain ⟨a87, e88, h⟩ := ob h
  obtain ⟨x89, e90, h⟩ := ob h
  obtain ⟨a91, e92, h⟩ := ob h
  obtain ⟨a93, e94, h⟩ := ob h
  obtain ⟨M95, e96, h⟩ := bn_at h
  obtain ⟨a97, e98, h⟩ := ob h
  obtain ⟨K99, e100, h⟩ := bn_at h
  obtain ⟨L101, e102, h⟩ := bn_at h
  obtain ⟨M103, e104, h⟩ := bn_at h
  obtain ⟨a105, e106, h⟩ := ob h
  obtain ⟨x107, e108, h⟩ := ob h
  obtain ⟨a109, e110, h⟩ := ob h
  obtain ⟨a111, e112, h⟩ := ob h
  obtain ⟨M113, e114, h⟩ := bn_at h
  obtain ⟨a115, e116, h⟩ := ob h
  obtain ⟨K117, e118, h⟩ := bn_at h
  obtain ⟨L119, e120, h⟩ := bn_at h
  obtain ⟨M121, e122, h⟩ := bn_at h
  obtain ⟨a123, e124, h⟩ := ob h
  obtain ⟨x125, e126, h⟩ := ob h
  obtain ⟨a127, e128, h⟩ := ob h
  obtain ⟨a129, e130, h⟩ := ob h
  obtain ⟨M131, e132, h⟩ := bn_at h
  obtain ⟨a133, e134, h⟩ := ob h
  obtain ⟨K135, e136, h⟩ := bn_at h
  obtain ⟨L137, e138, h⟩ := bn_at h
  obtain ⟨M139, e140, h⟩ := bn_at h
  obtain ⟨a141, e142, h⟩ := ob h
  obtain ⟨x143, e144, h⟩ := ob h
  obtain ⟨a145, e146, h⟩ := ob h
  obtain ⟨a147, e148, h⟩ := ob h
  obtain ⟨M149, e150, h⟩ := bn_at h
  cases h
  dsimp only at hc hs hE
  refine g_aload_n o dX9_init_0 0 rfl ?_
  refine g_objInit o (by omega) ml_X9_3 (by simp [cat_i, cat_l, cat_rf]) dX9_init_1 ?_
  refine g_aload_n o dX9_init_4 0 rfl ?_
  refine g_new (c := 6) o hz (by decide) ⟨kl_X9_9, ki_X6.1, ki_X6.2⟩ (by omega) (show _ + 5 ≤ _ by omega) dX9_init_5 ?_
  refine g_shp e2 e4 e6 ?_
  refine g_nrm (k1 := 1) (k2 := 5) (n := n + 1) rfl rfl rfl ?_
  refine g_dup o dX9_init_8 (cat_rf _) ?_
  obtain ⟨hq, -⟩ := rc_at e8
  cases hq
  refine g_invIN o mn_X9_11 kb_X6_init kv_X6_init (c_X6_init (cq X) (cD X) (cY X) (cB X) (d := d) (by omega) (rc_at e8).2 e10) rfl rfl (by simp [cat_i, cat_l, cat_rf]) ⟨by omega, by omega⟩ dX9_init_9 ?_
  refine g_nrm (k1 := 5) (k2 := 29) (n := n + 5) rfl rfl rfl ?_
  refine g_putFR o (by omega) hnm fl_X9_12 e12 (by decide) rfl rfl rfl rfl dX9_init_12 ?_
  refine g_mem e14 ?_
  refine g_aload_n o dX9_init_15 0 rfl ?_
  refine g_new (c := 7) o (by omega) (by decide) ⟨kl_X9_18, ki_X7.1, ki_X7.2⟩ (by omega) (show _ + 2 ≤ _ by omega) dX9_init_16 ?_
  refine g_shp e16 e18 e20 ?_
  refine g_nrm (k1 := 6) (k2 := 31) (n := n + 6) rfl rfl rfl ?_
  refine g_dup o dX9_init_19 (cat_rf _) ?_
  obtain ⟨hq, -⟩ := rc_at e22
  cases hq
  refine g_invIN o mn_X9_20 kb_X7_init kv_X7_init (c_X7_init (cq X) (cD X) (cY X) (cB X) (d := d) (by omega) (rc_at e22).2 e24) rfl rfl (by simp [cat_i, cat_l, cat_rf]) ⟨by omega, by omega⟩ dX9_init_20 ?_
  refine g_nrm (k1 := 8) (k2 := 47) (n := n + 8) rfl rfl rfl ?_
  refine g_putFR o (by omega) hnm fl_X9_21 e26 (by decide) rfl rfl rfl rfl dX9_init_23 ?_
  refine g_mem e28 ?_
  refine g_aload_n o dX9_init_26 0 rfl ?_
  refine g_new (c := 3) o (by omega) (by decide) ⟨kl_X9_25, ki_X3.1, ki_X3.2⟩ (by omega) (show _ + 3 ≤ _ by omega) dX9_init_27 ?_
  refine g_shp e30 e32 e34 ?_
  refine g_nrm (k1 := 9) (k2 := 50) (n := n + 9) rfl rfl rfl ?_
  refine g_dup o dX9_init_30 (cat_rf _) ?_
  obtain ⟨hq, -⟩ := rc_at e36
  cases hq
  refine g_invIN o mn_X9_27 kb_X3_init kv_X3_init (c_X3_init (cq X) (cD X) (cY X) (cB X) (d := d) (by omega) (rc_at e36).2 e38) rfl rfl (by simp [cat_i, cat_l, cat_rf]) ⟨by omega, by omega⟩ dX9_init_31 ?_
  refine g_nrm (k1 := 10) (k2 := 70) (n := n + 10) rfl rfl rfl ?_
  refine g_putFR o (by omega) hnm fl_X9_28 e40 (by decide) rfl rfl rfl rfl dX9_init_34 ?_
  refine g_mem e42 ?_
  refine g_aload_n o dX9_init_37 0 rfl ?_
  refine g_new (c := 0) o (by omega) (by decide) ⟨kl_X9_32, ki_X0.1, ki_X0.2⟩ (by omega) (show _ + 7 ≤ _ by omega) dX9_init_38 ?_
  refine g_shp e44 e46 e48 ?_
  refine g_nrm (k1 := 11) (k2 := 77) (n := n + 11) rfl rfl rfl ?_
  refine g_dup o dX9_init_41 (cat_rf _) ?_
  obtain ⟨hq, -⟩ := rc_at e50
  cases hq
  refine g_invIN o mn_X9_34 kb_X0_init kv_X0_init (c_X0_init (cq X) (cD X) (cY X) (cB X) (d := d) (by omega) (rc_at e50).2 e52) rfl rfl (by simp [cat_i, cat_l, cat_rf]) ⟨by omega, by omega⟩ dX9_init_42 ?_
  refine g_putFR o (by omega) hnm fl_X9_35 e54 (by decide) rfl rfl rfl rfl dX9_init_45 ?_
  refine g_mem e56 ?_
  refine g_aload_n o dX9_init_48 0 rfl ?_
  refine g_new (c := 10) o (by omega) (by decide) ⟨kl_X9_39, ki_X10.1, ki_X10.2⟩ (by omega) (show _ + 11 ≤ _ by omega) dX9_init_49 ?_
  refine g_shp e58 e60 e62 ?_
  refine g_nrm (k1 := 12) (k2 := 88) (n := n + 12) rfl rfl rfl ?_
  refine g_dup o dX9_init_52 (cat_rf _) ?_
  obtain ⟨hq, -⟩ := rc_at e64
  cases hq
  refine g_invIN o mn_X9_41 kb_X10_init kv_X10_init (c_X10_init (cq X) (cD X) (cY X) (cB X) (d := d) (by omega) (rc_at e64).2 e66) rfl rfl (by simp [cat_i, cat_l, cat_rf]) ⟨by omega, by omega⟩ dX9_init_53 ?_
  refine g_putFR o (by omega) hnm fl_X9_42 e68 (by decide) rfl rfl rfl rfl dX9_init_56 ?_
  refine g_mem e70 ?_
  refine g_aload_n o dX9_init_59 0 rfl ?_
  refine g_iconst (v := (4 : Int32)) o dX9_init_60 (by decide) ?_
  refine g_newC (z := 4) (k := 16) (c := 2) o (by omega) (by decide) kl_X9_46 (by decide) (by omega) (by omega) dX9_init_61 ?_
  refine g_shp e72 e74 e76 ?_
  refine g_nrm (k1 := 13) (k2 := 92) (n := n + 13) rfl rfl rfl ?_
  refine g_putFR o (by omega) hnm fl_X9_48 e78 (by decide) rfl rfl rfl rfl dX9_init_64 ?_
  refine g_mem e80 ?_
  refine g_iconst (v := (0 : Int32)) o dX9_init_67 (by decide) ?_
  refine g_istore_n (i := 1) (ls' := [(1, .int (0 : Int32)), (0, va_rf (some a0))]) o dX9_init_68 rfl (ltL hL (by decide)) rfl ?_
  refine g_iload_n o dX9_init_69 0 rfl ?_
  refine g_iconst (v := (4 : Int32)) o dX9_init_70 (by decide) ?_
  refine g_icmp_ge (tgt := 93) o dX9_init_71 (by decide) (fun q => absurd q (by decide)) (fun _ => ?_)
  refine g_aload_n o dX9_init_74 1 rfl ?_
  refine g_getR o fl_X9_48 e78 (by decide) rfl dX9_init_75 ?_
  refine g_iload_n o dX9_init_78 0 rfl ?_
  refine g_new (c := 2) o (by omega) (by decide) ⟨kl_X9_46, ki_X2.1, ki_X2.2⟩ (by omega) (show _ + 5 ≤ _ by omega) dX9_init_79 ?_
  refine g_shp e82 e84 e86 ?_
  refine g_nrm (k1 := 14) (k2 := 97) (n := n + 14) rfl rfl rfl ?_
  refine g_dup o dX9_init_82 (cat_rf _) ?_
  obtain ⟨hq, -⟩ := rc_at e88
  cases hq
  refine g_invIN o mn_X9_52 kb_X2_init kv_X2_init (c_X2_init (cq X) (cD X) (cY X) (cB X) (d := d) (by omega) (rc_at e88).2 e90) rfl rfl (by simp [cat_i, cat_l, cat_rf]) ⟨by omega, by omega⟩ dX9_init_83 ?_
  refine g_nrm (k1 := 17) (k2 := 817) (n := n + 17) rfl rfl rfl ?_
  refine g_aast (k := 16) (c := 2) o (by omega) (by decide) e92 e94 dX9_init_86 ?_
  refine g_mem e96 ?_
  refine g_iinc (i := 1) (v := (1 : Int32)) (ls' := [(1, .int (1 : Int32)), (0, va_rf (some a0))]) o dX9_init_87 0 rfl (by decide) (ltL hL (by decide)) rfl ?_
  refine g_goto (tgt := 69) o dX9_init_90 (by decide) ?_
  refine g_iload_n o dX9_init_69 0 rfl ?_
  refine g_iconst (v := (4 : Int32)) o dX9_init_70 (by decide) ?_
  refine g_icmp_ge (tgt := 93) o dX9_init_71 (by decide) (fun q => absurd q (by decide)) (fun _ => ?_)
  refine g_aload_n o dX9_init_74 1 rfl ?_
  refine g_getR o fl_X9_48 e98 (by decide) rfl dX9_init_75 ?_
  refine g_iload_n o dX9_init_78 0 rfl ?_
  refine g_new (c := 2) o (by omega) (by decide) ⟨kl_X9_46, ki_X2.1, ki_X2.2⟩ (by omega) (show _ + 5 ≤ _ by omega) dX9_init_79 ?_
  refine g_shp e100 e102 e104 ?_
  refine g_nrm (k1 := 18) (k2 := 822) (n := n + 18) rfl rfl rfl ?_
  refine g_dup o dX9_init_82 (cat_rf _) ?_
  obtain ⟨hq, -⟩ := rc_at e106
  cases hq
  refine g_invIN o mn_X9_52 kb_X2_init kv_X2_init (c_X2_init (cq X) (cD X) (cY X) (cB X) (d := d) (by omega) (rc_at e106).2 e108) rfl rfl (by simp [cat_i, cat_l, cat_rf]) ⟨by omega, by omega⟩ dX9_init_83 ?_
  refine g_nrm (k1 := 21) (k2 := 1542) (n := n + 21) rfl rfl rfl ?_
  refine g_aast (k := 16) (c := 2) o (by omega) (by decide) e110 e112 dX9_init_86 ?_
  refine g_mem e114 ?_
  refine g_iinc (i := 1) (v := (2 : Int32)) (ls' := [(1, .int (2 : Int32)), (0, va_rf (some a0))]) o dX9_init_87 0 rfl (by decide) (ltL hL (by decide)) rfl ?_
  refine g_goto (tgt := 69) o dX9_init_90 (by decide) ?_
  refine g_iload_n o dX9_init_69 0 rfl ?_
  refine g_iconst (v := (4 : Int32)) o dX9_init_70 (by decide) ?_
  refine g_icmp_ge (tgt := 93) o dX9_init_71 (by decide) (fun q => absurd q (by decide)) (fun _ => ?_)
  refine g_aload_n o dX9_init_74 1 rfl ?_
  refine g_getR o fl_X9_48 e116 (by decide) rfl dX9_init_75 ?_
  refine g_iload_n o dX9_init_78 0 rfl ?_
  refine g_new (c := 2) o (by omega) (by decide) ⟨kl_X9_46, ki_X2.1, ki_X2.2⟩ (by omega) (show _ + 5 ≤ _ by omega) dX9_init_79 ?_
  refine g_shp e118 e120 e122 ?_
  refine g_nrm (k1 := 22) (k2 := 1547) (n := n + 22) rfl rfl rfl ?_
  refine g_dup o dX9_init_82 (cat_rf _) ?_
  obtain ⟨hq, -⟩ := rc_at e124
  cases hq
  refine g_invIN o mn_X9_52 kb_X2_init kv_X2_init (c_X2_init (cq X) (cD X) (cY X) (cB X) (d := d) (by omega) (rc_at e124).2 e126) rfl rfl (by simp [cat_i, cat_l, cat_rf]) ⟨by omega, by omega⟩ dX9_init_83 ?_
  refine g_nrm (k1 := 25) (k2 := 2267) (n := n + 25) rfl rfl rfl ?_
  refine g_aast (k := 16) (c := 2) o (by omega) (by decide) e128 e130 dX9_init_86 ?_
  refine g_mem e132 ?_
  refine g_iinc (i := 1) (v := (3 : Int32)) (ls' := [(1, .int (3 : Int32)), (0, va_rf (some a0))]) o dX9_init_87 0 rfl (by decide) (ltL hL (by decide)) rfl ?_
  refine g_goto (tgt := 69) o dX9_init_90 (by decide) ?_
  refine g_iload_n o dX9_init_69 0 rfl ?_
  refine g_iconst (v := (4 : Int32)) o dX9_init_70 (by decide) ?_
  refine g_icmp_ge (tgt := 93) o dX9_init_71 (by decide) (fun q => absurd q (by decide)) (fun _ => ?_)
  refine g_aload_n o dX9_init_74 1 rfl ?_
  refine g_getR o fl_X9_48 e134 (by decide) rfl dX9_init_75 ?_
  refine g_iload_n o dX9_init_78 0 rfl ?_
  refine g_new (c := 2) o (by omega) (by decide) ⟨kl_X9_46, ki_X2.1, ki_X2.2⟩ (by omega) (show _ + 5 ≤ _ by omega) dX9_init_79 ?_
  refine g_shp e136 e138 e140 ?_
  refine g_nrm (k1 := 26) (k2 := 2272) (n := n + 26) rfl rfl rfl ?_
  refine g_dup o dX9_init_82 (cat_rf _) ?_
  obtain ⟨hq, -⟩ := rc_at e142
  cases hq
  refine g_invIN o mn_X9_52 kb_X2_init kv_X2_init (c_X2_init (cq X) (cD X) (cY X) (cB X) (d := d) (by omega) (rc_at e142).2 e144) rfl rfl (by simp [cat_i, cat_l, cat_rf]) ⟨by omega, by omega⟩ dX9_init_83 ?_
  refine g_nrm (k1 := 29) (k2 := 2992) (n := n + 29) rfl rfl rfl ?_
  refine g_aast (k := 16) (c := 2) o (by omega) (by decide) e146 e148 dX9_init_86 ?_
  refine g_mem e150 ?_
  refine g_iinc (i := 1) (v := (4 : Int32)) (ls' := [(1, .int (4 : Int32)), (0, va_rf (some a0))]) o dX9_init_87 0 rfl (by decide) (ltL hL (by decide)) rfl ?_
  refine g_goto (tgt := 69) o dX9_init_90 (by decide) ?_
  refine g_iload_n o dX9_init_69 0 rfl ?_
  refine g_iconst (v := (4 : Int32)) o dX9_init_70 (by decide) ?_
  refine g_icmp_ge (tgt := 93) o dX9_init_71 (by decide) (fun _ => ?_) (fun q => absurd (by decide) q)
  exact g_vret o hr hE dX9_init_93
theorem c_X9_init (l : Launch) (D : va_G) (Y : Nat → ClassId) (B : Nat) {d : Nat} {n : Nat} {K L : Nat → Nat} {M : Mm} {a0 : Nat} {r : ((Nat → Nat) × (Nat → Nat) × Mm)} (hd : 2 ≤ d) (hk0 : K a0 = 9) (h : f_X9_init B  n a0  K L M = some r) : mC l D Y B d yX9_init cX9_init 2 (none) [va_rf (some a0)] n K L M (n + 29) r.1 r.2.1 r.2.2 none 29 2992 := by
  obtain ⟨d, rfl⟩ : ∃ e, d = e + 1 := ⟨d - 1, by omega⟩
  refine mk_met (by decide) (by simp [lgs_r, lgs_i, lgs_l, lgs_n]) (fun X e1 e2 e3 e4 o hL hr hnm hz hc hs hE => ?_)
  subst e1 e2 e3 e4
  rw [show lv_args 0 [va_rf (some a0)] = [(0, va_rf (some a0))] by simp [lva_r, lva_i, lva_l, lva_n]]
  exact w_X9_init_0 o hL hr hnm hz hk0 hc hs hE hd h
def f_X11_init (B n : Nat) (a0 : Nat) (K L : Nat → Nat) (M : Mm) : Option ((Nat → Nat) × (Nat → Nat) × Mm) :=
  bn (va_up K (B + n) 8) (fun K1 =>
  bn (va_up L (B + n) 0) (fun L3 =>
  bn (mz M (B + n)) (fun M5 =>
  Option.bind (rc K1 (some (B + n)) 8) (fun a7 =>
  Option.bind (f_X8_init B (n + 1) a7 K1 L3 M5) (fun x9 =>
  Option.bind (rc x9.1 (some a0) 11) (fun a11 =>
  bn (ms_R x9.2.2 (32 * 11 + 0) a11 (some (B + n))) (fun M13 =>
  bn (va_up x9.1 (B + (n + 18)) 8) (fun K15 =>
  bn (va_up x9.2.1 (B + (n + 18)) 0) (fun L17 =>
  bn (mz M13 (B + (n + 18))) (fun M19 =>
  Option.bind (rc K15 (some (B + (n + 18))) 8) (fun a21 =>
  Option.bind (f_X8_init B (n + 19) a21 K15 L17 M19) (fun x23 =>
  Option.bind (rc x23.1 (some a0) 11) (fun a25 =>
  bn (ms_R x23.2.2 (32 * 11 + 1) a25 (some (B + (n + 18)))) (fun M27 =>
  bn (ms_I M27 (32 * 11 + 2) a25 (0 : Int32)) (fun M29 =>
  bn (va_up x23.1 (B + (n + 36)) 1) (fun K31 =>
  bn (va_up x23.2.1 (B + (n + 36)) 0) (fun L33 =>
  bn (mz M29 (B + (n + 36))) (fun M35 =>
  Option.bind (rc K31 (some (B + (n + 36))) 1) (fun a37 =>
  Option.bind (f_X1_init B (n + 37) a37 K31 L33 M35) (fun x39 =>
  Option.bind (rc x39.1 (some a0) 11) (fun a41 =>
  bn (ms_R x39.2.2 (32 * 11 + 3) a41 (some (B + (n + 36)))) (fun M43 =>
  bn (va_up x39.1 (B + (n + 38)) 5) (fun K45 =>
  bn (va_up x39.2.1 (B + (n + 38)) 0) (fun L47 =>
  bn (mz M43 (B + (n + 38))) (fun M49 =>
  Option.bind (rc K45 (some (B + (n + 38))) 5) (fun a51 =>
  Option.bind (f_X5_init B (n + 39) a51 K45 L47 M49) (fun x53 =>
  Option.bind (rc x53.1 (some a0) 11) (fun a55 =>
  bn (ms_R x53.2.2 (32 * 11 + 4) a55 (some (B + (n + 38)))) (fun M57 =>
  bn (va_up x53.1 (B + (n + 42)) 13) (fun K59 =>
  bn (va_up x53.2.1 (B + (n + 42)) 14) (fun L61 =>
  bn (mz M57 (B + (n + 42))) (fun M63 =>
  Option.bind (rc K59 (some a0) 11) (fun a65 =>
  bn (ms_R M63 (32 * 11 + 5) a65 (some (B + (n + 42)))) (fun M67 =>
  some (K59, L61, M67)))))))))))))))))))))))))))))))))))
set_option maxHeartbeats 8000000 in
set_option maxRecDepth 20000 in
theorem w_X11_init_0 {X : Cx} {d : Nat} {n : Nat} {K L : Nat → Nat} {M : Mm} {a0 : Nat} {r : ((Nat → Nat) × (Nat → Nat) × Mm)} (o : cOk X cX11_init RX11 (d + 1)) (hL : cL X = 1) (hr : (ch X).sig.returnType = none) (hnm : (ch X).name = yX11_init.name) (hz : (cs X).heap.size + 0 = cB X + n) (hk0 : K a0 = 11) (hc : (cR X).cells = 43) (hs : (cR X).slots = 252) (hE : cE X (n + 43) r.1 r.2.1 r.2.2 none 43 252) (hd : 3 ≤ d + 1) (h : f_X11_init (cB X)  n a0  K L M = some r) : gW X 0 0 n K L M 0 [(0, va_rf (some a0))] [] := by
  unfold f_X11_init at h
  obtain ⟨K1, e2, h⟩ := bn_at h
  obtain ⟨L3, e4, h⟩ := bn_at h
  obtain ⟨M5, e6, h⟩ := bn_at h
  obtain ⟨a7, e8, h⟩ := ob h
  obtain ⟨x9, e10, h⟩ := ob h
  obtain ⟨a11, e12, h⟩ := ob h
  obtain ⟨M13, e14, h⟩ := bn_at h
  obtain ⟨K15, e16, h⟩ := bn_at h
  obtain ⟨L17, e18, h⟩ := bn_at h
  obtain ⟨M19, e20, h⟩ := bn_at h
  obtain ⟨a21, e22, h⟩ := ob h
  obtain ⟨x23, e24, h⟩ := ob h
  obtain ⟨a25, e26, h⟩ := ob h
  obtain ⟨M27, e28, h⟩ := bn_at h
  obtain ⟨M29, e30, h⟩ := bn_at h
  obtain ⟨K31, e32, h⟩ := bn_at h
  obtain ⟨L33, e34, h⟩ := bn_at h
  obtain ⟨M35, e36, h⟩ := bn_at h
  obtain ⟨a37, e38, h⟩ := ob h
  obtain ⟨x39, e40, h⟩ := ob h
  obtain ⟨a41, e42, h⟩ := ob h
  obtain ⟨M43, e44, h⟩ := bn_at h
  obtain ⟨K45, e46, h⟩ := bn_at h
  obtain ⟨L47, e48, h⟩ := bn_at h
  obtain ⟨M49, e50, h⟩ := bn_at h
  obtain ⟨a51, e52, h⟩ := ob h
  obtain ⟨x53, e54, h⟩ := ob h
  obtain ⟨a55, e56, h⟩ := ob h
  obtain ⟨M57, e58, h⟩ := bn_at h
  obtain ⟨K59, e60, h⟩ := bn_at h
  obtain ⟨L61, e62, h⟩ := bn_at h
  obtain ⟨M63, e64, h⟩ := bn_at h
  obtain ⟨a65, e66, h⟩ := ob h
  obtain ⟨M67, e68, h⟩ := bn_at h
  cases h
  dsimp only at hc hs hE
  refine g_aload_n o dX11_init_0 0 rfl ?_
  refine g_objInit o (by omega) ml_X11_1 (by simp [cat_i, cat_l, cat_rf]) dX11_init_1 ?_
  refine g_aload_n o dX11_init_4 0 rfl ?_
  refine g_new (c := 8) o hz (by decide) ⟨kl_X11_7, ki_X8.1, ki_X8.2⟩ (by omega) (show _ + 1 ≤ _ by omega) dX11_init_5 ?_
  refine g_shp e2 e4 e6 ?_
  refine g_nrm (k1 := 1) (k2 := 1) (n := n + 1) rfl rfl rfl ?_
  refine g_dup o dX11_init_8 (cat_rf _) ?_
  obtain ⟨hq, -⟩ := rc_at e8
  cases hq
  refine g_invI o ml_X11_9 kb_X8_init kv_X8_init (c_X8_init (cq X) (cD X) (cY X) (cB X) (d := d) (by omega) (rc_at e8).2 e10) rfl rfl (by simp [cat_i, cat_l, cat_rf]) ⟨by omega, by omega⟩ dX11_init_9 ?_
  refine g_nrm (k1 := 18) (k2 := 81) (n := n + 18) rfl rfl rfl ?_
  refine g_putFR o (by omega) hnm fl_X11_10 e12 (by decide) rfl rfl rfl rfl dX11_init_12 ?_
  refine g_mem e14 ?_
  refine g_aload_n o dX11_init_15 0 rfl ?_
  refine g_new (c := 8) o (by omega) (by decide) ⟨kl_X11_7, ki_X8.1, ki_X8.2⟩ (by omega) (show _ + 1 ≤ _ by omega) dX11_init_16 ?_
  refine g_shp e16 e18 e20 ?_
  refine g_nrm (k1 := 19) (k2 := 82) (n := n + 19) rfl rfl rfl ?_
  refine g_dup o dX11_init_19 (cat_rf _) ?_
  obtain ⟨hq, -⟩ := rc_at e22
  cases hq
  refine g_invI o ml_X11_9 kb_X8_init kv_X8_init (c_X8_init (cq X) (cD X) (cY X) (cB X) (d := d) (by omega) (rc_at e22).2 e24) rfl rfl (by simp [cat_i, cat_l, cat_rf]) ⟨by omega, by omega⟩ dX11_init_20 ?_
  refine g_nrm (k1 := 36) (k2 := 162) (n := n + 36) rfl rfl rfl ?_
  refine g_putFR o (by omega) hnm fl_X11_16 e26 (by decide) rfl rfl rfl rfl dX11_init_23 ?_
  refine g_mem e28 ?_
  refine g_aload_n o dX11_init_26 0 rfl ?_
  refine g_iconst (v := (0 : Int32)) o dX11_init_27 (by decide) ?_
  refine g_putZ o (by omega) fl_X11_19 e26 (by decide) rfl rfl rfl (by decide) dX11_init_28 ?_
  refine g_mem e30 ?_
  refine g_aload_n o dX11_init_31 0 rfl ?_
  refine g_new (c := 1) o (by omega) (by decide) ⟨kl_X11_23, ki_X1.1, ki_X1.2⟩ (by omega) (show _ + 8 ≤ _ by omega) dX11_init_32 ?_
  refine g_shp e32 e34 e36 ?_
  refine g_nrm (k1 := 37) (k2 := 170) (n := n + 37) rfl rfl rfl ?_
  refine g_dup o dX11_init_35 (cat_rf _) ?_
  obtain ⟨hq, -⟩ := rc_at e38
  cases hq
  refine g_invIN o mn_X11_25 kb_X1_init kv_X1_init (c_X1_init (cq X) (cD X) (cY X) (cB X) (d := d) (by omega) (rc_at e38).2 e40) rfl rfl (by simp [cat_i, cat_l, cat_rf]) ⟨by omega, by omega⟩ dX11_init_36 ?_
  refine g_nrm (k1 := 38) (k2 := 186) (n := n + 38) rfl rfl rfl ?_
  refine g_putFR o (by omega) hnm fl_X11_26 e42 (by decide) rfl rfl rfl rfl dX11_init_39 ?_
  refine g_mem e44 ?_
  refine g_aload_n o dX11_init_42 0 rfl ?_
  refine g_new (c := 5) o (by omega) (by decide) ⟨kl_X11_30, ki_X5.1, ki_X5.2⟩ (by omega) (show _ + 4 ≤ _ by omega) dX11_init_43 ?_
  refine g_shp e46 e48 e50 ?_
  refine g_nrm (k1 := 39) (k2 := 190) (n := n + 39) rfl rfl rfl ?_
  refine g_dup o dX11_init_46 (cat_rf _) ?_
  obtain ⟨hq, -⟩ := rc_at e52
  cases hq
  refine g_invIN o mn_X11_32 kb_X5_init kv_X5_init (c_X5_init (cq X) (cD X) (cY X) (cB X) (d := d) (by omega) (rc_at e52).2 e54) rfl rfl (by simp [cat_i, cat_l, cat_rf]) ⟨by omega, by omega⟩ dX11_init_47 ?_
  refine g_nrm (k1 := 42) (k2 := 238) (n := n + 42) rfl rfl rfl ?_
  refine g_putFR o (by omega) hnm fl_X11_33 e56 (by decide) rfl rfl rfl rfl dX11_init_50 ?_
  refine g_mem e58 ?_
  refine g_aload_n o dX11_init_53 0 rfl ?_
  refine g_bipush (v := (14 : Int32)) o dX11_init_54 (by decide) ?_
  refine g_newI (z := 14) o (by omega) (by decide) (by omega) (by omega) dX11_init_56 ?_
  refine g_shp e60 e62 e64 ?_
  refine g_nrm (k1 := 43) (k2 := 252) (n := n + 43) rfl rfl rfl ?_
  refine g_putFR o (by omega) hnm fl_X11_37 e66 (by decide) rfl rfl rfl rfl dX11_init_58 ?_
  refine g_mem e68 ?_
  exact g_vret o hr hE dX11_init_61
theorem c_X11_init (l : Launch) (D : va_G) (Y : Nat → ClassId) (B : Nat) {d : Nat} {n : Nat} {K L : Nat → Nat} {M : Mm} {a0 : Nat} {r : ((Nat → Nat) × (Nat → Nat) × Mm)} (hd : 3 ≤ d) (hk0 : K a0 = 11) (h : f_X11_init B  n a0  K L M = some r) : mC l D Y B d yX11_init cX11_init 1 (none) [va_rf (some a0)] n K L M (n + 43) r.1 r.2.1 r.2.2 none 43 252 := by
  obtain ⟨d, rfl⟩ : ∃ e, d = e + 1 := ⟨d - 1, by omega⟩
  refine mk_met (by decide) (by simp [lgs_r, lgs_i, lgs_l, lgs_n]) (fun X e1 e2 e3 e4 o hL hr hnm hz hc hs hE => ?_)
  subst e1 e2 e3 e4
  rw [show lv_args 0 [va_rf (some a0)] = [(0, va_rf (some a0))] by simp [lva_r, lva_i, lva_l, lva_n]]
  exact w_X11_init_0 o hL hr hnm hz hk0 hc hs hE hd h
def f_X12_init (B n : Nat) (a0 : Nat) (K L : Nat → Nat) (M : Mm) : Option ((Nat → Nat) × (Nat → Nat) × Mm) :=
  bn (va_up K (B + n) 13) (fun K1 =>
  bn (va_up L (B + n) 63040) (fun L3 =>
  bn (mz M (B + n)) (fun M5 =>
  Option.bind (rc K1 (some a0) 12) (fun a7 =>
  bn (ms_R M5 (32 * 12 + 0) a7 (some (B + n))) (fun M9 =>
  bn (va_up K1 (B + (n + 1)) 13) (fun K11 =>
  bn (va_up L3 (B + (n + 1)) 63040) (fun L13 =>
  bn (mz M9 (B + (n + 1))) (fun M15 =>
  Option.bind (rc K11 (some a0) 12) (fun a17 =>
  bn (ms_R M15 (32 * 12 + 1) a17 (some (B + (n + 1)))) (fun M19 =>
  bn (va_up K11 (B + (n + 2)) 14) (fun K21 =>
  bn (va_up L13 (B + (n + 2)) 16) (fun L23 =>
  bn (mz M19 (B + (n + 2))) (fun M25 =>
  Option.bind (rc K21 (some a0) 12) (fun a27 =>
  bn (ms_R M25 (32 * 12 + 2) a27 (some (B + (n + 2)))) (fun M29 =>
  bn (va_up K21 (B + (n + 3)) 14) (fun K31 =>
  bn (va_up L23 (B + (n + 3)) 16) (fun L33 =>
  bn (mz M29 (B + (n + 3))) (fun M35 =>
  Option.bind (rc K31 (some a0) 12) (fun a37 =>
  bn (ms_R M35 (32 * 12 + 3) a37 (some (B + (n + 3)))) (fun M39 =>
  bn (va_up K31 (B + (n + 4)) 13) (fun K41 =>
  bn (va_up L33 (B + (n + 4)) 14) (fun L43 =>
  bn (mz M39 (B + (n + 4))) (fun M45 =>
  Option.bind (rc K41 (some a0) 12) (fun a47 =>
  bn (ms_R M45 (32 * 12 + 5) a47 (some (B + (n + 4)))) (fun M49 =>
  bn (va_up K41 (B + (n + 5)) 13) (fun K51 =>
  bn (va_up L43 (B + (n + 5)) 16) (fun L53 =>
  bn (mz M49 (B + (n + 5))) (fun M55 =>
  Option.bind (rc K51 (some a0) 12) (fun a57 =>
  bn (ms_R M55 (32 * 12 + 6) a57 (some (B + (n + 5)))) (fun M59 =>
  bn (va_up K51 (B + (n + 6)) 13) (fun K61 =>
  bn (va_up L53 (B + (n + 6)) 16) (fun L63 =>
  bn (mz M59 (B + (n + 6))) (fun M65 =>
  Option.bind (rc K61 (some a0) 12) (fun a67 =>
  bn (ms_R M65 (32 * 12 + 12) a67 (some (B + (n + 6)))) (fun M69 =>
  bn (va_up K61 (B + (n + 7)) 15) (fun K71 =>
  bn (va_up L63 (B + (n + 7)) 16) (fun L73 =>
  bn (mz M69 (B + (n + 7))) (fun M75 =>
  Option.bind (rc K71 (some a0) 12) (fun a77 =>
  bn (ms_R M75 (32 * 12 + 13) a77 (some (B + (n + 7)))) (fun M79 =>
  bn (va_up K71 (B + (n + 8)) 13) (fun K81 =>
  bn (va_up L73 (B + (n + 8)) 16) (fun L83 =>
  bn (mz M79 (B + (n + 8))) (fun M85 =>
  Option.bind (rc K81 (some a0) 12) (fun a87 =>
  bn (ms_R M85 (32 * 12 + 14) a87 (some (B + (n + 8)))) (fun M89 =>
  bn (va_up K81 (B + (n + 9)) 13) (fun K91 =>
  bn (va_up L83 (B + (n + 9)) 20) (fun L93 =>
  bn (mz M89 (B + (n + 9))) (fun M95 =>
  Option.bind (rc K91 (some a0) 12) (fun a97 =>
  bn (ms_R M95 (32 * 12 + 15) a97 (some (B + (n + 9)))) (fun M99 =>
  some (K91, L93, M99)))))))))))))))))))))))))))))))))))))))))))))))))))
set_option maxHeartbeats 8000000 in
set_option maxRecDepth 20000 in
theorem w_X12_init_0 {X : Cx} {d : Nat} {n : Nat} {K L : Nat → Nat} {M : Mm} {a0 : Nat} {r : ((Nat → Nat) × (Nat → Nat) × Mm)} (o : cOk X cX12_init RX12 d) (hL : cL X = 1) (hr : (ch X).sig.returnType = none) (hnm : (ch X).name = yX12_init.name) (hz : (cs X).heap.size + 0 = cB X + n) (hk0 : K a0 = 12) (hc : (cR X).cells = 10) (hs : (cR X).slots = 126210) (hE : cE X (n + 10) r.1 r.2.1 r.2.2 none 10 126210) (hd : 1 ≤ d) (h : f_X12_init (cB X)  n a0  K L M = some r) : gW X 0 0 n K L M 0 [(0, va_rf (some a0))] [] := by
  unfold f_X12_init at h
  obtain ⟨K1, e2, h⟩ := bn_at h
  obtain ⟨L3, e4, h⟩ := bn_at h
  obtain ⟨M5, e6, h⟩ := bn_at h
  obtain ⟨a7, e8, h⟩ := ob h
  obtain ⟨M9, e10, h⟩ := bn_at h
  obtain ⟨K11, e12, h⟩ := bn_at h
  obtain ⟨L13, e14, h⟩ := bn_at h
  obtain ⟨M15, e16, h⟩ := bn_at h
  obtain ⟨a17, e18, h⟩ := ob h
  obtain ⟨M19, e20, h⟩ := bn_at h
  obtain ⟨K21, e22, h⟩ := bn_at h
  obtain ⟨L23, e24, h⟩ := bn_at h
  obtain ⟨M25, e26, h⟩ := bn_at h
  obtain ⟨a27, e28, h⟩ := ob h
  obtain ⟨M29, e30, h⟩ := bn_at h
  obtain ⟨K31, e32, h⟩ := bn_at h
  obtain ⟨L33, e34, h⟩ := bn_at h
  obtain ⟨M35, e36, h⟩ := bn_at h
  obtain ⟨a37, e38, h⟩ := ob h
  obtain ⟨M39, e40, h⟩ := bn_at h
  obtain ⟨K41, e42, h⟩ := bn_at h
  obtain ⟨L43, e44, h⟩ := bn_at h
  obtain ⟨M45, e46, h⟩ := bn_at h
  obtain ⟨a47, e48, h⟩ := ob h
  obtain ⟨M49, e50, h⟩ := bn_at h
  obtain ⟨K51, e52, h⟩ := bn_at h
  obtain ⟨L53, e54, h⟩ := bn_at h
  obtain ⟨M55, e56, h⟩ := bn_at h
  obtain ⟨a57, e58, h⟩ := ob h
  obtain ⟨M59, e60, h⟩ := bn_at h
  obtain ⟨K61, e62, h⟩ := bn_at h
  obtain ⟨L63, e64, h⟩ := bn_at h
  obtain ⟨M65, e66, h⟩ := bn_at h
  obtain ⟨a67, e68, h⟩ := ob h
  obtain ⟨M69, e70, h⟩ := bn_at h
  obtain ⟨K71, e72, h⟩ := bn_at h
  obtain ⟨L73, e74, h⟩ := bn_at h
  obtain ⟨M75, e76, h⟩ := bn_at h
  obtain ⟨a77, e78, h⟩ := ob h
  obtain ⟨M79, e80, h⟩ := bn_at h
  obtain ⟨K81, e82, h⟩ := bn_at h
  obtain ⟨L83, e84, h⟩ := bn_at h
  obtain ⟨M85, e86, h⟩ := bn_at h
  obtain ⟨a87, e88, h⟩ := ob h
  obtain ⟨M89, e90, h⟩ := bn_at h
  obtain ⟨K91, e92, h⟩ := bn_at h
  obtain ⟨L93, e94, h⟩ := bn_at h
  obtain ⟨M95, e96, h⟩ := bn_at h
  obtain ⟨a97, e98, h⟩ := ob h
  obtain ⟨M99, e100, h⟩ := bn_at h
  cases h
  dsimp only at hc hs hE
  refine g_aload_n o dX12_init_0 0 rfl ?_
  refine g_objInit o (by omega) ml_X12_1 (by simp [cat_i, cat_l, cat_rf]) dX12_init_1 ?_
  refine g_aload_n o dX12_init_4 0 rfl ?_
  refine g_ldc (v := (63040 : Int32)) o kc_X12_7 dX12_init_5 ?_
  refine g_newI (z := 63040) o hz (by decide) (by omega) (by omega) dX12_init_7 ?_
  refine g_shp e2 e4 e6 ?_
  refine g_nrm (k1 := 1) (k2 := 63040) (n := n + 1) rfl rfl rfl ?_
  refine g_putFR o (by omega) hnm fl_X12_8 e8 (by decide) rfl rfl rfl rfl dX12_init_9 ?_
  refine g_mem e10 ?_
  refine g_aload_n o dX12_init_12 0 rfl ?_
  refine g_ldc (v := (63040 : Int32)) o kc_X12_7 dX12_init_13 ?_
  refine g_newI (z := 63040) o (by omega) (by decide) (by omega) (by omega) dX12_init_15 ?_
  refine g_shp e12 e14 e16 ?_
  refine g_nrm (k1 := 2) (k2 := 126080) (n := n + 2) rfl rfl rfl ?_
  refine g_putFR o (by omega) hnm fl_X12_14 e18 (by decide) rfl rfl rfl rfl dX12_init_17 ?_
  refine g_mem e20 ?_
  refine g_aload_n o dX12_init_20 0 rfl ?_
  refine g_bipush (v := (16 : Int32)) o dX12_init_21 (by decide) ?_
  refine g_newJ (z := 16) o (by omega) (by decide) (by omega) (by omega) dX12_init_23 ?_
  refine g_shp e22 e24 e26 ?_
  refine g_nrm (k1 := 3) (k2 := 126096) (n := n + 3) rfl rfl rfl ?_
  refine g_putFR o (by omega) hnm fl_X12_17 e28 (by decide) rfl rfl rfl rfl dX12_init_25 ?_
  refine g_mem e30 ?_
  refine g_aload_n o dX12_init_28 0 rfl ?_
  refine g_bipush (v := (16 : Int32)) o dX12_init_29 (by decide) ?_
  refine g_newJ (z := 16) o (by omega) (by decide) (by omega) (by omega) dX12_init_31 ?_
  refine g_shp e32 e34 e36 ?_
  refine g_nrm (k1 := 4) (k2 := 126112) (n := n + 4) rfl rfl rfl ?_
  refine g_putFR o (by omega) hnm fl_X12_21 e38 (by decide) rfl rfl rfl rfl dX12_init_33 ?_
  refine g_mem e40 ?_
  refine g_aload_n o dX12_init_36 0 rfl ?_
  refine g_bipush (v := (14 : Int32)) o dX12_init_37 (by decide) ?_
  refine g_newI (z := 14) o (by omega) (by decide) (by omega) (by omega) dX12_init_39 ?_
  refine g_shp e42 e44 e46 ?_
  refine g_nrm (k1 := 5) (k2 := 126126) (n := n + 5) rfl rfl rfl ?_
  refine g_putFR o (by omega) hnm fl_X12_24 e48 (by decide) rfl rfl rfl rfl dX12_init_41 ?_
  refine g_mem e50 ?_
  refine g_aload_n o dX12_init_44 0 rfl ?_
  refine g_bipush (v := (16 : Int32)) o dX12_init_45 (by decide) ?_
  refine g_newI (z := 16) o (by omega) (by decide) (by omega) (by omega) dX12_init_47 ?_
  refine g_shp e52 e54 e56 ?_
  refine g_nrm (k1 := 6) (k2 := 126142) (n := n + 6) rfl rfl rfl ?_
  refine g_putFR o (by omega) hnm fl_X12_27 e58 (by decide) rfl rfl rfl rfl dX12_init_49 ?_
  refine g_mem e60 ?_
  refine g_aload_n o dX12_init_52 0 rfl ?_
  refine g_bipush (v := (16 : Int32)) o dX12_init_53 (by decide) ?_
  refine g_newI (z := 16) o (by omega) (by decide) (by omega) (by omega) dX12_init_55 ?_
  refine g_shp e62 e64 e66 ?_
  refine g_nrm (k1 := 7) (k2 := 126158) (n := n + 7) rfl rfl rfl ?_
  refine g_putFR o (by omega) hnm fl_X12_30 e68 (by decide) rfl rfl rfl rfl dX12_init_57 ?_
  refine g_mem e70 ?_
  refine g_aload_n o dX12_init_60 0 rfl ?_
  refine g_bipush (v := (16 : Int32)) o dX12_init_61 (by decide) ?_
  refine g_newZ (z := 16) o (by omega) (by decide) (by omega) (by omega) dX12_init_63 ?_
  refine g_shp e72 e74 e76 ?_
  refine g_nrm (k1 := 8) (k2 := 126174) (n := n + 8) rfl rfl rfl ?_
  refine g_putFR o (by omega) hnm fl_X12_33 e78 (by decide) rfl rfl rfl rfl dX12_init_65 ?_
  refine g_mem e80 ?_
  refine g_aload_n o dX12_init_68 0 rfl ?_
  refine g_bipush (v := (16 : Int32)) o dX12_init_69 (by decide) ?_
  refine g_newI (z := 16) o (by omega) (by decide) (by omega) (by omega) dX12_init_71 ?_
  refine g_shp e82 e84 e86 ?_
  refine g_nrm (k1 := 9) (k2 := 126190) (n := n + 9) rfl rfl rfl ?_
  refine g_putFR o (by omega) hnm fl_X12_37 e88 (by decide) rfl rfl rfl rfl dX12_init_73 ?_
  refine g_mem e90 ?_
  refine g_aload_n o dX12_init_76 0 rfl ?_
  refine g_bipush (v := (20 : Int32)) o dX12_init_77 (by decide) ?_
  refine g_newI (z := 20) o (by omega) (by decide) (by omega) (by omega) dX12_init_79 ?_
  refine g_shp e92 e94 e96 ?_
  refine g_nrm (k1 := 10) (k2 := 126210) (n := n + 10) rfl rfl rfl ?_
  refine g_putFR o (by omega) hnm fl_X12_40 e98 (by decide) rfl rfl rfl rfl dX12_init_81 ?_
  refine g_mem e100 ?_
  exact g_vret o hr hE dX12_init_84
theorem c_X12_init (l : Launch) (D : va_G) (Y : Nat → ClassId) (B : Nat) {d : Nat} {n : Nat} {K L : Nat → Nat} {M : Mm} {a0 : Nat} {r : ((Nat → Nat) × (Nat → Nat) × Mm)} (hd : 1 ≤ d) (hk0 : K a0 = 12) (h : f_X12_init B  n a0  K L M = some r) : mC l D Y B d yX12_init cX12_init 1 (none) [va_rf (some a0)] n K L M (n + 10) r.1 r.2.1 r.2.2 none 10 126210 := by
  refine mk_met (by decide) (by simp [lgs_r, lgs_i, lgs_l, lgs_n]) (fun X e1 e2 e3 e4 o hL hr hnm hz hc hs hE => ?_)
  subst e1 e2 e3 e4
  rw [show lv_args 0 [va_rf (some a0)] = [(0, va_rf (some a0))] by simp [lva_r, lva_i, lva_l, lva_n]]
  exact w_X12_init_0 o hL hr hnm hz hk0 hc hs hE hd h
def f_X4_spareSwitch (B fu n : Nat) (a0 : Nat) (K L : Nat → Nat) (M : Mm) : Option ((Option Nat) × Nat × (Nat → Nat) × (Nat → Nat) × Mm) :=
  if (mm_R M (32 * 4 + 3) a0) = none then
    bn (va_up K (B + n) 9) (fun K2 =>
    bn (va_up L (B + n) 0) (fun L4 =>
    bn (mz M (B + n)) (fun M6 =>
    Option.bind (rc K2 (some (B + n)) 9) (fun a8 =>
    Option.bind (f_X9_init B (n + 1) a8 K2 L4 M6) (fun x10 =>
    Option.bind (rc x10.1 (some a0) 4) (fun a12 =>
    bn (ms_R x10.2.2 (32 * 4 + 3) a12 (some (B + n))) (fun M14 =>
    some (mm_R M14 (32 * 4 + 3) a12, n + 30, x10.1, x10.2.1, M14))))))))
  else
    some (mm_R M (32 * 4 + 3) a0, n, K, L, M)
set_option maxHeartbeats 8000000 in
set_option maxRecDepth 20000 in
theorem w_X4_spareSwitch_0 {X : Cx} {d : Nat} {n : Nat} {K L : Nat → Nat} {fu : Nat} {M : Mm} {a0 : Nat} {r : ((Option Nat) × Nat × (Nat → Nat) × (Nat → Nat) × Mm)} (o : cOk X cX4_spareSwitch RX4 (d + 1)) (hL : cL X = 1) (hr : (ch X).sig.returnType = some (.object RX9)) (hnm : (ch X).name = yX4_spareSwitch.name) (hz : (cs X).heap.size + 0 = cB X + n) (hk0 : K a0 = 4) (hc : (cR X).cells = (r.2.1 - n)) (hs : (cR X).slots = (101 * (r.2.1 - n))) (hE : cE X r.2.1 r.2.2.1 r.2.2.2.1 r.2.2.2.2 (some (va_rf r.1)) (r.2.1 - n) (101 * (r.2.1 - n))) (hd : 3 ≤ d + 1) (h : f_X4_spareSwitch (cB X) fu n a0  K L M = some r) : gW X 0 0 n K L M 0 [(0, va_rf (some a0))] [] := by
  unfold f_X4_spareSwitch at h
  by_cases z1 : (mm_R M (32 * 4 + 3) a0) = none
  · have h := (if_pos z1).symm.trans h
    obtain ⟨K2, e3, h⟩ := bn_at h
    obtain ⟨L4, e5, h⟩ := bn_at h
    obtain ⟨M6, e7, h⟩ := bn_at h
    obtain ⟨a8, e9, h⟩ := ob h
    obtain ⟨x10, e11, h⟩ := ob h
    obtain ⟨a12, e13, h⟩ := ob h
    obtain ⟨M14, e15, h⟩ := bn_at h
    cases h
    dsimp only at hc hs hE
    refine g_aload_n o dX4_spareSwitch_0 0 rfl ?_
    refine g_getR o fl_X4_45 (rc_self hk0) (by decide) rfl dX4_spareSwitch_1 ?_
    refine g_ifnonnull (tgt := 18) o dX4_spareSwitch_4 (by decide) (fun q => absurd z1 q) (fun _ => ?_)
    refine g_aload_n o dX4_spareSwitch_7 0 rfl ?_
    refine g_new (c := 9) o hz (by decide) ⟨kl_X4_16, ki_X9.1, ki_X9.2⟩ (by omega) (show _ + 13 ≤ _ by omega) dX4_spareSwitch_8 ?_
    refine g_shp e3 e5 e7 ?_
    refine g_nrm (k1 := 1) (k2 := 13) (n := n + 1) rfl rfl rfl ?_
    refine g_dup o dX4_spareSwitch_11 (cat_rf _) ?_
    obtain ⟨hq, -⟩ := rc_at e9
    cases hq
    refine g_invI o ml_X4_48 kb_X9_init kv_X9_init (c_X9_init (cq X) (cD X) (cY X) (cB X) (d := d) (by omega) (rc_at e9).2 e11) rfl rfl (by simp [cat_i, cat_l, cat_rf]) ⟨by omega, by omega⟩ dX4_spareSwitch_12 ?_
    refine g_nrm (k1 := 30) (k2 := 3005) (n := n + 30) rfl rfl rfl ?_
    refine g_putR o (by omega) fl_X4_45 e13 (by decide) rfl rfl rfl  dX4_spareSwitch_15 ?_
    refine g_mem e15 ?_
    refine g_aload_n o dX4_spareSwitch_18 0 rfl ?_
    refine g_getR o fl_X4_45 e13 (by decide) rfl dX4_spareSwitch_19 ?_
    refine g_wid (k1 := (n + 30) - n) (k2 := 101 * ((n + 30) - n)) (by omega) (by omega) ?_
    exact g_aret o hr hE dX4_spareSwitch_22
  · have h := (if_neg z1).symm.trans h
    cases h
    dsimp only at hc hs hE
    refine g_aload_n o dX4_spareSwitch_0 0 rfl ?_
    refine g_getR o fl_X4_45 (rc_self hk0) (by decide) rfl dX4_spareSwitch_1 ?_
    refine g_ifnonnull (tgt := 18) o dX4_spareSwitch_4 (by decide) (fun _ => ?_) (fun q => absurd q z1)
    refine g_aload_n o dX4_spareSwitch_18 0 rfl ?_
    refine g_getR o fl_X4_45 (rc_self hk0) (by decide) rfl dX4_spareSwitch_19 ?_
    refine g_wid (k1 := n - n) (k2 := 101 * (n - n)) (by omega) (by omega) ?_
    exact g_aret o hr hE dX4_spareSwitch_22
theorem c_X4_spareSwitch (l : Launch) (D : va_G) (Y : Nat → ClassId) (B : Nat) {d : Nat} {n : Nat} {K L : Nat → Nat} {fu : Nat} {M : Mm} {a0 : Nat} {r : ((Option Nat) × Nat × (Nat → Nat) × (Nat → Nat) × Mm)} (hd : 3 ≤ d) (hk0 : K a0 = 4) (h : f_X4_spareSwitch B fu n a0  K L M = some r) : mC l D Y B d yX4_spareSwitch cX4_spareSwitch 1 (some (.object RX9)) [va_rf (some a0)] n K L M r.2.1 r.2.2.1 r.2.2.2.1 r.2.2.2.2 (some (va_rf r.1)) (r.2.1 - n) (101 * (r.2.1 - n)) := by
  obtain ⟨d, rfl⟩ : ∃ e, d = e + 1 := ⟨d - 1, by omega⟩
  refine mk_met (by decide) (by simp [lgs_r, lgs_i, lgs_l, lgs_n]) (fun X e1 e2 e3 e4 o hL hr hnm hz hc hs hE => ?_)
  subst e1 e2 e3 e4
  rw [show lv_args 0 [va_rf (some a0)] = [(0, va_rf (some a0))] by simp [lva_r, lva_i, lva_l, lva_n]]
  exact w_X4_spareSwitch_0 o hL hr hnm hz hk0 hc hs hE hd h
def f_X4_putSwitch (B fu n : Nat) (a0 : Nat) (v1 : Int32) (v2 : Int32) (v3 : Int32) (K L : Nat → Nat) (M : Mm) : Option (Nat × (Nat → Nat) × (Nat → Nat) × Mm) :=
  Option.bind (f_X4_clear K L a0 M) (fun x1 =>
  Option.bind (f_X4_spareSwitch B fu n a0 K L x1.2) (fun x3 =>
  Option.bind (mon n x3.2.1) (fun u5 =>
  bn (x3.1) (fun x7 =>
  Option.bind (rc x3.2.2.1 x7 9) (fun a9 =>
  Option.bind (f_X9_begin x3.2.2.1 x3.2.2.2.1 fu a9 v1 v2 v3 x3.2.2.2.2) (fun x11 =>
  Option.bind (rc x3.2.2.1 (some a0) 4) (fun a13 =>
  bn (ms_R x11 (32 * 4 + 0) a13 x7) (fun M15 =>
  some (x3.2.1, x3.2.2.1, x3.2.2.2.1, M15)))))))))
set_option maxHeartbeats 8000000 in
set_option maxRecDepth 20000 in
theorem w_X4_putSwitch_0 {X : Cx} {d : Nat} {n : Nat} {K L : Nat → Nat} {fu : Nat} {M : Mm} {a0 : Nat} {v1 : Int32} {v2 : Int32} {v3 : Int32} {r : (Nat × (Nat → Nat) × (Nat → Nat) × Mm)} (o : cOk X cX4_putSwitch RX4 (d + 1)) (hL : cL X = 5) (hr : (ch X).sig.returnType = none) (hnm : (ch X).name = yX4_putSwitch.name) (hz : (cs X).heap.size + 0 = cB X + n) (hk0 : K a0 = 4) (hc : (cR X).cells = (r.1 - n)) (hs : (cR X).slots = (101 * (r.1 - n))) (hE : cE X r.1 r.2.1 r.2.2.1 r.2.2.2 none (r.1 - n) (101 * (r.1 - n))) (hd : 4 ≤ d + 1) (h : f_X4_putSwitch (cB X) fu n a0 v1 v2 v3 K L M = some r) : gW X 0 0 n K L M 0 [(0, va_rf (some a0)), (1, .int v1), (2, .int v2), (3, .int v3)] [] := by
  unfold f_X4_putSwitch at h
  obtain ⟨x1, e2, h⟩ := ob h
  obtain ⟨x3, e4, h⟩ := ob h
  obtain ⟨u5, e6, h⟩ := ob h
  have e6 := mon_at e6
  obtain ⟨x7, e8, h⟩ := bn_at h
  obtain ⟨a9, e10, h⟩ := ob h
  obtain ⟨x11, e12, h⟩ := ob h
  obtain ⟨a13, e14, h⟩ := ob h
  obtain ⟨M15, e16, h⟩ := bn_at h
  cases h
  dsimp only at hc hs hE
  refine g_aload_n o dX4_putSwitch_0 0 rfl ?_
  refine g_invV o (rc_self hk0) (by decide) ml_X4_25 kb_X4_clear kv_X4_clear rfl (c_X4_clear (cq X) (cD X) (cY X) (cB X) (d := d) (by omega) (rc_at (rc_self hk0)).2 e2) rfl rfl (by simp [cat_i, cat_l, cat_rf]) ⟨by omega, by omega⟩ dX4_putSwitch_1 ?_
  refine g_pop o dX4_putSwitch_4 rfl ?_
  refine g_aload_n o dX4_putSwitch_5 0 rfl ?_
  refine g_invV o (rc_self hk0) (by decide) ml_X4_29 kb_X4_spareSwitch kv_X4_spareSwitch rfl (c_X4_spareSwitch (cq X) (cD X) (cY X) (cB X) (d := d) (by omega) (rc_at (rc_self hk0)).2 e4) rfl rfl (by simp [cat_i, cat_l, cat_rf]) ⟨by omega, by omega⟩ dX4_putSwitch_6 ?_
  refine g_nrm (k1 := x3.2.1 - n) (k2 := 101 * (x3.2.1 - n)) (n := x3.2.1) (by omega) (by omega) rfl ?_
  refine g_topR e8 ?_
  refine g_astore (i := 4) (ls' := [(4, va_rf x7), (0, va_rf (some a0)), (1, .int v1), (2, .int v2), (3, .int v3)]) o dX4_putSwitch_9 (ltL hL (by decide)) rfl ?_
  refine g_aload o dX4_putSwitch_11 0 rfl ?_
  refine g_iload_n o dX4_putSwitch_13 2 rfl ?_
  refine g_iload_n o dX4_putSwitch_14 3 rfl ?_
  refine g_iload_n o dX4_putSwitch_15 4 rfl ?_
  refine g_invV o e10 (by decide) ml_X4_33 kb_X9_begin kv_X9_begin rfl (c_X9_begin (cq X) (cD X) (cY X) (cB X) (d := d) (by omega) (rc_at e10).2 e12) rfl rfl (by simp [cat_i, cat_l, cat_rf]) ⟨by omega, by omega⟩ dX4_putSwitch_16 ?_
  refine g_aload_n o dX4_putSwitch_19 1 rfl ?_
  refine g_aload o dX4_putSwitch_20 0 rfl ?_
  refine g_putR o (by omega) fl_X4_9 e14 (by decide) rfl rfl rfl  dX4_putSwitch_22 ?_
  refine g_mem e16 ?_
  refine g_wid (k1 := (x3.2.1) - n) (k2 := 101 * ((x3.2.1) - n)) (by omega) (by omega) ?_
  exact g_vret o hr hE dX4_putSwitch_25
theorem c_X4_putSwitch (l : Launch) (D : va_G) (Y : Nat → ClassId) (B : Nat) {d : Nat} {n : Nat} {K L : Nat → Nat} {fu : Nat} {M : Mm} {a0 : Nat} {v1 : Int32} {v2 : Int32} {v3 : Int32} {r : (Nat × (Nat → Nat) × (Nat → Nat) × Mm)} (hd : 4 ≤ d) (hk0 : K a0 = 4) (h : f_X4_putSwitch B fu n a0 v1 v2 v3 K L M = some r) : mC l D Y B d yX4_putSwitch cX4_putSwitch 5 (none) [va_rf (some a0), .int v1, .int v2, .int v3] n K L M r.1 r.2.1 r.2.2.1 r.2.2.2 none (r.1 - n) (101 * (r.1 - n)) := by
  obtain ⟨d, rfl⟩ : ∃ e, d = e + 1 := ⟨d - 1, by omega⟩
  refine mk_met (by decide) (by simp [lgs_r, lgs_i, lgs_l, lgs_n]) (fun X e1 e2 e3 e4 o hL hr hnm hz hc hs hE => ?_)
  subst e1 e2 e3 e4
  rw [show lv_args 0 [va_rf (some a0), .int v1, .int v2, .int v3] = [(0, va_rf (some a0)), (1, .int v1), (2, .int v2), (3, .int v3)] by simp [lva_r, lva_i, lva_l, lva_n]]
  exact w_X4_putSwitch_0 o hL hr hnm hz hk0 hc hs hE hd h
def f_X4_takeFrom (B fu n : Nat) (a0 : Nat) (v1 : (Option Nat)) (K L : Nat → Nat) (M : Mm) : Option (Nat × (Nat → Nat) × (Nat → Nat) × Mm) :=
  Option.bind (f_X4_clear K L a0 M) (fun x1 =>
  Option.bind (rc K v1 4) (fun a3 =>
  Option.bind (zb (mm_I x1.2 (32 * 4 + 1) a3)) (fun u5 =>
  bn (ms_I x1.2 (32 * 4 + 1) a0 (mm_I x1.2 (32 * 4 + 1) a3)) (fun M7 =>
  bn (ms_J M7 (32 * 4 + 2) a0 (mm_J M7 (32 * 4 + 2) a3)) (fun M9 =>
  if (mm_R M9 (32 * 4 + 0) a3) = none then
    some (n, K, L, M9)
  else
    Option.bind (f_X4_spareSwitch B fu n a0 K L M9) (fun x12 =>
    Option.bind (mon n x12.2.1) (fun u14 =>
    bn (x12.1) (fun x16 =>
    Option.bind (rc x12.2.2.1 v1 4) (fun a18 =>
    Option.bind (rc x12.2.2.1 x16 9) (fun a20 =>
    Option.bind (f_X9_takeFrom x12.2.2.1 x12.2.2.2.1 fu a20 (mm_R x12.2.2.2.2 (32 * 4 + 0) a18) x12.2.2.2.2) (fun x22 =>
    Option.bind (rc x12.2.2.1 (some a0) 4) (fun a24 =>
    bn (ms_R x22 (32 * 4 + 0) a24 x16) (fun M26 =>
    some (x12.2.1, x12.2.2.1, x12.2.2.2.1, M26))))))))))))))
set_option maxHeartbeats 8000000 in
set_option maxRecDepth 20000 in
theorem w_X4_takeFrom_0 {X : Cx} {d : Nat} {n : Nat} {K L : Nat → Nat} {fu : Nat} {M : Mm} {a0 : Nat} {v1 : (Option Nat)} {r : (Nat × (Nat → Nat) × (Nat → Nat) × Mm)} (o : cOk X cX4_takeFrom RX4 (d + 1)) (hL : cL X = 3) (hr : (ch X).sig.returnType = none) (hnm : (ch X).name = yX4_takeFrom.name) (hz : (cs X).heap.size + 0 = cB X + n) (hk0 : K a0 = 4) (hc : (cR X).cells = (r.1 - n)) (hs : (cR X).slots = (101 * (r.1 - n))) (hE : cE X r.1 r.2.1 r.2.2.1 r.2.2.2 none (r.1 - n) (101 * (r.1 - n))) (hd : 4 ≤ d + 1) (h : f_X4_takeFrom (cB X) fu n a0 v1 K L M = some r) : gW X 0 0 n K L M 0 [(0, va_rf (some a0)), (1, va_rf v1)] [] := by
  unfold f_X4_takeFrom at h
  obtain ⟨x1, e2, h⟩ := ob h
  obtain ⟨a3, e4, h⟩ := ob h
  obtain ⟨u5, e6, h⟩ := ob h
  obtain ⟨M7, e8, h⟩ := bn_at h
  obtain ⟨M9, e10, h⟩ := bn_at h
  by_cases z11 : (mm_R M9 (32 * 4 + 0) a3) = none
  · have h := (if_pos z11).symm.trans h
    cases h
    dsimp only at hc hs hE
    refine g_aload_n o dX4_takeFrom_0 0 rfl ?_
    refine g_invV o (rc_self hk0) (by decide) ml_X4_25 kb_X4_clear kv_X4_clear rfl (c_X4_clear (cq X) (cD X) (cY X) (cB X) (d := d) (by omega) (rc_at (rc_self hk0)).2 e2) rfl rfl (by simp [cat_i, cat_l, cat_rf]) ⟨by omega, by omega⟩ dX4_takeFrom_1 ?_
    refine g_pop o dX4_takeFrom_4 rfl ?_
    refine g_aload_n o dX4_takeFrom_5 0 rfl ?_
    refine g_aload_n o dX4_takeFrom_6 1 rfl ?_
    refine g_getI o fl_X4_21 e4 (by decide) rfl dX4_takeFrom_7 ?_
    refine g_putZ o hz fl_X4_21 (rc_self hk0) (by decide) rfl rfl rfl (zb_at e6) dX4_takeFrom_10 ?_
    refine g_mem e8 ?_
    refine g_aload_n o dX4_takeFrom_13 0 rfl ?_
    refine g_aload_n o dX4_takeFrom_14 1 rfl ?_
    refine g_getJ o fl_X4_37 e4 (by decide) rfl dX4_takeFrom_15 ?_
    refine g_putJ o hz fl_X4_37 (rc_self hk0) (by decide) rfl rfl rfl  dX4_takeFrom_18 ?_
    refine g_mem e10 ?_
    refine g_aload_n o dX4_takeFrom_21 1 rfl ?_
    refine g_getR o fl_X4_9 e4 (by decide) rfl dX4_takeFrom_22 ?_
    refine g_ifnull (tgt := 46) o dX4_takeFrom_25 (by decide) (fun _ => ?_) (fun q => absurd z11 q)
    refine g_wid (k1 := n - n) (k2 := 101 * (n - n)) (by omega) (by omega) ?_
    exact g_vret o hr hE dX4_takeFrom_46
  · have h := (if_neg z11).symm.trans h
    obtain ⟨x12, e13, h⟩ := ob h
    obtain ⟨u14, e15, h⟩ := ob h
    have e15 := mon_at e15
    obtain ⟨x16, e17, h⟩ := bn_at h
    obtain ⟨a18, e19, h⟩ := ob h
    obtain ⟨a20, e21, h⟩ := ob h
    obtain ⟨x22, e23, h⟩ := ob h
    obtain ⟨a24, e25, h⟩ := ob h
    obtain ⟨M26, e27, h⟩ := bn_at h
    cases h
    dsimp only at hc hs hE
    refine g_aload_n o dX4_takeFrom_0 0 rfl ?_
    refine g_invV o (rc_self hk0) (by decide) ml_X4_25 kb_X4_clear kv_X4_clear rfl (c_X4_clear (cq X) (cD X) (cY X) (cB X) (d := d) (by omega) (rc_at (rc_self hk0)).2 e2) rfl rfl (by simp [cat_i, cat_l, cat_rf]) ⟨by omega, by omega⟩ dX4_takeFrom_1 ?_
    refine g_pop o dX4_takeFrom_4 rfl ?_
    refine g_aload_n o dX4_takeFrom_5 0 rfl ?_
    refine g_aload_n o dX4_takeFrom_6 1 rfl ?_
    refine g_getI o fl_X4_21 e4 (by decide) rfl dX4_takeFrom_7 ?_
    refine g_putZ o hz fl_X4_21 (rc_self hk0) (by decide) rfl rfl rfl (zb_at e6) dX4_takeFrom_10 ?_
    refine g_mem e8 ?_
    refine g_aload_n o dX4_takeFrom_13 0 rfl ?_
    refine g_aload_n o dX4_takeFrom_14 1 rfl ?_
    refine g_getJ o fl_X4_37 e4 (by decide) rfl dX4_takeFrom_15 ?_
    refine g_putJ o hz fl_X4_37 (rc_self hk0) (by decide) rfl rfl rfl  dX4_takeFrom_18 ?_
    refine g_mem e10 ?_
    refine g_aload_n o dX4_takeFrom_21 1 rfl ?_
    refine g_getR o fl_X4_9 e4 (by decide) rfl dX4_takeFrom_22 ?_
    refine g_ifnull (tgt := 46) o dX4_takeFrom_25 (by decide) (fun q => absurd q z11) (fun _ => ?_)
    refine g_aload_n o dX4_takeFrom_28 0 rfl ?_
    refine g_invV o (rc_self hk0) (by decide) ml_X4_29 kb_X4_spareSwitch kv_X4_spareSwitch rfl (c_X4_spareSwitch (cq X) (cD X) (cY X) (cB X) (d := d) (by omega) (rc_at (rc_self hk0)).2 e13) rfl rfl (by simp [cat_i, cat_l, cat_rf]) ⟨by omega, by omega⟩ dX4_takeFrom_29 ?_
    refine g_nrm (k1 := x12.2.1 - n) (k2 := 101 * (x12.2.1 - n)) (n := x12.2.1) (by omega) (by omega) rfl ?_
    refine g_topR e17 ?_
    refine g_astore_n (i := 2) (ls' := [(2, va_rf x16), (0, va_rf (some a0)), (1, va_rf v1)]) o dX4_takeFrom_32 rfl (ltL hL (by decide)) (by simp [cat_rf]) ?_
    refine g_aload_n o dX4_takeFrom_33 0 rfl ?_
    refine g_aload_n o dX4_takeFrom_34 2 rfl ?_
    refine g_getR o fl_X4_9 e19 (by decide) rfl dX4_takeFrom_35 ?_
    refine g_invV o e21 (by decide) ml_X4_41 kb_X9_takeFrom kv_X9_takeFrom rfl (c_X9_takeFrom (cq X) (cD X) (cY X) (cB X) (d := d) (by omega) (rc_at e21).2 e23) rfl rfl (by simp [cat_i, cat_l, cat_rf]) ⟨by omega, by omega⟩ dX4_takeFrom_38 ?_
    refine g_aload_n o dX4_takeFrom_41 1 rfl ?_
    refine g_aload_n o dX4_takeFrom_42 0 rfl ?_
    refine g_putR o (by omega) fl_X4_9 e25 (by decide) rfl rfl rfl  dX4_takeFrom_43 ?_
    refine g_mem e27 ?_
    refine g_wid (k1 := (x12.2.1) - n) (k2 := 101 * ((x12.2.1) - n)) (by omega) (by omega) ?_
    exact g_vret o hr hE dX4_takeFrom_46
theorem c_X4_takeFrom (l : Launch) (D : va_G) (Y : Nat → ClassId) (B : Nat) {d : Nat} {n : Nat} {K L : Nat → Nat} {fu : Nat} {M : Mm} {a0 : Nat} {v1 : (Option Nat)} {r : (Nat × (Nat → Nat) × (Nat → Nat) × Mm)} (hd : 4 ≤ d) (hk0 : K a0 = 4) (h : f_X4_takeFrom B fu n a0 v1 K L M = some r) : mC l D Y B d yX4_takeFrom cX4_takeFrom 3 (none) [va_rf (some a0), va_rf v1] n K L M r.1 r.2.1 r.2.2.1 r.2.2.2 none (r.1 - n) (101 * (r.1 - n)) := by
  obtain ⟨d, rfl⟩ : ∃ e, d = e + 1 := ⟨d - 1, by omega⟩
  refine mk_met (by decide) (by simp [lgs_r, lgs_i, lgs_l, lgs_n]) (fun X e1 e2 e3 e4 o hL hr hnm hz hc hs hE => ?_)
  subst e1 e2 e3 e4
  rw [show lv_args 0 [va_rf (some a0), va_rf v1] = [(0, va_rf (some a0)), (1, va_rf v1)] by simp [lva_r, lva_i, lva_l, lva_n]]
  exact w_X4_takeFrom_0 o hL hr hnm hz hk0 hc hs hE hd h
def f_X8_takeFrom (B fu n : Nat) (a0 : Nat) (v1 : (Option Nat)) (K L : Nat → Nat) (M : Mm) : Option (Nat × (Nat → Nat) × (Nat → Nat) × Mm) :=
  Option.bind (rx K L (mm_R M (32 * 8 + 0) a0) 17 (0 : Int32)) (fun a1 =>
  Option.bind (rc K v1 8) (fun a3 =>
  Option.bind (rx K L (mm_R M (32 * 8 + 0) a3) 17 (0 : Int32)) (fun a5 =>
  Option.bind (rc K (mm_C M a1 (0 : Int32).toNatClampNeg) 4) (fun a7 =>
  Option.bind (f_X4_takeFrom B fu n a7 (mm_C M a5 (0 : Int32).toNatClampNeg) K L M) (fun x9 =>
  Option.bind (mon n x9.1) (fun u11 =>
  Option.bind (rc x9.2.1 (some a0) 8) (fun a13 =>
  Option.bind (rx x9.2.1 x9.2.2.1 (mm_R x9.2.2.2 (32 * 8 + 0) a13) 17 (1 : Int32)) (fun a15 =>
  Option.bind (rc x9.2.1 v1 8) (fun a17 =>
  Option.bind (rx x9.2.1 x9.2.2.1 (mm_R x9.2.2.2 (32 * 8 + 0) a17) 17 (1 : Int32)) (fun a19 =>
  Option.bind (rc x9.2.1 (mm_C x9.2.2.2 a15 (1 : Int32).toNatClampNeg) 4) (fun a21 =>
  Option.bind (f_X4_takeFrom B fu (x9.1) a21 (mm_C x9.2.2.2 a19 (1 : Int32).toNatClampNeg) x9.2.1 x9.2.2.1 x9.2.2.2) (fun x23 =>
  Option.bind (mon (x9.1) x23.1) (fun u25 =>
  Option.bind (rc x23.2.1 (some a0) 8) (fun a27 =>
  Option.bind (rx x23.2.1 x23.2.2.1 (mm_R x23.2.2.2 (32 * 8 + 0) a27) 17 (2 : Int32)) (fun a29 =>
  Option.bind (rc x23.2.1 v1 8) (fun a31 =>
  Option.bind (rx x23.2.1 x23.2.2.1 (mm_R x23.2.2.2 (32 * 8 + 0) a31) 17 (2 : Int32)) (fun a33 =>
  Option.bind (rc x23.2.1 (mm_C x23.2.2.2 a29 (2 : Int32).toNatClampNeg) 4) (fun a35 =>
  Option.bind (f_X4_takeFrom B fu (x23.1) a35 (mm_C x23.2.2.2 a33 (2 : Int32).toNatClampNeg) x23.2.1 x23.2.2.1 x23.2.2.2) (fun x37 =>
  Option.bind (mon (x23.1) x37.1) (fun u39 =>
  Option.bind (rc x37.2.1 (some a0) 8) (fun a41 =>
  Option.bind (rx x37.2.1 x37.2.2.1 (mm_R x37.2.2.2 (32 * 8 + 0) a41) 17 (3 : Int32)) (fun a43 =>
  Option.bind (rc x37.2.1 v1 8) (fun a45 =>
  Option.bind (rx x37.2.1 x37.2.2.1 (mm_R x37.2.2.2 (32 * 8 + 0) a45) 17 (3 : Int32)) (fun a47 =>
  Option.bind (rc x37.2.1 (mm_C x37.2.2.2 a43 (3 : Int32).toNatClampNeg) 4) (fun a49 =>
  Option.bind (f_X4_takeFrom B fu (x37.1) a49 (mm_C x37.2.2.2 a47 (3 : Int32).toNatClampNeg) x37.2.1 x37.2.2.1 x37.2.2.2) (fun x51 =>
  Option.bind (mon (x37.1) x51.1) (fun u53 =>
  Option.bind (rc x51.2.1 (some a0) 8) (fun a55 =>
  Option.bind (rx x51.2.1 x51.2.2.1 (mm_R x51.2.2.2 (32 * 8 + 0) a55) 17 (4 : Int32)) (fun a57 =>
  Option.bind (rc x51.2.1 v1 8) (fun a59 =>
  Option.bind (rx x51.2.1 x51.2.2.1 (mm_R x51.2.2.2 (32 * 8 + 0) a59) 17 (4 : Int32)) (fun a61 =>
  Option.bind (rc x51.2.1 (mm_C x51.2.2.2 a57 (4 : Int32).toNatClampNeg) 4) (fun a63 =>
  Option.bind (f_X4_takeFrom B fu (x51.1) a63 (mm_C x51.2.2.2 a61 (4 : Int32).toNatClampNeg) x51.2.1 x51.2.2.1 x51.2.2.2) (fun x65 =>
  Option.bind (mon (x51.1) x65.1) (fun u67 =>
  Option.bind (rc x65.2.1 (some a0) 8) (fun a69 =>
  Option.bind (rx x65.2.1 x65.2.2.1 (mm_R x65.2.2.2 (32 * 8 + 0) a69) 17 (5 : Int32)) (fun a71 =>
  Option.bind (rc x65.2.1 v1 8) (fun a73 =>
  Option.bind (rx x65.2.1 x65.2.2.1 (mm_R x65.2.2.2 (32 * 8 + 0) a73) 17 (5 : Int32)) (fun a75 =>
  Option.bind (rc x65.2.1 (mm_C x65.2.2.2 a71 (5 : Int32).toNatClampNeg) 4) (fun a77 =>
  Option.bind (f_X4_takeFrom B fu (x65.1) a77 (mm_C x65.2.2.2 a75 (5 : Int32).toNatClampNeg) x65.2.1 x65.2.2.1 x65.2.2.2) (fun x79 =>
  Option.bind (mon (x65.1) x79.1) (fun u81 =>
  Option.bind (rc x79.2.1 (some a0) 8) (fun a83 =>
  Option.bind (rx x79.2.1 x79.2.2.1 (mm_R x79.2.2.2 (32 * 8 + 0) a83) 17 (6 : Int32)) (fun a85 =>
  Option.bind (rc x79.2.1 v1 8) (fun a87 =>
  Option.bind (rx x79.2.1 x79.2.2.1 (mm_R x79.2.2.2 (32 * 8 + 0) a87) 17 (6 : Int32)) (fun a89 =>
  Option.bind (rc x79.2.1 (mm_C x79.2.2.2 a85 (6 : Int32).toNatClampNeg) 4) (fun a91 =>
  Option.bind (f_X4_takeFrom B fu (x79.1) a91 (mm_C x79.2.2.2 a89 (6 : Int32).toNatClampNeg) x79.2.1 x79.2.2.1 x79.2.2.2) (fun x93 =>
  Option.bind (mon (x79.1) x93.1) (fun u95 =>
  Option.bind (rc x93.2.1 (some a0) 8) (fun a97 =>
  Option.bind (rx x93.2.1 x93.2.2.1 (mm_R x93.2.2.2 (32 * 8 + 0) a97) 17 (7 : Int32)) (fun a99 =>
  Option.bind (rc x93.2.1 v1 8) (fun a101 =>
  Option.bind (rx x93.2.1 x93.2.2.1 (mm_R x93.2.2.2 (32 * 8 + 0) a101) 17 (7 : Int32)) (fun a103 =>
  Option.bind (rc x93.2.1 (mm_C x93.2.2.2 a99 (7 : Int32).toNatClampNeg) 4) (fun a105 =>
  Option.bind (f_X4_takeFrom B fu (x93.1) a105 (mm_C x93.2.2.2 a103 (7 : Int32).toNatClampNeg) x93.2.1 x93.2.2.1 x93.2.2.2) (fun x107 =>
  Option.bind (mon (x93.1) x107.1) (fun u109 =>
  Option.bind (rc x107.2.1 (some a0) 8) (fun a111 =>
  Option.bind (rx x107.2.1 x107.2.2.1 (mm_R x107.2.2.2 (32 * 8 + 0) a111) 17 (8 : Int32)) (fun a113 =>
  Option.bind (rc x107.2.1 v1 8) (fun a115 =>
  Option.bind (rx x107.2.1 x107.2.2.1 (mm_R x107.2.2.2 (32 * 8 + 0) a115) 17 (8 : Int32)) (fun a117 =>
  Option.bind (rc x107.2.1 (mm_C x107.2.2.2 a113 (8 : Int32).toNatClampNeg) 4) (fun a119 =>
  Option.bind (f_X4_takeFrom B fu (x107.1) a119 (mm_C x107.2.2.2 a117 (8 : Int32).toNatClampNeg) x107.2.1 x107.2.2.1 x107.2.2.2) (fun x121 =>
  Option.bind (mon (x107.1) x121.1) (fun u123 =>
  Option.bind (rc x121.2.1 (some a0) 8) (fun a125 =>
  Option.bind (rx x121.2.1 x121.2.2.1 (mm_R x121.2.2.2 (32 * 8 + 0) a125) 17 (9 : Int32)) (fun a127 =>
  Option.bind (rc x121.2.1 v1 8) (fun a129 =>
  Option.bind (rx x121.2.1 x121.2.2.1 (mm_R x121.2.2.2 (32 * 8 + 0) a129) 17 (9 : Int32)) (fun a131 =>
  Option.bind (rc x121.2.1 (mm_C x121.2.2.2 a127 (9 : Int32).toNatClampNeg) 4) (fun a133 =>
  Option.bind (f_X4_takeFrom B fu (x121.1) a133 (mm_C x121.2.2.2 a131 (9 : Int32).toNatClampNeg) x121.2.1 x121.2.2.1 x121.2.2.2) (fun x135 =>
  Option.bind (mon (x121.1) x135.1) (fun u137 =>
  Option.bind (rc x135.2.1 (some a0) 8) (fun a139 =>
  Option.bind (rx x135.2.1 x135.2.2.1 (mm_R x135.2.2.2 (32 * 8 + 0) a139) 17 (10 : Int32)) (fun a141 =>
  Option.bind (rc x135.2.1 v1 8) (fun a143 =>
  Option.bind (rx x135.2.1 x135.2.2.1 (mm_R x135.2.2.2 (32 * 8 + 0) a143) 17 (10 : Int32)) (fun a145 =>
  Option.bind (rc x135.2.1 (mm_C x135.2.2.2 a141 (10 : Int32).toNatClampNeg) 4) (fun a147 =>
  Option.bind (f_X4_takeFrom B fu (x135.1) a147 (mm_C x135.2.2.2 a145 (10 : Int32).toNatClampNeg) x135.2.1 x135.2.2.1 x135.2.2.2) (fun x149 =>
  Option.bind (mon (x135.1) x149.1) (fun u151 =>
  Option.bind (rc x149.2.1 (some a0) 8) (fun a153 =>
  Option.bind (rx x149.2.1 x149.2.2.1 (mm_R x149.2.2.2 (32 * 8 + 0) a153) 17 (11 : Int32)) (fun a155 =>
  Option.bind (rc x149.2.1 v1 8) (fun a157 =>
  Option.bind (rx x149.2.1 x149.2.2.1 (mm_R x149.2.2.2 (32 * 8 + 0) a157) 17 (11 : Int32)) (fun a159 =>
  Option.bind (rc x149.2.1 (mm_C x149.2.2.2 a155 (11 : Int32).toNatClampNeg) 4) (fun a161 =>
  Option.bind (f_X4_takeFrom B fu (x149.1) a161 (mm_C x149.2.2.2 a159 (11 : Int32).toNatClampNeg) x149.2.1 x149.2.2.1 x149.2.2.2) (fun x163 =>
  Option.bind (mon (x149.1) x163.1) (fun u165 =>
  Option.bind (rc x163.2.1 (some a0) 8) (fun a167 =>
  Option.bind (rx x163.2.1 x163.2.2.1 (mm_R x163.2.2.2 (32 * 8 + 0) a167) 17 (12 : Int32)) (fun a169 =>
  Option.bind (rc x163.2.1 v1 8) (fun a171 =>
  Option.bind (rx x163.2.1 x163.2.2.1 (mm_R x163.2.2.2 (32 * 8 + 0) a171) 17 (12 : Int32)) (fun a173 =>
  Option.bind (rc x163.2.1 (mm_C x163.2.2.2 a169 (12 : Int32).toNatClampNeg) 4) (fun a175 =>
  Option.bind (f_X4_takeFrom B fu (x163.1) a175 (mm_C x163.2.2.2 a173 (12 : Int32).toNatClampNeg) x163.2.1 x163.2.2.1 x163.2.2.2) (fun x177 =>
  Option.bind (mon (x163.1) x177.1) (fun u179 =>
  Option.bind (rc x177.2.1 (some a0) 8) (fun a181 =>
  Option.bind (rx x177.2.1 x177.2.2.1 (mm_R x177.2.2.2 (32 * 8 + 0) a181) 17 (13 : Int32)) (fun a183 =>
  Option.bind (rc x177.2.1 v1 8) (fun a185 =>
  Option.bind (rx x177.2.1 x177.2.2.1 (mm_R x177.2.2.2 (32 * 8 + 0) a185) 17 (13 : Int32)) (fun a187 =>
  Option.bind (rc x177.2.1 (mm_C x177.2.2.2 a183 (13 : Int32).toNatClampNeg) 4) (fun a189 =>
  Option.bind (f_X4_takeFrom B fu (x177.1) a189 (mm_C x177.2.2.2 a187 (13 : Int32).toNatClampNeg) x177.2.1 x177.2.2.1 x177.2.2.2) (fun x191 =>
  Option.bind (mon (x177.1) x191.1) (fun u193 =>
  Option.bind (rc x191.2.1 (some a0) 8) (fun a195 =>
  Option.bind (rx x191.2.1 x191.2.2.1 (mm_R x191.2.2.2 (32 * 8 + 0) a195) 17 (14 : Int32)) (fun a197 =>
  Option.bind (rc x191.2.1 v1 8) (fun a199 =>
  Option.bind (rx x191.2.1 x191.2.2.1 (mm_R x191.2.2.2 (32 * 8 + 0) a199) 17 (14 : Int32)) (fun a201 =>
  Option.bind (rc x191.2.1 (mm_C x191.2.2.2 a197 (14 : Int32).toNatClampNeg) 4) (fun a203 =>
  Option.bind (f_X4_takeFrom B fu (x191.1) a203 (mm_C x191.2.2.2 a201 (14 : Int32).toNatClampNeg) x191.2.1 x191.2.2.1 x191.2.2.2) (fun x205 =>
  Option.bind (mon (x191.1) x205.1) (fun u207 =>
  Option.bind (rc x205.2.1 (some a0) 8) (fun a209 =>
  Option.bind (rx x205.2.1 x205.2.2.1 (mm_R x205.2.2.2 (32 * 8 + 0) a209) 17 (15 : Int32)) (fun a211 =>
  Option.bind (rc x205.2.1 v1 8) (fun a213 =>
  Option.bind (rx x205.2.1 x205.2.2.1 (mm_R x205.2.2.2 (32 * 8 + 0) a213) 17 (15 : Int32)) (fun a215 =>
  Option.bind (rc x205.2.1 (mm_C x205.2.2.2 a211 (15 : Int32).toNatClampNeg) 4) (fun a217 =>
  Option.bind (f_X4_takeFrom B fu (x205.1) a217 (mm_C x205.2.2.2 a215 (15 : Int32).toNatClampNeg) x205.2.1 x205.2.2.1 x205.2.2.2) (fun x219 =>
  Option.bind (mon (x205.1) x219.1) (fun u221 =>
  some (x219.1, x219.2.1, x219.2.2.1, x219.2.2.2))))))))))))))))))))))))))))))))))))))))))))))))))))))))))))))))))))))))))))))))))))))))))))))))))))))))))))))))
set_option maxHeartbeats 8000000 in
set_option maxRecDepth 20000 in
theorem w_X8_takeFrom_0 {X : Cx} {d : Nat} {n : Nat} {K L : Nat → Nat} {fu : Nat} {M : Mm} {a0 : Nat} {v1 : (Option Nat)} {r : (Nat × (Nat → Nat) × (Nat → Nat) × Mm)} (o : cOk X cX8_takeFrom RX8 (d + 1)) (hL : cL X = 3) (hr : (ch X).sig.returnType = none) (hnm : (ch X).name = yX8_takeFrom.name) (hz : (cs X).heap.size + 0 = cB X + n) (hk0 : K a0 = 8) (hc : (cR X).cells = (r.1 - n)) (hs : (cR X).slots = (101 * (r.1 - n))) (hE : cE X r.1 r.2.1 r.2.2.1 r.2.2.2 none (r.1 - n) (101 * (r.1 - n))) (hd : 5 ≤ d + 1) (h : f_X8_takeFrom (cB X) fu n a0 v1 K L M = some r) : gW X 0 0 n K L M 0 [(0, va_rf (some a0)), (1, va_rf v1)] [] := by
  unfold f_X8_takeFrom at h
  obtain ⟨a1, e2, h⟩ := ob h
  obtain ⟨a3, e4, h⟩ := ob h
  obtain ⟨a5, e6, h⟩ := ob h
  obtain ⟨a7, e8, h⟩ := ob h
  obtain ⟨x9, e10, h⟩ := ob h
  obtain ⟨u11, e12, h⟩ := ob h
  have e12 := mon_at e12
  obtain ⟨a13, e14, h⟩ := ob h
  obtain ⟨a15, e16, h⟩ := ob h
  obtain ⟨a17, e18, h⟩ := ob h
  obtain ⟨a19, e20, h⟩ := ob h
  obtain ⟨a21, e22, h⟩ := ob h
  obtain ⟨x23, e24, h⟩ := ob h
  obtain ⟨u25, e26, h⟩ := ob h
  have e26 := mon_at e26
  obtain ⟨a27, e28, h⟩ := ob h
  obtain ⟨a29, e30, h⟩ := ob h
  obtain ⟨a31, e32, h⟩ := ob h
  obtain ⟨a33, e34, h⟩ := ob h
  obtain ⟨a35, e36, h⟩ := ob h
  obtain ⟨x37, e38, h⟩ := ob h
  obtain ⟨u39, e40, h⟩ := ob h
  have e40 := mon_at e40
  obtain ⟨a41, e42, h⟩ := ob h
  obtain ⟨a43, e44, h⟩ := ob h
  obtain ⟨a45, e46, h⟩ := ob h
  obtain ⟨a47, e48, h⟩ := ob h
  obtain ⟨a49, e50, h⟩ := ob h
  obtain ⟨x51, e52, h⟩ := ob h
  obtain ⟨u53, e54, h⟩ := ob h
  have e54 := mon_at e54
  obtain ⟨a55, e56, h⟩ := ob h
  obtain ⟨a57, e58, h⟩ := ob h
  obtain ⟨a59, e60, h⟩ := ob h
  obtain ⟨a61, e62, h⟩ := ob h
  obtain ⟨a63, e64, h⟩ := ob h
  obtain ⟨x65, e66, h⟩ := ob h
  obtain ⟨u67, e68, h⟩ := ob h
  have e68 := mon_at e68
  obtain ⟨a69, e70, h⟩ := ob h
  obtain ⟨a71, e72, h⟩ := ob h
  obtain ⟨a73, e74, h⟩ := ob h
  obtain ⟨a75, e76, h⟩ := ob h
  obtain ⟨a77, e78, h⟩ := ob h
  obtain ⟨x79, e80, h⟩ := ob h
  obtain ⟨u81, e82, h⟩ := ob h
  have e82 := mon_at e82
  obtain ⟨a83, e84, h⟩ := ob h
  obtain ⟨a85, e86, h⟩ := ob h
  obtain ⟨a87, e88, h⟩ := ob h
  obtain ⟨a89, e90, h⟩ := ob h
  obtain ⟨a91, e92, h⟩ := ob h
  obtain ⟨x93, e94, h⟩ := ob h
  obtain ⟨u95, e96, h⟩ := ob h
  have e96 := mon_at e96
  obtain ⟨a97, e98, h⟩ := ob h
  obtain ⟨a99, e100, h⟩ := ob h
  obtain ⟨a101, e102, h⟩ := ob h
  obtain ⟨a103, e104, h⟩ := ob h
  obtain ⟨a105, e106, h⟩ := ob h
  obtain ⟨x107, e108, h⟩ := ob h
  obtain ⟨u109, e110, h⟩ := ob h
  have e110 := mon_at e110
  obtain ⟨a111, e112, h⟩ := ob h
  obtain ⟨a113, e114, h⟩ := ob h
  obtain ⟨a115, e116, h⟩ := ob h
  obtain ⟨a117, e118, h⟩ := ob h
  obtain ⟨a119, e120, h⟩ := ob h
  obtain ⟨x121, e122, h⟩ := ob h
  obtain ⟨u123, e124, h⟩ := ob h
  have e124 := mon_at e124
  obtain ⟨a125, e126, h⟩ := ob h
  obtain ⟨a127, e128, h⟩ := ob h
  obtain ⟨a129, e130, h⟩ := ob h
  obtain ⟨a131, e132, h⟩ := ob h
  obtain ⟨a133, e134, h⟩ := ob h
  obtain ⟨x135, e136, h⟩ := ob h
  obtain ⟨u137, e138, h⟩ := ob h
  have e138 := mon_at e138
  obtain ⟨a139, e140, h⟩ := ob h
  obtain ⟨a141, e142, h⟩ := ob h
  obtain ⟨a143, e144, h⟩ := ob h
  obtain ⟨a145, e146, h⟩ := ob h
  obtain ⟨a147, e148, h⟩ := ob h
  obtain ⟨x149, e150, h⟩ := ob h
  obtain ⟨u151, e152, h⟩ := ob h
  have e152 := mon_at e152
  obtain ⟨a153, e154, h⟩ := ob h
  obtain ⟨a155, e156, h⟩ := ob h
  obtain ⟨a157, e158, h⟩ := ob h
  obtain ⟨a159, e160, h⟩ := ob h
  obtain ⟨a161, e162, h⟩ := ob h
  obtain ⟨x163, e164, h⟩ := ob h
  obtain ⟨u165, e166, h⟩ := ob h
  have e166 := mon_at e166
  obtain ⟨a167, e168, h⟩ := ob h
  obtain ⟨a169, e170, h⟩ := ob h
  obtain ⟨a171, e172, h⟩ := ob h
  obtain ⟨a173, e174, h⟩ := ob h
  obtain ⟨a175, e176, h⟩ := ob h
  obtain ⟨x177, e178, h⟩ := ob h
  obtain ⟨u179, e180, h⟩ := ob h
  have e180 := mon_at e180
  obtain ⟨a181, e182, h⟩ := ob h
  obtain ⟨a183, e184, h⟩ := ob h
  obtain ⟨a185, e186, h⟩ := ob h
  obtain ⟨a187, e188, h⟩ := ob h
  obtain ⟨a189, e190, h⟩ := ob h
  obtain ⟨x191, e192, h⟩ := ob h
  obtain ⟨u193, e194, h⟩ := ob h
  have e194 := mon_at e194
  obtain ⟨a195, e196, h⟩ := ob h
  obtain ⟨a197, e198, h⟩ := ob h
  obtain ⟨a199, e200, h⟩ := ob h
  obtain ⟨a201, e202, h⟩ := ob h
  obtain ⟨a203, e204, h⟩ := ob h
  obtain ⟨x205, e206, h⟩ := ob h
  obtain ⟨u207, e208, h⟩ := ob h
  have e208 := mon_at e208
  obtain ⟨a209, e210, h⟩ := ob h
  obtain ⟨a211, e212, h⟩ := ob h
  obtain ⟨a213, e214, h⟩ := ob h
  obtain ⟨a215, e216, h⟩ := ob h
  obtain ⟨a217, e218, h⟩ := ob h
  obtain ⟨x219, e220, h⟩ := ob h
  obtain ⟨u221, e222, h⟩ := ob h
  have e222 := mon_at e222
  cases h
  dsimp only at hc hs hE
  refine g_iconst (v := (0 : Int32)) o dX8_takeFrom_0 (by decide) ?_
  refine g_istore_n (i := 2) (ls' := [(2, .int (0 : Int32)), (0, va_rf (some a0)), (1, va_rf v1)]) o dX8_takeFrom_1 rfl (ltL hL (by decide)) (by simp [cat_rf]) ?_
  refine g_iload_n o dX8_takeFrom_2 0 rfl ?_
  refine g_bipush (v := (16 : Int32)) o dX8_takeFrom_3 (by decide) ?_
  refine g_icmp_ge (tgt := 29) o dX8_takeFrom_5 (by decide) (fun q => absurd q (by decide)) (fun _ => ?_)
  refine g_aload_n o dX8_takeFrom_8 1 rfl ?_
  refine g_getR o fl_X8_11 (rc_self hk0) (by decide) rfl dX8_takeFrom_9 ?_
  refine g_iload_n o dX8_takeFrom_12 0 rfl ?_
  refine g_aald o (by decide) e2 dX8_takeFrom_13 ?_
  refine g_aload_n o dX8_takeFrom_14 2 rfl ?_
  refine g_getR o fl_X8_11 e4 (by decide) rfl dX8_takeFrom_15 ?_
  refine g_iload_n o dX8_takeFrom_18 0 rfl ?_
  refine g_aald o (by decide) e6 dX8_takeFrom_19 ?_
  refine g_invV o e8 (by decide) ml_X8_51 kb_X4_takeFrom kv_X4_takeFrom rfl (c_X4_takeFrom (cq X) (cD X) (cY X) (cB X) (d := d) (by omega) (rc_at e8).2 e10) rfl rfl (by simp [cat_i, cat_l, cat_rf]) ⟨by omega, by omega⟩ dX8_takeFrom_20 ?_
  refine g_nrm (k1 := x9.1 - n) (k2 := 101 * (x9.1 - n)) (n := x9.1) (by omega) (by omega) rfl ?_
  refine g_iinc (i := 2) (v := (1 : Int32)) (ls' := [(2, .int (1 : Int32)), (0, va_rf (some a0)), (1, va_rf v1)]) o dX8_takeFrom_23 0 rfl (by decide) (ltL hL (by decide)) (by simp [cat_rf]) ?_
  refine g_goto (tgt := 2) o dX8_takeFrom_26 (by decide) ?_
  refine g_iload_n o dX8_takeFrom_2 0 rfl ?_
  refine g_bipush (v := (16 : Int32)) o dX8_takeFrom_3 (by decide) ?_
  refine g_icmp_ge (tgt := 29) o dX8_takeFrom_5 (by decide) (fun q => absurd q (by decide)) (fun _ => ?_)
  refine g_aload_n o dX8_takeFrom_8 1 rfl ?_
  refine g_getR o fl_X8_11 e14 (by decide) rfl dX8_takeFrom_9 ?_
  refine g_iload_n o dX8_takeFrom_12 0 rfl ?_
  refine g_aald o (by decide) e16 dX8_takeFrom_13 ?_
  refine g_aload_n o dX8_takeFrom_14 2 rfl ?_
  refine g_getR o fl_X8_11 e18 (by decide) rfl dX8_takeFrom_15 ?_
  refine g_iload_n o dX8_takeFrom_18 0 rfl ?_
  refine g_aald o (by decide) e20 dX8_takeFrom_19 ?_
  refine g_invV o e22 (by decide) ml_X8_51 kb_X4_takeFrom kv_X4_takeFrom rfl (c_X4_takeFrom (cq X) (cD X) (cY X) (cB X) (d := d) (by omega) (rc_at e22).2 e24) rfl rfl (by simp [cat_i, cat_l, cat_rf]) ⟨by omega, by omega⟩ dX8_takeFrom_20 ?_
  refine g_nrm (k1 := x23.1 - n) (k2 := 101 * (x23.1 - n)) (n := x23.1) (by omega) (by omega) rfl ?_
  refine g_iinc (i := 2) (v := (2 : Int32)) (ls' := [(2, .int (2 : Int32)), (0, va_rf (some a0)), (1, va_rf v1)]) o dX8_takeFrom_23 0 rfl (by decide) (ltL hL (by decide)) (by simp [cat_rf]) ?_
  refine g_goto (tgt := 2) o dX8_takeFrom_26 (by decide) ?_
  refine g_iload_n o dX8_takeFrom_2 0 rfl ?_
  refine g_bipush (v := (16 : Int32)) o dX8_takeFrom_3 (by decide) ?_
  refine g_icmp_ge (tgt := 29) o dX8_takeFrom_5 (by decide) (fun q => absurd q (by decide)) (fun _ => ?_)
  refine g_aload_n o dX8_takeFrom_8 1 rfl ?_
  refine g_getR o fl_X8_11 e28 (by decide) rfl dX8_takeFrom_9 ?_
  refine g_iload_n o dX8_takeFrom_12 0 rfl ?_
  refine g_aald o (by decide) e30 dX8_takeFrom_13 ?_
  refine g_aload_n o dX8_takeFrom_14 2 rfl ?_
  refine g_getR o fl_X8_11 e32 (by decide) rfl dX8_takeFrom_15 ?_
  refine g_iload_n o dX8_takeFrom_18 0 rfl ?_
  refine g_aald o (by decide) e34 dX8_takeFrom_19 ?_
  refine g_invV o e36 (by decide) ml_X8_51 kb_X4_takeFrom kv_X4_takeFrom rfl (c_X4_takeFrom (cq X) (cD X) (cY X) (cB X) (d := d) (by omega) (rc_at e36).2 e38) rfl rfl (by simp [cat_i, cat_l, cat_rf]) ⟨by omega, by omega⟩ dX8_takeFrom_20 ?_
  refine g_nrm (k1 := x37.1 - n) (k2 := 101 * (x37.1 - n)) (n := x37.1) (by omega) (by omega) rfl ?_
  refine g_iinc (i := 2) (v := (3 : Int32)) (ls' := [(2, .int (3 : Int32)), (0, va_rf (some a0)), (1, va_rf v1)]) o dX8_takeFrom_23 0 rfl (by decide) (ltL hL (by decide)) (by simp [cat_rf]) ?_
  refine g_goto (tgt := 2) o dX8_takeFrom_26 (by decide) ?_
  refine g_iload_n o dX8_takeFrom_2 0 rfl ?_
  refine g_bipush (v := (16 : Int32)) o dX8_takeFrom_3 (by decide) ?_
  refine g_icmp_ge (tgt := 29) o dX8_takeFrom_5 (by decide) (fun q => absurd q (by decide)) (fun _ => ?_)
  refine g_aload_n o dX8_takeFrom_8 1 rfl ?_
  refine g_getR o fl_X8_11 e42 (by decide) rfl dX8_takeFrom_9 ?_
  refine g_iload_n o dX8_takeFrom_12 0 rfl ?_
  refine g_aald o (by decide) e44 dX8_takeFrom_13 ?_
  refine g_aload_n o dX8_takeFrom_14 2 rfl ?_
  refine g_getR o fl_X8_11 e46 (by decide) rfl dX8_takeFrom_15 ?_
  refine g_iload_n o dX8_takeFrom_18 0 rfl ?_
  refine g_aald o (by decide) e48 dX8_takeFrom_19 ?_
  refine g_invV o e50 (by decide) ml_X8_51 kb_X4_takeFrom kv_X4_takeFrom rfl (c_X4_takeFrom (cq X) (cD X) (cY X) (cB X) (d := d) (by omega) (rc_at e50).2 e52) rfl rfl (by simp [cat_i, cat_l, cat_rf]) ⟨by omega, by omega⟩ dX8_takeFrom_20 ?_
  refine g_nrm (k1 := x51.1 - n) (k2 := 101 * (x51.1 - n)) (n := x51.1) (by omega) (by omega) rfl ?_
  refine g_iinc (i := 2) (v := (4 : Int32)) (ls' := [(2, .int (4 : Int32)), (0, va_rf (some a0)), (1, va_rf v1)]) o dX8_takeFrom_23 0 rfl (by decide) (ltL hL (by decide)) (by simp [cat_rf]) ?_
  refine g_goto (tgt := 2) o dX8_takeFrom_26 (by decide) ?_
  refine g_iload_n o dX8_takeFrom_2 0 rfl ?_
  refine g_bipush (v := (16 : Int32)) o dX8_takeFrom_3 (by decide) ?_
  refine g_icmp_ge (tgt := 29) o dX8_takeFrom_5 (by decide) (fun q => absurd q (by decide)) (fun _ => ?_)
  refine g_aload_n o dX8_takeFrom_8 1 rfl ?_
  refine g_getR o fl_X8_11 e56 (by decide) rfl dX8_takeFrom_9 ?_
  refine g_iload_n o dX8_takeFrom_12 0 rfl ?_
  refine g_aald o (by decide) e58 dX8_takeFrom_13 ?_
  refine g_aload_n o dX8_takeFrom_14 2 rfl ?_
  refine g_getR o fl_X8_11 e60 (by decide) rfl dX8_takeFrom_15 ?_
  refine g_iload_n o dX8_takeFrom_18 0 rfl ?_
  refine g_aald o (by decide) e62 dX8_takeFrom_19 ?_
  refine g_invV o e64 (by decide) ml_X8_51 kb_X4_takeFrom kv_X4_takeFrom rfl (c_X4_takeFrom (cq X) (cD X) (cY X) (cB X) (d := d) (by omega) (rc_at e64).2 e66) rfl rfl (by simp [cat_i, cat_l, cat_rf]) ⟨by omega, by omega⟩ dX8_takeFrom_20 ?_
  refine g_nrm (k1 := x65.1 - n) (k2 := 101 * (x65.1 - n)) (n := x65.1) (by omega) (by omega) rfl ?_
  refine g_iinc (i := 2) (v := (5 : Int32)) (ls' := [(2, .int (5 : Int32)), (0, va_rf (some a0)), (1, va_rf v1)]) o dX8_takeFrom_23 0 rfl (by decide) (ltL hL (by decide)) (by simp [cat_rf]) ?_
  refine g_goto (tgt := 2) o dX8_takeFrom_26 (by decide) ?_
  refine g_iload_n o dX8_takeFrom_2 0 rfl ?_
  refine g_bipush (v := (16 : Int32)) o dX8_takeFrom_3 (by decide) ?_
  refine g_icmp_ge (tgt := 29) o dX8_takeFrom_5 (by decide) (fun q => absurd q (by decide)) (fun _ => ?_)
  refine g_aload_n o dX8_takeFrom_8 1 rfl ?_
  refine g_getR o fl_X8_11 e70 (by decide) rfl dX8_takeFrom_9 ?_
  refine g_iload_n o dX8_takeFrom_12 0 rfl ?_
  refine g_aald o (by decide) e72 dX8_takeFrom_13 ?_
  refine g_aload_n o dX8_takeFrom_14 2 rfl ?_
  refine g_getR o fl_X8_11 e74 (by decide) rfl dX8_takeFrom_15 ?_
  refine g_iload_n o dX8_takeFrom_18 0 rfl ?_
  refine g_aald o (by decide) e76 dX8_takeFrom_19 ?_
  refine g_invV o e78 (by decide) ml_X8_51 kb_X4_takeFrom kv_X4_takeFrom rfl (c_X4_takeFrom (cq X) (cD X) (cY X) (cB X) (d := d) (by omega) (rc_at e78).2 e80) rfl rfl (by simp [cat_i, cat_l, cat_rf]) ⟨by omega, by omega⟩ dX8_takeFrom_20 ?_
  refine g_nrm (k1 := x79.1 - n) (k2 := 101 * (x79.1 - n)) (n := x79.1) (by omega) (by omega) rfl ?_
  refine g_iinc (i := 2) (v := (6 : Int32)) (ls' := [(2, .int (6 : Int32)), (0, va_rf (some a0)), (1, va_rf v1)]) o dX8_takeFrom_23 0 rfl (by decide) (ltL hL (by decide)) (by simp [cat_rf]) ?_
  refine g_goto (tgt := 2) o dX8_takeFrom_26 (by decide) ?_
  refine g_iload_n o dX8_takeFrom_2 0 rfl ?_
  refine g_bipush (v := (16 : Int32)) o dX8_takeFrom_3 (by decide) ?_
  refine g_icmp_ge (tgt := 29) o dX8_takeFrom_5 (by decide) (fun q => absurd q (by decide)) (fun _ => ?_)
  refine g_aload_n o dX8_takeFrom_8 1 rfl ?_
  refine g_getR o fl_X8_11 e84 (by decide) rfl dX8_takeFrom_9 ?_
  refine g_iload_n o dX8_takeFrom_12 0 rfl ?_
  refine g_aald o (by decide) e86 dX8_takeFrom_13 ?_
  refine g_aload_n o dX8_takeFrom_14 2 rfl ?_
  refine g_getR o fl_X8_11 e88 (by decide) rfl dX8_takeFrom_15 ?_
  refine g_iload_n o dX8_takeFrom_18 0 rfl ?_
  refine g_aald o (by decide) e90 dX8_takeFrom_19 ?_
  refine g_invV o e92 (by decide) ml_X8_51 kb_X4_takeFrom kv_X4_takeFrom rfl (c_X4_takeFrom (cq X) (cD X) (cY X) (cB X) (d := d) (by omega) (rc_at e92).2 e94) rfl rfl (by simp [cat_i, cat_l, cat_rf]) ⟨by omega, by omega⟩ dX8_takeFrom_20 ?_
  refine g_nrm (k1 := x93.1 - n) (k2 := 101 * (x93.1 - n)) (n := x93.1) (by omega) (by omega) rfl ?_
  refine g_iinc (i := 2) (v := (7 : Int32)) (ls' := [(2, .int (7 : Int32)), (0, va_rf (some a0)), (1, va_rf v1)]) o dX8_takeFrom_23 0 rfl (by decide) (ltL hL (by decide)) (by simp [cat_rf]) ?_
  refine g_goto (tgt := 2) o dX8_takeFrom_26 (by decide) ?_
  refine g_iload_n o dX8_takeFrom_2 0 rfl ?_
  refine g_bipush (v := (16 : Int32)) o dX8_takeFrom_3 (by decide) ?_
  refine g_icmp_ge (tgt := 29) o dX8_takeFrom_5 (by decide) (fun q => absurd q (by decide)) (fun _ => ?_)
  refine g_aload_n o dX8_takeFrom_8 1 rfl ?_
  refine g_getR o fl_X8_11 e98 (by decide) rfl dX8_takeFrom_9 ?_
  refine g_iload_n o dX8_takeFrom_12 0 rfl ?_
  refine g_aald o (by decide) e100 dX8_takeFrom_13 ?_
  refine g_aload_n o dX8_takeFrom_14 2 rfl ?_
  refine g_getR o fl_X8_11 e102 (by decide) rfl dX8_takeFrom_15 ?_
  refine g_iload_n o dX8_takeFrom_18 0 rfl ?_
  refine g_aald o (by decide) e104 dX8_takeFrom_19 ?_
  refine g_invV o e106 (by decide) ml_X8_51 kb_X4_takeFrom kv_X4_takeFrom rfl (c_X4_takeFrom (cq X) (cD X) (cY X) (cB X) (d := d) (by omega) (rc_at e106).2 e108) rfl rfl (by simp [cat_i, cat_l, cat_rf]) ⟨by omega, by omega⟩ dX8_takeFrom_20 ?_
  refine g_nrm (k1 := x107.1 - n) (k2 := 101 * (x107.1 - n)) (n := x107.1) (by omega) (by omega) rfl ?_
  refine g_iinc (i := 2) (v := (8 : Int32)) (ls' := [(2, .int (8 : Int32)), (0, va_rf (some a0)), (1, va_rf v1)]) o dX8_takeFrom_23 0 rfl (by decide) (ltL hL (by decide)) (by simp [cat_rf]) ?_
  refine g_goto (tgt := 2) o dX8_takeFrom_26 (by decide) ?_
  refine g_iload_n o dX8_takeFrom_2 0 rfl ?_
  refine g_bipush (v := (16 : Int32)) o dX8_takeFrom_3 (by decide) ?_
  refine g_icmp_ge (tgt := 29) o dX8_takeFrom_5 (by decide) (fun q => absurd q (by decide)) (fun _ => ?_)
  refine g_aload_n o dX8_takeFrom_8 1 rfl ?_
  refine g_getR o fl_X8_11 e112 (by decide) rfl dX8_takeFrom_9 ?_
  refine g_iload_n o dX8_takeFrom_12 0 rfl ?_
  refine g_aald o (by decide) e114 dX8_takeFrom_13 ?_
  refine g_aload_n o dX8_takeFrom_14 2 rfl ?_
  refine g_getR o fl_X8_11 e116 (by decide) rfl dX8_takeFrom_15 ?_
  refine g_iload_n o dX8_takeFrom_18 0 rfl ?_
  refine g_aald o (by decide) e118 dX8_takeFrom_19 ?_
  refine g_invV o e120 (by decide) ml_X8_51 kb_X4_takeFrom kv_X4_takeFrom rfl (c_X4_takeFrom (cq X) (cD X) (cY X) (cB X) (d := d) (by omega) (rc_at e120).2 e122) rfl rfl (by simp [cat_i, cat_l, cat_rf]) ⟨by omega, by omega⟩ dX8_takeFrom_20 ?_
  refine g_nrm (k1 := x121.1 - n) (k2 := 101 * (x121.1 - n)) (n := x121.1) (by omega) (by omega) rfl ?_
  refine g_iinc (i := 2) (v := (9 : Int32)) (ls' := [(2, .int (9 : Int32)), (0, va_rf (some a0)), (1, va_rf v1)]) o dX8_takeFrom_23 0 rfl (by decide) (ltL hL (by decide)) (by simp [cat_rf]) ?_
  refine g_goto (tgt := 2) o dX8_takeFrom_26 (by decide) ?_
  refine g_iload_n o dX8_takeFrom_2 0 rfl ?_
  refine g_bipush (v := (16 : Int32)) o dX8_takeFrom_3 (by decide) ?_
  refine g_icmp_ge (tgt := 29) o dX8_takeFrom_5 (by decide) (fun q => absurd q (by decide)) (fun _ => ?_)
  refine g_aload_n o dX8_takeFrom_8 1 rfl ?_
  refine g_getR o fl_X8_11 e126 (by decide) rfl dX8_takeFrom_9 ?_
  refine g_iload_n o dX8_takeFrom_12 0 rfl ?_
  refine g_aald o (by decide) e128 dX8_takeFrom_13 ?_
  refine g_aload_n o dX8_takeFrom_14 2 rfl ?_
  refine g_getR o fl_X8_11 e130 (by decide) rfl dX8_takeFrom_15 ?_
  refine g_iload_n o dX8_takeFrom_18 0 rfl ?_
  refine g_aald o (by decide) e132 dX8_takeFrom_19 ?_
  refine g_invV o e134 (by decide) ml_X8_51 kb_X4_takeFrom kv_X4_takeFrom rfl (c_X4_takeFrom (cq X) (cD X) (cY X) (cB X) (d := d) (by omega) (rc_at e134).2 e136) rfl rfl (by simp [cat_i, cat_l, cat_rf]) ⟨by omega, by omega⟩ dX8_takeFrom_20 ?_
  refine g_nrm (k1 := x135.1 - n) (k2 := 101 * (x135.1 - n)) (n := x135.1) (by omega) (by omega) rfl ?_
  refine g_iinc (i := 2) (v := (10 : Int32)) (ls' := [(2, .int (10 : Int32)), (0, va_rf (some a0)), (1, va_rf v1)]) o dX8_takeFrom_23 0 rfl (by decide) (ltL hL (by decide)) (by simp [cat_rf]) ?_
  refine g_goto (tgt := 2) o dX8_takeFrom_26 (by decide) ?_
  refine g_iload_n o dX8_takeFrom_2 0 rfl ?_
  refine g_bipush (v := (16 : Int32)) o dX8_takeFrom_3 (by decide) ?_
  refine g_icmp_ge (tgt := 29) o dX8_takeFrom_5 (by decide) (fun q => absurd q (by decide)) (fun _ => ?_)
  refine g_aload_n o dX8_takeFrom_8 1 rfl ?_
  refine g_getR o fl_X8_11 e140 (by decide) rfl dX8_takeFrom_9 ?_
  refine g_iload_n o dX8_takeFrom_12 0 rfl ?_
  refine g_aald o (by decide) e142 dX8_takeFrom_13 ?_
  refine g_aload_n o dX8_takeFrom_14 2 rfl ?_
  refine g_getR o fl_X8_11 e144 (by decide) rfl dX8_takeFrom_15 ?_
  refine g_iload_n o dX8_takeFrom_18 0 rfl ?_
  refine g_aald o (by decide) e146 dX8_takeFrom_19 ?_
  refine g_invV o e148 (by decide) ml_X8_51 kb_X4_takeFrom kv_X4_takeFrom rfl (c_X4_takeFrom (cq X) (cD X) (cY X) (cB X) (d := d) (by omega) (rc_at e148).2 e150) rfl rfl (by simp [cat_i, cat_l, cat_rf]) ⟨by omega, by omega⟩ dX8_takeFrom_20 ?_
  refine g_nrm (k1 := x149.1 - n) (k2 := 101 * (x149.1 - n)) (n := x149.1) (by omega) (by omega) rfl ?_
  refine g_iinc (i := 2) (v := (11 : Int32)) (ls' := [(2, .int (11 : Int32)), (0, va_rf (some a0)), (1, va_rf v1)]) o dX8_takeFrom_23 0 rfl (by decide) (ltL hL (by decide)) (by simp [cat_rf]) ?_
  refine g_goto (tgt := 2) o dX8_takeFrom_26 (by decide) ?_
  refine g_iload_n o dX8_takeFrom_2 0 rfl ?_
  refine g_bipush (v := (16 : Int32)) o dX8_takeFrom_3 (by decide) ?_
  refine g_icmp_ge (tgt := 29) o dX8_takeFrom_5 (by decide) (fun q => absurd q (by decide)) (fun _ => ?_)
  refine g_aload_n o dX8_takeFrom_8 1 rfl ?_
  refine g_getR o fl_X8_11 e154 (by decide) rfl dX8_takeFrom_9 ?_
  refine g_iload_n o dX8_takeFrom_12 0 rfl ?_
  refine g_aald o (by decide) e156 dX8_takeFrom_13 ?_
  refine g_aload_n o dX8_takeFrom_14 2 rfl ?_
  refine g_getR o fl_X8_11 e158 (by decide) rfl dX8_takeFrom_15 ?_
  refine g_iload_n o dX8_takeFrom_18 0 rfl ?_
  refine g_aald o (by decide) e160 dX8_takeFrom_19 ?_
  refine g_invV o e162 (by decide) ml_X8_51 kb_X4_takeFrom kv_X4_takeFrom rfl (c_X4_takeFrom (cq X) (cD X) (cY X) (cB X) (d := d) (by omega) (rc_at e162).2 e164) rfl rfl (by simp [cat_i, cat_l, cat_rf]) ⟨by omega, by omega⟩ dX8_takeFrom_20 ?_
  refine g_nrm (k1 := x163.1 - n) (k2 := 101 * (x163.1 - n)) (n := x163.1) (by omega) (by omega) rfl ?_
  refine g_iinc (i := 2) (v := (12 : Int32)) (ls' := [(2, .int (12 : Int32)), (0, va_rf (some a0)), (1, va_rf v1)]) o dX8_takeFrom_23 0 rfl (by decide) (ltL hL (by decide)) (by simp [cat_rf]) ?_
  refine g_goto (tgt := 2) o dX8_takeFrom_26 (by decide) ?_
  refine g_iload_n o dX8_takeFrom_2 0 rfl ?_
  refine g_bipush (v := (16 : Int32)) o dX8_takeFrom_3 (by decide) ?_
  refine g_icmp_ge (tgt := 29) o dX8_takeFrom_5 (by decide) (fun q => absurd q (by decide)) (fun _ => ?_)
  refine g_aload_n o dX8_takeFrom_8 1 rfl ?_
  refine g_getR o fl_X8_11 e168 (by decide) rfl dX8_takeFrom_9 ?_
  refine g_iload_n o dX8_takeFrom_12 0 rfl ?_
  refine g_aald o (by decide) e170 dX8_takeFrom_13 ?_
  refine g_aload_n o dX8_takeFrom_14 2 rfl ?_
  refine g_getR o fl_X8_11 e172 (by decide) rfl dX8_takeFrom_15 ?_
  refine g_iload_n o dX8_takeFrom_18 0 rfl ?_
  refine g_aald o (by decide) e174 dX8_takeFrom_19 ?_
  refine g_invV o e176 (by decide) ml_X8_51 kb_X4_takeFrom kv_X4_takeFrom rfl (c_X4_takeFrom (cq X) (cD X) (cY X) (cB X) (d := d) (by omega) (rc_at e176).2 e178) rfl rfl (by simp [cat_i, cat_l, cat_rf]) ⟨by omega, by omega⟩ dX8_takeFrom_20 ?_
  refine g_nrm (k1 := x177.1 - n) (k2 := 101 * (x177.1 - n)) (n := x177.1) (by omega) (by omega) rfl ?_
  refine g_iinc (i := 2) (v := (13 : Int32)) (ls' := [(2, .int (13 : Int32)), (0, va_rf (some a0)), (1, va_rf v1)]) o dX8_takeFrom_23 0 rfl (by decide) (ltL hL (by decide)) (by simp [cat_rf]) ?_
  refine g_goto (tgt := 2) o dX8_takeFrom_26 (by decide) ?_
  refine g_iload_n o dX8_takeFrom_2 0 rfl ?_
  refine g_bipush (v := (16 : Int32)) o dX8_takeFrom_3 (by decide) ?_
  refine g_icmp_ge (tgt := 29) o dX8_takeFrom_5 (by decide) (fun q => absurd q (by decide)) (fun _ => ?_)
  refine g_aload_n o dX8_takeFrom_8 1 rfl ?_
  refine g_getR o fl_X8_11 e182 (by decide) rfl dX8_takeFrom_9 ?_
  refine g_iload_n o dX8_takeFrom_12 0 rfl ?_
  refine g_aald o (by decide) e184 dX8_takeFrom_13 ?_
  refine g_aload_n o dX8_takeFrom_14 2 rfl ?_
  refine g_getR o fl_X8_11 e186 (by decide) rfl dX8_takeFrom_15 ?_
  refine g_iload_n o dX8_takeFrom_18 0 rfl ?_
  refine g_aald o (by decide) e188 dX8_takeFrom_19 ?_
  refine g_invV o e190 (by decide) ml_X8_51 kb_X4_takeFrom kv_X4_takeFrom rfl (c_X4_takeFrom (cq X) (cD X) (cY X) (cB X) (d := d) (by omega) (rc_at e190).2 e192) rfl rfl (by simp [cat_i, cat_l, cat_rf]) ⟨by omega, by omega⟩ dX8_takeFrom_20 ?_
  refine g_nrm (k1 := x191.1 - n) (k2 := 101 * (x191.1 - n)) (n := x191.1) (by omega) (by omega) rfl ?_
  refine g_iinc (i := 2) (v := (14 : Int32)) (ls' := [(2, .int (14 : Int32)), (0, va_rf (some a0)), (1, va_rf v1)]) o dX8_takeFrom_23 0 rfl (by decide) (ltL hL (by decide)) (by simp [cat_rf]) ?_
  refine g_goto (tgt := 2) o dX8_takeFrom_26 (by decide) ?_
  refine g_iload_n o dX8_takeFrom_2 0 rfl ?_
  refine g_bipush (v := (16 : Int32)) o dX8_takeFrom_3 (by decide) ?_
  refine g_icmp_ge (tgt := 29) o dX8_takeFrom_5 (by decide) (fun q => absurd q (by decide)) (fun _ => ?_)
  refine g_aload_n o dX8_takeFrom_8 1 rfl ?_
  refine g_getR o fl_X8_11 e196 (by decide) rfl dX8_takeFrom_9 ?_
  refine g_iload_n o dX8_takeFrom_12 0 rfl ?_
  refine g_aald o (by decide) e198 dX8_takeFrom_13 ?_
  refine g_aload_n o dX8_takeFrom_14 2 rfl ?_
  refine g_getR o fl_X8_11 e200 (by decide) rfl dX8_takeFrom_15 ?_
  refine g_iload_n o dX8_takeFrom_18 0 rfl ?_
  refine g_aald o (by decide) e202 dX8_takeFrom_19 ?_
  refine g_invV o e204 (by decide) ml_X8_51 kb_X4_takeFrom kv_X4_takeFrom rfl (c_X4_takeFrom (cq X) (cD X) (cY X) (cB X) (d := d) (by omega) (rc_at e204).2 e206) rfl rfl (by simp [cat_i, cat_l, cat_rf]) ⟨by omega, by omega⟩ dX8_takeFrom_20 ?_
  refine g_nrm (k1 := x205.1 - n) (k2 := 101 * (x205.1 - n)) (n := x205.1) (by omega) (by omega) rfl ?_
  refine g_iinc (i := 2) (v := (15 : Int32)) (ls' := [(2, .int (15 : Int32)), (0, va_rf (some a0)), (1, va_rf v1)]) o dX8_takeFrom_23 0 rfl (by decide) (ltL hL (by decide)) (by simp [cat_rf]) ?_
  refine g_goto (tgt := 2) o dX8_takeFrom_26 (by decide) ?_
  refine g_iload_n o dX8_takeFrom_2 0 rfl ?_
  refine g_bipush (v := (16 : Int32)) o dX8_takeFrom_3 (by decide) ?_
  refine g_icmp_ge (tgt := 29) o dX8_takeFrom_5 (by decide) (fun q => absurd q (by decide)) (fun _ => ?_)
  refine g_aload_n o dX8_takeFrom_8 1 rfl ?_
  refine g_getR o fl_X8_11 e210 (by decide) rfl dX8_takeFrom_9 ?_
  refine g_iload_n o dX8_takeFrom_12 0 rfl ?_
  refine g_aald o (by decide) e212 dX8_takeFrom_13 ?_
  refine g_aload_n o dX8_takeFrom_14 2 rfl ?_
  refine g_getR o fl_X8_11 e214 (by decide) rfl dX8_takeFrom_15 ?_
  refine g_iload_n o dX8_takeFrom_18 0 rfl ?_
  refine g_aald o (by decide) e216 dX8_takeFrom_19 ?_
  refine g_invV o e218 (by decide) ml_X8_51 kb_X4_takeFrom kv_X4_takeFrom rfl (c_X4_takeFrom (cq X) (cD X) (cY X) (cB X) (d := d) (by omega) (rc_at e218).2 e220) rfl rfl (by simp [cat_i, cat_l, cat_rf]) ⟨by omega, by omega⟩ dX8_takeFrom_20 ?_
  refine g_nrm (k1 := x219.1 - n) (k2 := 101 * (x219.1 - n)) (n := x219.1) (by omega) (by omega) rfl ?_
  refine g_iinc (i := 2) (v := (16 : Int32)) (ls' := [(2, .int (16 : Int32)), (0, va_rf (some a0)), (1, va_rf v1)]) o dX8_takeFrom_23 0 rfl (by decide) (ltL hL (by decide)) (by simp [cat_rf]) ?_
  refine g_goto (tgt := 2) o dX8_takeFrom_26 (by decide) ?_
  refine g_iload_n o dX8_takeFrom_2 0 rfl ?_
  refine g_bipush (v := (16 : Int32)) o dX8_takeFrom_3 (by decide) ?_
  refine g_icmp_ge (tgt := 29) o dX8_takeFrom_5 (by decide) (fun _ => ?_) (fun q => absurd (by decide) q)
  refine g_wid (k1 := (x219.1) - n) (k2 := 101 * ((x219.1) - n)) (by omega) (by omega) ?_
  exact g_vret o hr hE dX8_takeFrom_29
theorem c_X8_takeFrom (l : Launch) (D : va_G) (Y : Nat → ClassId) (B : Nat) {d : Nat} {n : Nat} {K L : Nat → Nat} {fu : Nat} {M : Mm} {a0 : Nat} {v1 : (Option Nat)} {r : (Nat × (Nat → Nat) × (Nat → Nat) × Mm)} (hd : 5 ≤ d) (hk0 : K a0 = 8) (h : f_X8_takeFrom B fu n a0 v1 K L M = some r) : mC l D Y B d yX8_takeFrom cX8_takeFrom 3 (none) [va_rf (some a0), va_rf v1] n K L M r.1 r.2.1 r.2.2.1 r.2.2.2 none (r.1 - n) (101 * (r.1 - n)) := by
  obtain ⟨d, rfl⟩ : ∃ e, d = e + 1 := ⟨d - 1, by omega⟩
  refine mk_met (by decide) (by simp [lgs_r, lgs_i, lgs_l, lgs_n]) (fun X e1 e2 e3 e4 o hL hr hnm hz hc hs hE => ?_)
  subst e1 e2 e3 e4
  rw [show lv_args 0 [va_rf (some a0), va_rf v1] = [(0, va_rf (some a0)), (1, va_rf v1)] by simp [lva_r, lva_i, lva_l, lva_n]]
  exact w_X8_takeFrom_0 o hL hr hnm hz hk0 hc hs hE hd h
def f_X11_make (B fu n : Nat) (a0 : Nat) (v1 : Int32) (v2 : Int32) (v3 : Int32) (v4 : Int32) (K L : Nat → Nat) (M : Mm) : Option (Int32 × Nat × (Nat → Nat) × (Nat → Nat) × Mm) :=
  Option.bind (rc K (mm_R M (32 * 11 + 0) a0) 8) (fun a1 =>
  Option.bind (f_X8_placeAt K L M a1 v1) (fun x3 =>
  if x3 = none then
    Option.bind (f_X11_refuse K L a0 (-3 : Int32) M) (fun x6 =>
    some (x6.1, n, K, L, x6.2))
  else
    Option.bind (f_X11_within v2 (4 : Int32)) (fun x8 =>
    if x8 = 0 then
      Option.bind (f_X11_refuse K L a0 (-12 : Int32) M) (fun x11 =>
      some (x11.1, n, K, L, x11.2))
    else
      Option.bind (f_X11_isFactor v3) (fun x13 =>
      if x13 = 0 then
        Option.bind (f_X11_refuse K L a0 (-12 : Int32) M) (fun x16 =>
        some (x16.1, n, K, L, x16.2))
      else
        Option.bind (f_X11_within v4 (9999 : Int32)) (fun x18 =>
        if x18 = 0 then
          Option.bind (f_X11_refuse K L a0 (-12 : Int32) M) (fun x21 =>
          some (x21.1, n, K, L, x21.2))
        else
          Option.bind (rc K x3 4) (fun a23 =>
          Option.bind (f_X4_putSwitch B fu n a23 v2 v3 v4 K L M) (fun x25 =>
          Option.bind (mon n x25.1) (fun u27 =>
          some ((1 : Int32), x25.1, x25.2.1, x25.2.2.1, x25.2.2.2)))))))))
set_option maxHeartbeats 8000000 in
set_option maxRecDepth 20000 in
theorem w_X11_make_0 {X : Cx} {d : Nat} {n : Nat} {K L : Nat → Nat} {fu : Nat} {M : Mm} {a0 : Nat} {v1 : Int32} {v2 : Int32} {v3 : Int32} {v4 : Int32} {r : (Int32 × Nat × (Nat → Nat) × (Nat → Nat) × Mm)} (o : cOk X cX11_make RX11 (d + 1)) (hL : cL X = 6) (hr : (ch X).sig.returnType = some .int) (hnm : (ch X).name = yX11_make.name) (hz : (cs X).heap.size + 0 = cB X + n) (hk0 : K a0 = 11) (hc : (cR X).cells = (r.2.1 - n)) (hs : (cR X).slots = (101 * (r.2.1 - n))) (hE : cE X r.2.1 r.2.2.1 r.2.2.2.1 r.2.2.2.2 (some (.int r.1)) (r.2.1 - n) (101 * (r.2.1 - n))) (hd : 5 ≤ d + 1) (h : f_X11_make (cB X) fu n a0 v1 v2 v3 v4 K L M = some r) : gW X 0 0 n K L M 0 [(0, va_rf (some a0)), (1, .int v1), (2, .int v2), (3, .int v3), (4, .int v4)] [] := by
  unfold f_X11_make at h
  obtain ⟨a1, e2, h⟩ := ob h
  obtain ⟨x3, e4, h⟩ := ob h
  by_cases z5 : x3 = none
  · have h := (if_pos z5).symm.trans h
    obtain ⟨x6, e7, h⟩ := ob h
    cases h
    dsimp only at hc hs hE
    refine g_aload_n o dX11_make_0 0 rfl ?_
    refine g_getR o fl_X11_10 (rc_self hk0) (by decide) rfl dX11_make_1 ?_
    refine g_iload_n o dX11_make_4 1 rfl ?_
    refine g_invV o e2 (by decide) ml_X11_86 kb_X8_placeAt kv_X8_placeAt rfl (c_X8_placeAt (cq X) (cD X) (cY X) (cB X) (d := d) (by omega) (rc_at e2).2 e4) rfl rfl (by simp [cat_i, cat_l, cat_rf]) ⟨by omega, by omega⟩ dX11_make_5 ?_
    refine g_astore (i := 5) (ls' := [(5, va_rf x3), (0, va_rf (some a0)), (1, .int v1), (2, .int v2), (3, .int v3), (4, .int v4)]) o dX11_make_8 (ltL hL (by decide)) rfl ?_
    refine g_aload o dX11_make_10 0 rfl ?_
    refine g_ifnonnull (tgt := 22) o dX11_make_12 (by decide) (fun q => absurd z5 q) (fun _ => ?_)
    refine g_aload_n o dX11_make_15 1 rfl ?_
    refine g_bipush (v := (-3 : Int32)) o dX11_make_16 (by decide) ?_
    refine g_invV o (rc_self hk0) (by decide) ml_X11_46 kb_X11_refuse kv_X11_refuse rfl (c_X11_refuse (cq X) (cD X) (cY X) (cB X) (d := d) (by omega) (rc_at (rc_self hk0)).2 e7) rfl rfl (by simp [cat_i, cat_l, cat_rf]) ⟨by omega, by omega⟩ dX11_make_18 ?_
    refine g_wid (k1 := n - n) (k2 := 101 * (n - n)) (by omega) (by omega) ?_
    exact g_iret o hr hE dX11_make_21
  · have h := (if_neg z5).symm.trans h
    obtain ⟨x8, e9, h⟩ := ob h
    by_cases z10 : x8 = 0
    · have h := (if_pos z10).symm.trans h
      obtain ⟨x11, e12, h⟩ := ob h
      cases h
      dsimp only at hc hs hE
      refine g_aload_n o dX11_make_0 0 rfl ?_
      refine g_getR o fl_X11_10 (rc_self hk0) (by decide) rfl dX11_make_1 ?_
      refine g_iload_n o dX11_make_4 1 rfl ?_
      refine g_invV o e2 (by decide) ml_X11_86 kb_X8_placeAt kv_X8_placeAt rfl (c_X8_placeAt (cq X) (cD X) (cY X) (cB X) (d := d) (by omega) (rc_at e2).2 e4) rfl rfl (by simp [cat_i, cat_l, cat_rf]) ⟨by omega, by omega⟩ dX11_make_5 ?_
      refine g_astore (i := 5) (ls' := [(5, va_rf x3), (0, va_rf (some a0)), (1, .int v1), (2, .int v2), (3, .int v3), (4, .int v4)]) o dX11_make_8 (ltL hL (by decide)) rfl ?_
      refine g_aload o dX11_make_10 0 rfl ?_
      refine g_ifnonnull (tgt := 22) o dX11_make_12 (by decide) (fun _ => ?_) (fun q => absurd q z5)
      refine g_iload_n o dX11_make_22 3 rfl ?_
      refine g_iconst (v := (4 : Int32)) o dX11_make_23 (by decide) ?_
      refine g_invS o ml_X11_42 kb_X11_within ks_X11_within (c_X11_within (cq X) (cD X) (cY X) (cB X) (d := d) (by omega) e9) rfl rfl (by simp [cat_i, cat_l, cat_rf]) ⟨by omega, by omega⟩ dX11_make_24 ?_
      refine g_if_eq (tgt := 48) o dX11_make_27 (by decide) (fun _ => ?_) (fun q => absurd z10 q)
      refine g_aload_n o dX11_make_48 1 rfl ?_
      refine g_bipush (v := (-12 : Int32)) o dX11_make_49 (by decide) ?_
      refine g_invV o (rc_self hk0) (by decide) ml_X11_46 kb_X11_refuse kv_X11_refuse rfl (c_X11_refuse (cq X) (cD X) (cY X) (cB X) (d := d) (by omega) (rc_at (rc_self hk0)).2 e12) rfl rfl (by simp [cat_i, cat_l, cat_rf]) ⟨by omega, by omega⟩ dX11_make_51 ?_
      refine g_wid (k1 := n - n) (k2 := 101 * (n - n)) (by omega) (by omega) ?_
      exact g_iret o hr hE dX11_make_54
    · have h := (if_neg z10).symm.trans h
      obtain ⟨x13, e14, h⟩ := ob h
      by_cases z15 : x13 = 0
      · have h := (if_pos z15).symm.trans h
        obtain ⟨x16, e17, h⟩ := ob h
        cases h
        dsimp only at hc hs hE
        refine g_aload_n o dX11_make_0 0 rfl ?_
        refine g_getR o fl_X11_10 (rc_self hk0) (by decide) rfl dX11_make_1 ?_
        refine g_iload_n o dX11_make_4 1 rfl ?_
        refine g_invV o e2 (by decide) ml_X11_86 kb_X8_placeAt kv_X8_placeAt rfl (c_X8_placeAt (cq X) (cD X) (cY X) (cB X) (d := d) (by omega) (rc_at e2).2 e4) rfl rfl (by simp [cat_i, cat_l, cat_rf]) ⟨by omega, by omega⟩ dX11_make_5 ?_
        refine g_astore (i := 5) (ls' := [(5, va_rf x3), (0, va_rf (some a0)), (1, .int v1), (2, .int v2), (3, .int v3), (4, .int v4)]) o dX11_make_8 (ltL hL (by decide)) rfl ?_
        refine g_aload o dX11_make_10 0 rfl ?_
        refine g_ifnonnull (tgt := 22) o dX11_make_12 (by decide) (fun _ => ?_) (fun q => absurd q z5)
        refine g_iload_n o dX11_make_22 3 rfl ?_
        refine g_iconst (v := (4 : Int32)) o dX11_make_23 (by decide) ?_
        refine g_invS o ml_X11_42 kb_X11_within ks_X11_within (c_X11_within (cq X) (cD X) (cY X) (cB X) (d := d) (by omega) e9) rfl rfl (by simp [cat_i, cat_l, cat_rf]) ⟨by omega, by omega⟩ dX11_make_24 ?_
        refine g_if_eq (tgt := 48) o dX11_make_27 (by decide) (fun q => absurd q z10) (fun _ => ?_)
        refine g_iload_n o dX11_make_30 4 rfl ?_
        refine g_invS o ml_X11_90 kb_X11_isFactor ks_X11_isFactor (c_X11_isFactor (cq X) (cD X) (cY X) (cB X) (d := d) (by omega) e14) rfl rfl (by simp [cat_i, cat_l, cat_rf]) ⟨by omega, by omega⟩ dX11_make_31 ?_
        refine g_if_eq (tgt := 48) o dX11_make_34 (by decide) (fun _ => ?_) (fun q => absurd z15 q)
        refine g_aload_n o dX11_make_48 1 rfl ?_
        refine g_bipush (v := (-12 : Int32)) o dX11_make_49 (by decide) ?_
        refine g_invV o (rc_self hk0) (by decide) ml_X11_46 kb_X11_refuse kv_X11_refuse rfl (c_X11_refuse (cq X) (cD X) (cY X) (cB X) (d := d) (by omega) (rc_at (rc_self hk0)).2 e17) rfl rfl (by simp [cat_i, cat_l, cat_rf]) ⟨by omega, by omega⟩ dX11_make_51 ?_
        refine g_wid (k1 := n - n) (k2 := 101 * (n - n)) (by omega) (by omega) ?_
        exact g_iret o hr hE dX11_make_54
      · have h := (if_neg z15).symm.trans h
        obtain ⟨x18, e19, h⟩ := ob h
        by_cases z20 : x18 = 0
        · have h := (if_pos z20).symm.trans h
          obtain ⟨x21, e22, h⟩ := ob h
          cases h
          dsimp only at hc hs hE
          refine g_aload_n o dX11_make_0 0 rfl ?_
          refine g_getR o fl_X11_10 (rc_self hk0) (by decide) rfl dX11_make_1 ?_
          refine g_iload_n o dX11_make_4 1 rfl ?_
          refine g_invV o e2 (by decide) ml_X11_86 kb_X8_placeAt kv_X8_placeAt rfl (c_X8_placeAt (cq X) (cD X) (cY X) (cB X) (d := d) (by omega) (rc_at e2).2 e4) rfl rfl (by simp [cat_i, cat_l, cat_rf]) ⟨by omega, by omega⟩ dX11_make_5 ?_
          refine g_astore (i := 5) (ls' := [(5, va_rf x3), (0, va_rf (some a0)), (1, .int v1), (2, .int v2), (3, .int v3), (4, .int v4)]) o dX11_make_8 (ltL hL (by decide)) rfl ?_
          refine g_aload o dX11_make_10 0 rfl ?_
          refine g_ifnonnull (tgt := 22) o dX11_make_12 (by decide) (fun _ => ?_) (fun q => absurd q z5)
          refine g_iload_n o dX11_make_22 3 rfl ?_
          refine g_iconst (v := (4 : Int32)) o dX11_make_23 (by decide) ?_
          refine g_invS o ml_X11_42 kb_X11_within ks_X11_within (c_X11_within (cq X) (cD X) (cY X) (cB X) (d := d) (by omega) e9) rfl rfl (by simp [cat_i, cat_l, cat_rf]) ⟨by omega, by omega⟩ dX11_make_24 ?_
          refine g_if_eq (tgt := 48) o dX11_make_27 (by decide) (fun q => absurd q z10) (fun _ => ?_)
          refine g_iload_n o dX11_make_30 4 rfl ?_
          refine g_invS o ml_X11_90 kb_X11_isFactor ks_X11_isFactor (c_X11_isFactor (cq X) (cD X) (cY X) (cB X) (d := d) (by omega) e14) rfl rfl (by simp [cat_i, cat_l, cat_rf]) ⟨by omega, by omega⟩ dX11_make_31 ?_
          refine g_if_eq (tgt := 48) o dX11_make_34 (by decide) (fun q => absurd q z15) (fun _ => ?_)
          refine g_iload o dX11_make_37 5 rfl ?_
          refine g_sipush (v := (9999 : Int32)) o dX11_make_39 (by decide) ?_
          refine g_invS o ml_X11_42 kb_X11_within ks_X11_within (c_X11_within (cq X) (cD X) (cY X) (cB X) (d := d) (by omega) e19) rfl rfl (by simp [cat_i, cat_l, cat_rf]) ⟨by omega, by omega⟩ dX11_make_42 ?_
          refine g_if_ne (tgt := 55) o dX11_make_45 (by decide) (fun q => absurd z20 q) (fun _ => ?_)
          refine g_aload_n o dX11_make_48 1 rfl ?_
          refine g_bipush (v := (-12 : Int32)) o dX11_make_49 (by decide) ?_
          refine g_invV o (rc_self hk0) (by decide) ml_X11_46 kb_X11_refuse kv_X11_refuse rfl (c_X11_refuse (cq X) (cD X) (cY X) (cB X) (d := d) (by omega) (rc_at (rc_self hk0)).2 e22) rfl rfl (by simp [cat_i, cat_l, cat_rf]) ⟨by omega, by omega⟩ dX11_make_51 ?_
          refine g_wid (k1 := n - n) (k2 := 101 * (n - n)) (by omega) (by omega) ?_
          exact g_iret o hr hE dX11_make_54
        · have h := (if_neg z20).symm.trans h
          obtain ⟨a23, e24, h⟩ := ob h
          obtain ⟨x25, e26, h⟩ := ob h
          obtain ⟨u27, e28, h⟩ := ob h
          have e28 := mon_at e28
          cases h
          dsimp only at hc hs hE
          refine g_aload_n o dX11_make_0 0 rfl ?_
          refine g_getR o fl_X11_10 (rc_self hk0) (by decide) rfl dX11_make_1 ?_
          refine g_iload_n o dX11_make_4 1 rfl ?_
          refine g_invV o e2 (by decide) ml_X11_86 kb_X8_placeAt kv_X8_placeAt rfl (c_X8_placeAt (cq X) (cD X) (cY X) (cB X) (d := d) (by omega) (rc_at e2).2 e4) rfl rfl (by simp [cat_i, cat_l, cat_rf]) ⟨by omega, by omega⟩ dX11_make_5 ?_
          refine g_astore (i := 5) (ls' := [(5, va_rf x3), (0, va_rf (some a0)), (1, .int v1), (2, .int v2), (3, .int v3), (4, .int v4)]) o dX11_make_8 (ltL hL (by decide)) rfl ?_
          refine g_aload o dX11_make_10 0 rfl ?_
          refine g_ifnonnull (tgt := 22) o dX11_make_12 (by decide) (fun _ => ?_) (fun q => absurd q z5)
          refine g_iload_n o dX11_make_22 3 rfl ?_
          refine g_iconst (v := (4 : Int32)) o dX11_make_23 (by decide) ?_
          refine g_invS o ml_X11_42 kb_X11_within ks_X11_within (c_X11_within (cq X) (cD X) (cY X) (cB X) (d := d) (by omega) e9) rfl rfl (by simp [cat_i, cat_l, cat_rf]) ⟨by omega, by omega⟩ dX11_make_24 ?_
          refine g_if_eq (tgt := 48) o dX11_make_27 (by decide) (fun q => absurd q z10) (fun _ => ?_)
          refine g_iload_n o dX11_make_30 4 rfl ?_
          refine g_invS o ml_X11_90 kb_X11_isFactor ks_X11_isFactor (c_X11_isFactor (cq X) (cD X) (cY X) (cB X) (d := d) (by omega) e14) rfl rfl (by simp [cat_i, cat_l, cat_rf]) ⟨by omega, by omega⟩ dX11_make_31 ?_
          refine g_if_eq (tgt := 48) o dX11_make_34 (by decide) (fun q => absurd q z15) (fun _ => ?_)
          refine g_iload o dX11_make_37 5 rfl ?_
          refine g_sipush (v := (9999 : Int32)) o dX11_make_39 (by decide) ?_
          refine g_invS o ml_X11_42 kb_X11_within ks_X11_within (c_X11_within (cq X) (cD X) (cY X) (cB X) (d := d) (by omega) e19) rfl rfl (by simp [cat_i, cat_l, cat_rf]) ⟨by omega, by omega⟩ dX11_make_42 ?_
          refine g_if_ne (tgt := 55) o dX11_make_45 (by decide) (fun _ => ?_) (fun q => absurd q z20)
          refine g_aload o dX11_make_55 0 rfl ?_
          refine g_iload_n o dX11_make_57 3 rfl ?_
          refine g_iload_n o dX11_make_58 4 rfl ?_
          refine g_iload o dX11_make_59 5 rfl ?_
          refine g_invV o e24 (by decide) ml_X11_94 kb_X4_putSwitch kv_X4_putSwitch rfl (c_X4_putSwitch (cq X) (cD X) (cY X) (cB X) (d := d) (by omega) (rc_at e24).2 e26) rfl rfl (by simp [cat_i, cat_l, cat_rf]) ⟨by omega, by omega⟩ dX11_make_61 ?_
          refine g_nrm (k1 := x25.1 - n) (k2 := 101 * (x25.1 - n)) (n := x25.1) (by omega) (by omega) rfl ?_
          refine g_iconst (v := (1 : Int32)) o dX11_make_64 (by decide) ?_
          refine g_wid (k1 := (x25.1) - n) (k2 := 101 * ((x25.1) - n)) (by omega) (by omega) ?_
          exact g_iret o hr hE dX11_make_65
theorem c_X11_make (l : Launch) (D : va_G) (Y : Nat → ClassId) (B : Nat) {d : Nat} {n : Nat} {K L : Nat → Nat} {fu : Nat} {M : Mm} {a0 : Nat} {v1 : Int32} {v2 : Int32} {v3 : Int32} {v4 : Int32} {r : (Int32 × Nat × (Nat → Nat) × (Nat → Nat) × Mm)} (hd : 5 ≤ d) (hk0 : K a0 = 11) (h : f_X11_make B fu n a0 v1 v2 v3 v4 K L M = some r) : mC l D Y B d yX11_make cX11_make 6 (some .int) [va_rf (some a0), .int v1, .int v2, .int v3, .int v4] n K L M r.2.1 r.2.2.1 r.2.2.2.1 r.2.2.2.2 (some (.int r.1)) (r.2.1 - n) (101 * (r.2.1 - n)) := by
  obtain ⟨d, rfl⟩ : ∃ e, d = e + 1 := ⟨d - 1, by omega⟩
  refine mk_met (by decide) (by simp [lgs_r, lgs_i, lgs_l, lgs_n]) (fun X e1 e2 e3 e4 o hL hr hnm hz hc hs hE => ?_)
  subst e1 e2 e3 e4
  rw [show lv_args 0 [va_rf (some a0), .int v1, .int v2, .int v3, .int v4] = [(0, va_rf (some a0)), (1, .int v1), (2, .int v2), (3, .int v3), (4, .int v4)] by simp [lva_r, lva_i, lva_l, lva_n]]
  exact w_X11_make_0 o hL hr hnm hz hk0 hc hs hE hd h
def f_X11_image (B fu n : Nat) (a0 : Nat) (K L : Nat → Nat) (M : Mm) : Option (Int32 × Nat × (Nat → Nat) × (Nat → Nat) × Mm) :=
  Option.bind (rc K (mm_R M (32 * 11 + 1) a0) 8) (fun a1 =>
  Option.bind (f_X8_takeFrom B fu n a1 (mm_R M (32 * 11 + 0) a0) K L M) (fun x3 =>
  Option.bind (mon n x3.1) (fun u5 =>
  Option.bind (rc x3.2.1 (some a0) 11) (fun a7 =>
  bn (ms_I x3.2.2.2 (32 * 11 + 2) a7 (1 : Int32)) (fun M9 =>
  Option.bind (rc x3.2.1 (mm_R M9 (32 * 11 + 1) a7) 8) (fun a11 =>
  Option.bind (f_X8_switchCount x3.2.1 x3.2.2.1 fu M9 a11) (fun x13 =>
  some (x13, x3.1, x3.2.1, x3.2.2.1, M9))))))))
set_option maxHeartbeats 8000000 in
set_option maxRecDepth 20000 in
theorem w_X11_image_0 {X : Cx} {d : Nat} {n : Nat} {K L : Nat → Nat} {fu : Nat} {M : Mm} {a0 : Nat} {r : (Int32 × Nat × (Nat → Nat) × (Nat → Nat) × Mm)} (o : cOk X cX11_image RX11 (d + 1)) (hL : cL X = 1) (hr : (ch X).sig.returnType = some .int) (hnm : (ch X).name = yX11_image.name) (hz : (cs X).heap.size + 0 = cB X + n) (hk0 : K a0 = 11) (hc : (cR X).cells = (r.2.1 - n)) (hs : (cR X).slots = (101 * (r.2.1 - n))) (hE : cE X r.2.1 r.2.2.1 r.2.2.2.1 r.2.2.2.2 (some (.int r.1)) (r.2.1 - n) (101 * (r.2.1 - n))) (hd : 6 ≤ d + 1) (h : f_X11_image (cB X) fu n a0  K L M = some r) : gW X 0 0 n K L M 0 [(0, va_rf (some a0))] [] := by
  unfold f_X11_image at h
  obtain ⟨a1, e2, h⟩ := ob h
  obtain ⟨x3, e4, h⟩ := ob h
  obtain ⟨u5, e6, h⟩ := ob h
  have e6 := mon_at e6
  obtain ⟨a7, e8, h⟩ := ob h
  obtain ⟨M9, e10, h⟩ := bn_at h
  obtain ⟨a11, e12, h⟩ := ob h
  obtain ⟨x13, e14, h⟩ := ob h
  cases h
  dsimp only at hc hs hE
  refine g_aload_n o dX11_image_0 0 rfl ?_
  refine g_getR o fl_X11_16 (rc_self hk0) (by decide) rfl dX11_image_1 ?_
  refine g_aload_n o dX11_image_4 0 rfl ?_
  refine g_getR o fl_X11_10 (rc_self hk0) (by decide) rfl dX11_image_5 ?_
  refine g_invV o e2 (by decide) ml_X11_354 kb_X8_takeFrom kv_X8_takeFrom rfl (c_X8_takeFrom (cq X) (cD X) (cY X) (cB X) (d := d) (by omega) (rc_at e2).2 e4) rfl rfl (by simp [cat_i, cat_l, cat_rf]) ⟨by omega, by omega⟩ dX11_image_8 ?_
  refine g_nrm (k1 := x3.1 - n) (k2 := 101 * (x3.1 - n)) (n := x3.1) (by omega) (by omega) rfl ?_
  refine g_aload_n o dX11_image_11 0 rfl ?_
  refine g_iconst (v := (1 : Int32)) o dX11_image_12 (by decide) ?_
  refine g_putZ o (by omega) fl_X11_19 e8 (by decide) rfl rfl rfl (by decide) dX11_image_13 ?_
  refine g_mem e10 ?_
  refine g_aload_n o dX11_image_16 0 rfl ?_
  refine g_getR o fl_X11_16 e8 (by decide) rfl dX11_image_17 ?_
  refine g_invV o e12 (by decide) ml_X11_357 kb_X8_switchCount kv_X8_switchCount rfl (c_X8_switchCount (cq X) (cD X) (cY X) (cB X) (d := d) (by omega) (rc_at e12).2 e14) rfl rfl (by simp [cat_i, cat_l, cat_rf]) ⟨by omega, by omega⟩ dX11_image_20 ?_
  refine g_wid (k1 := (x3.1) - n) (k2 := 101 * ((x3.1) - n)) (by omega) (by omega) ?_
  exact g_iret o hr hE dX11_image_23
theorem c_X11_image (l : Launch) (D : va_G) (Y : Nat → ClassId) (B : Nat) {d : Nat} {n : Nat} {K L : Nat → Nat} {fu : Nat} {M : Mm} {a0 : Nat} {r : (Int32 × Nat × (Nat → Nat) × (Nat → Nat) × Mm)} (hd : 6 ≤ d) (hk0 : K a0 = 11) (h : f_X11_image B fu n a0  K L M = some r) : mC l D Y B d yX11_image cX11_image 1 (some .int) [va_rf (some a0)] n K L M r.2.1 r.2.2.1 r.2.2.2.1 r.2.2.2.2 (some (.int r.1)) (r.2.1 - n) (101 * (r.2.1 - n)) := by
  obtain ⟨d, rfl⟩ : ∃ e, d = e + 1 := ⟨d - 1, by omega⟩
  refine mk_met (by decide) (by simp [lgs_r, lgs_i, lgs_l, lgs_n]) (fun X e1 e2 e3 e4 o hL hr hnm hz hc hs hE => ?_)
  subst e1 e2 e3 e4
  rw [show lv_args 0 [va_rf (some a0)] = [(0, va_rf (some a0))] by simp [lva_r, lva_i, lva_l, lva_n]]
  exact w_X11_image_0 o hL hr hnm hz hk0 hc hs hE hd h
def f_X11_restore (B fu n : Nat) (a0 : Nat) (K L : Nat → Nat) (M : Mm) : Option (Int32 × Nat × (Nat → Nat) × (Nat → Nat) × Mm) :=
  if (mm_I M (32 * 11 + 2) a0) = 0 then
    Option.bind (f_X11_refuse K L a0 (-2 : Int32) M) (fun x2 =>
    some (x2.1, n, K, L, x2.2))
  else
    Option.bind (rc K (mm_R M (32 * 11 + 0) a0) 8) (fun a4 =>
    Option.bind (f_X8_takeFrom B fu n a4 (mm_R M (32 * 11 + 1) a0) K L M) (fun x6 =>
    Option.bind (mon n x6.1) (fun u8 =>
    Option.bind (rc x6.2.1 (some a0) 11) (fun a10 =>
    Option.bind (rc x6.2.1 (mm_R x6.2.2.2 (32 * 11 + 0) a10) 8) (fun a12 =>
    Option.bind (f_X8_switchCount x6.2.1 x6.2.2.1 fu x6.2.2.2 a12) (fun x14 =>
    some (x14, x6.1, x6.2.1, x6.2.2.1, x6.2.2.2)))))))
set_option maxHeartbeats 8000000 in
set_option maxRecDepth 20000 in
theorem w_X11_restore_0 {X : Cx} {d : Nat} {n : Nat} {K L : Nat → Nat} {fu : Nat} {M : Mm} {a0 : Nat} {r : (Int32 × Nat × (Nat → Nat) × (Nat → Nat) × Mm)} (o : cOk X cX11_restore RX11 (d + 1)) (hL : cL X = 1) (hr : (ch X).sig.returnType = some .int) (hnm : (ch X).name = yX11_restore.name) (hz : (cs X).heap.size + 0 = cB X + n) (hk0 : K a0 = 11) (hc : (cR X).cells = (r.2.1 - n)) (hs : (cR X).slots = (101 * (r.2.1 - n))) (hE : cE X r.2.1 r.2.2.1 r.2.2.2.1 r.2.2.2.2 (some (.int r.1)) (r.2.1 - n) (101 * (r.2.1 - n))) (hd : 6 ≤ d + 1) (h : f_X11_restore (cB X) fu n a0  K L M = some r) : gW X 0 0 n K L M 0 [(0, va_rf (some a0))] [] := by
  unfold f_X11_restore at h
  by_cases z1 : (mm_I M (32 * 11 + 2) a0) = 0
  · have h := (if_pos z1).symm.trans h
    obtain ⟨x2, e3, h⟩ := ob h
    cases h
    dsimp only at hc hs hE
    refine g_aload_n o dX11_restore_0 0 rfl ?_
    refine g_getI o fl_X11_19 (rc_self hk0) (by decide) rfl dX11_restore_1 ?_
    refine g_if_ne (tgt := 14) o dX11_restore_4 (by decide) (fun q => absurd z1 q) (fun _ => ?_)
    refine g_aload_n o dX11_restore_7 0 rfl ?_
    refine g_bipush (v := (-2 : Int32)) o dX11_restore_8 (by decide) ?_
    refine g_invV o (rc_self hk0) (by decide) ml_X11_46 kb_X11_refuse kv_X11_refuse rfl (c_X11_refuse (cq X) (cD X) (cY X) (cB X) (d := d) (by omega) (rc_at (rc_self hk0)).2 e3) rfl rfl (by simp [cat_i, cat_l, cat_rf]) ⟨by omega, by omega⟩ dX11_restore_10 ?_
    refine g_wid (k1 := n - n) (k2 := 101 * (n - n)) (by omega) (by omega) ?_
    exact g_iret o hr hE dX11_restore_13
  · have h := (if_neg z1).symm.trans h
    obtain ⟨a4, e5, h⟩ := ob h
    obtain ⟨x6, e7, h⟩ := ob h
    obtain ⟨u8, e9, h⟩ := ob h
    have e9 := mon_at e9
    obtain ⟨a10, e11, h⟩ := ob h
    obtain ⟨a12, e13, h⟩ := ob h
    obtain ⟨x14, e15, h⟩ := ob h
    cases h
    dsimp only at hc hs hE
    refine g_aload_n o dX11_restore_0 0 rfl ?_
    refine g_getI o fl_X11_19 (rc_self hk0) (by decide) rfl dX11_restore_1 ?_
    refine g_if_ne (tgt := 14) o dX11_restore_4 (by decide) (fun _ => ?_) (fun q => absurd q z1)
    refine g_aload_n o dX11_restore_14 0 rfl ?_
    refine g_getR o fl_X11_10 (rc_self hk0) (by decide) rfl dX11_restore_15 ?_
    refine g_aload_n o dX11_restore_18 0 rfl ?_
    refine g_getR o fl_X11_16 (rc_self hk0) (by decide) rfl dX11_restore_19 ?_
    refine g_invV o e5 (by decide) ml_X11_354 kb_X8_takeFrom kv_X8_takeFrom rfl (c_X8_takeFrom (cq X) (cD X) (cY X) (cB X) (d := d) (by omega) (rc_at e5).2 e7) rfl rfl (by simp [cat_i, cat_l, cat_rf]) ⟨by omega, by omega⟩ dX11_restore_22 ?_
    refine g_nrm (k1 := x6.1 - n) (k2 := 101 * (x6.1 - n)) (n := x6.1) (by omega) (by omega) rfl ?_
    refine g_aload_n o dX11_restore_25 0 rfl ?_
    refine g_getR o fl_X11_10 e11 (by decide) rfl dX11_restore_26 ?_
    refine g_invV o e13 (by decide) ml_X11_357 kb_X8_switchCount kv_X8_switchCount rfl (c_X8_switchCount (cq X) (cD X) (cY X) (cB X) (d := d) (by omega) (rc_at e13).2 e15) rfl rfl (by simp [cat_i, cat_l, cat_rf]) ⟨by omega, by omega⟩ dX11_restore_29 ?_
    refine g_wid (k1 := (x6.1) - n) (k2 := 101 * ((x6.1) - n)) (by omega) (by omega) ?_
    exact g_iret o hr hE dX11_restore_32
theorem c_X11_restore (l : Launch) (D : va_G) (Y : Nat → ClassId) (B : Nat) {d : Nat} {n : Nat} {K L : Nat → Nat} {fu : Nat} {M : Mm} {a0 : Nat} {r : (Int32 × Nat × (Nat → Nat) × (Nat → Nat) × Mm)} (hd : 6 ≤ d) (hk0 : K a0 = 11) (h : f_X11_restore B fu n a0  K L M = some r) : mC l D Y B d yX11_restore cX11_restore 1 (some .int) [va_rf (some a0)] n K L M r.2.1 r.2.2.1 r.2.2.2.1 r.2.2.2.2 (some (.int r.1)) (r.2.1 - n) (101 * (r.2.1 - n)) := by
  obtain ⟨d, rfl⟩ : ∃ e, d = e + 1 := ⟨d - 1, by omega⟩
  refine mk_met (by decide) (by simp [lgs_r, lgs_i, lgs_l, lgs_n]) (fun X e1 e2 e3 e4 o hL hr hnm hz hc hs hE => ?_)
  subst e1 e2 e3 e4
  rw [show lv_args 0 [va_rf (some a0)] = [(0, va_rf (some a0))] by simp [lva_r, lva_i, lva_l, lva_n]]
  exact w_X11_restore_0 o hL hr hnm hz hk0 hc hs hE hd h
