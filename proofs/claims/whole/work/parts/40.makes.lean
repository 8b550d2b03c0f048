/-! the methods that make cells -/
def mon (a b : Nat) : Option Unit := if a ≤ b then some () else none
theorem mon_at {a b : Nat} {u : Unit} (h : mon a b = some u) : a ≤ b := by
  unfold mon at h
  split at h
  · assumption
  · cases h
theorem g_shp {X : Cx} {k1 k2 n pc : Nat} {K L K' L' : Nat → Nat} {M M' : Mm} {ls : List (Nat × Value)} {st : List Value} (h1 : K' = K) (h2 : L' = L) (h3 : M' = M) (k : gW X k1 k2 n K' L' M' pc ls st) : gW X k1 k2 n K L M pc ls st := by
  subst h1 h2 h3
  exact k
theorem g_nrm {X : Cx} {k1 k2 n k1' k2' n' pc : Nat} {K L : Nat → Nat} {M : Mm} {ls : List (Nat × Value)} {st : List Value} (h1 : k1' = k1) (h2 : k2' = k2) (h3 : n' = n) (k : gW X k1 k2 n K L M pc ls st) : gW X k1' k2' n' K L M pc ls st := by
  subst h1 h2 h3
  exact k
theorem g_wid {X : Cx} {k1 k2 k1' k2' n pc : Nat} {K L : Nat → Nat} {M : Mm} {ls : List (Nat × Value)} {st : List Value} (h1 : k1' ≤ k1) (h2 : k2' ≤ k2) (k : gW X k1 k2 n K L M pc ls st) : gW X k1' k2' n K L M pc ls st := fun H locs ar a1 a2 a3 => W.widen h1 h2 (k H locs ar a1 a2 a3)
def f_X1_init (B n : Nat) (a0 : Nat) (K L : Nat → Nat) (M : Mm) : Option ((Nat → Nat) × (Nat → Nat) × Mm) :=
  bn (va_up K (B + n) 13) (fun K1 =>
  bn (va_up L (B + n) 16) (fun L3 =>
  bn (mz M (B + n)) (fun M5 =>
  Option.bind (rc K1 (some a0) 1) (fun a7 =>
  bn (ms_R M5 (32 * 1 + 7) a7 (some (B + n))) (fun M9 =>
  some (K1, L3, M9))))))
set_option maxHeartbeats 8000000 in
set_option maxRecDepth 20000 in
theorem w_X1_init_0 {X : Cx} {d : Nat} {n : Nat} {K L : Nat → Nat} {M : Mm} {a0 : Nat} {r : ((Nat → Nat) × (Nat → Nat) × Mm)} (o : cOk X cX1_init RX1 d) (hL : cL X = 1) (hr : (ch X).sig.returnType = none) (hnm : (ch X).name = yX1_init.name) (hz : (cs X).heap.size + 0 = cB X + n) (hk0 : K a0 = 1) (hc : (cR X).cells = 1) (hs : (cR X).slots = 16) (hE : cE X (n + 1) r.1 r.2.1 r.2.2 none 1 16) (hd : 1 ≤ d) (h : f_X1_init (cB X)  n a0  K L M = some r) : gW X 0 0 n K L M 0 [(0, va_rf (some a0))] [] := by
  unfold f_X1_init at h
  obtain ⟨K1, e2, h⟩ := bn_at h
  obtain ⟨L3, e4, h⟩ := bn_at h
  obtain ⟨M5, e6, h⟩ := bn_at h
  obtain ⟨a7, e8, h⟩ := ob h
  obtain ⟨M9, e10, h⟩ := bn_at h
  cases h
  dsimp only at hc hs hE
  refine g_aload_n o dX1_init_0 0 rfl ?_
  refine g_objInit o (by omega) ml_X1_3 (by simp [cat_i, cat_l, cat_rf]) dX1_init_1 ?_
  refine g_aload_n o dX1_init_4 0 rfl ?_
  refine g_bipush (v := (16 : Int32)) o dX1_init_5 (by decide) ?_
  refine g_newI (z := 16) o hz (by decide) (by omega) (by omega) dX1_init_7 ?_
  refine g_shp e2 e4 e6 ?_
  refine g_nrm (k1 := 1) (k2 := 16) (n := n + 1) rfl rfl rfl ?_
  refine g_putFR o (by omega) hnm fl_X1_9 e8 (by decide) rfl rfl rfl rfl dX1_init_9 ?_
  refine g_mem e10 ?_
  exact g_vret o hr hE dX1_init_12
theorem c_X1_init (l : Launch) (D : va_G) (Y : Nat → ClassId) (B : Nat) {d : Nat} {n : Nat} {K L : Nat → Nat} {M : Mm} {a0 : Nat} {r : ((Nat → Nat) × (Nat → Nat) × Mm)} (hd : 1 ≤ d) (hk0 : K a0 = 1) (h : f_X1_init B  n a0  K L M = some r) : mC l D Y B d yX1_init cX1_init 1 (none) [va_rf (some a0)] n K L M (n + 1) r.1 r.2.1 r.2.2 none 1 16 := by
  refine mk_met (by decide) (by simp [lgs_r, lgs_i, lgs_l, lgs_n]) (fun X e1 e2 e3 e4 o hL hr hnm hz hc hs hE => ?_)
  subst e1 e2 e3 e4
  rw [show lv_args 0 [va_rf (some a0)] = [(0, va_rf (some a0))] by simp [lva_r, lva_i, lva_l, lva_n]]
  exact w_X1_init_0 o hL hr hnm hz hk0 hc hs hE hd h
def f_X2_init (B n : Nat) (a0 : Nat) (K L : Nat → Nat) (M : Mm) : Option ((Nat → Nat) × (Nat → Nat) × Mm) :=
  bn (va_up K (B + n) 13) (fun K1 =>
  bn (va_up L (B + n) 240) (fun L3 =>
  bn (mz M (B + n)) (fun M5 =>
  Option.bind (rc K1 (some a0) 2) (fun a7 =>
  bn (ms_R M5 (32 * 2 + 2) a7 (some (B + n))) (fun M9 =>
  bn (va_up K1 (B + (n + 1)) 13) (fun K11 =>
  bn (va_up L3 (B + (n + 1)) 240) (fun L13 =>
  bn (mz M9 (B + (n + 1))) (fun M15 =>
  Option.bind (rc K11 (some a0) 2) (fun a17 =>
  bn (ms_R M15 (32 * 2 + 3) a17 (some (B + (n + 1)))) (fun M19 =>
  bn (va_up K11 (B + (n + 2)) 13) (fun K21 =>
  bn (va_up L13 (B + (n + 2)) 240) (fun L23 =>
  bn (mz M19 (B + (n + 2))) (fun M25 =>
  Option.bind (rc K21 (some a0) 2) (fun a27 =>
  bn (ms_R M25 (32 * 2 + 4) a27 (some (B + (n + 2)))) (fun M29 =>
  some (K21, L23, M29))))))))))))))))
set_option maxHeartbeats 8000000 in
set_option maxRecDepth 20000 in
theorem w_X2_init_0 {X : Cx} {d : Nat} {n : Nat} {K L : Nat → Nat} {M : Mm} {a0 : Nat} {r : ((Nat → Nat) × (Nat → Nat) × Mm)} (o : cOk X cX2_init RX2 d) (hL : cL X = 1) (hr : (ch X).sig.returnType = none) (hnm : (ch X).name = yX2_init.name) (hz : (cs X).heap.size + 0 = cB X + n) (hk0 : K a0 = 2) (hc : (cR X).cells = 3) (hs : (cR X).slots = 720) (hE : cE X (n + 3) r.1 r.2.1 r.2.2 none 3 720) (hd : 1 ≤ d) (h : f_X2_init (cB X)  n a0  K L M = some r) : gW X 0 0 n K L M 0 [(0, va_rf (some a0))] [] := by
  unfold f_X2_init at h
  obtain ⟨K1, e2, h⟩ := bn_at h
  obtain ⟨L3, e4, h⟩ := bn_at h
  obtain ⟨M5, e6, h⟩ := bn_at h
  obtain ⟨a7, e8, h⟩ := ob h
  obtain ⟨M9, e10, h⟩ := bn_at h
  obtain ⟨K11, e12, h⟩ := bn_at h
  obtain ⟨L13, e14, h⟩ := bn_at h
  obtain ⟨M15, e16, h⟩ := bn_at h
  obtain ⟨a17, e18, h⟩ := ob h
  obtain ⟨M19, e20, h⟩ := bn_at h
  obtain ⟨K21, e22, h⟩ := bn_at h
  obtain ⟨L23, e24, h⟩ := bn_at h
  obtain ⟨M25, e26, h⟩ := bn_at h
  obtain ⟨a27, e28, h⟩ := ob h
  obtain ⟨M29, e30, h⟩ := bn_at h
  cases h
  dsimp only at hc hs hE
  refine g_aload_n o dX2_init_0 0 rfl ?_
  refine g_objInit o (by omega) ml_X2_3 (by simp [cat_i, cat_l, cat_rf]) dX2_init_1 ?_
  refine g_aload_n o dX2_init_4 0 rfl ?_
  refine g_sipush (v := (240 : Int32)) o dX2_init_5 (by decide) ?_
  refine g_newI (z := 240) o hz (by decide) (by omega) (by omega) dX2_init_8 ?_
  refine g_shp e2 e4 e6 ?_
  refine g_nrm (k1 := 1) (k2 := 240) (n := n + 1) rfl rfl rfl ?_
  refine g_putFR o (by omega) hnm fl_X2_9 e8 (by decide) rfl rfl rfl rfl dX2_init_10 ?_
  refine g_mem e10 ?_
  refine g_aload_n o dX2_init_13 0 rfl ?_
  refine g_sipush (v := (240 : Int32)) o dX2_init_14 (by decide) ?_
  refine g_newI (z := 240) o (by omega) (by decide) (by omega) (by omega) dX2_init_17 ?_
  refine g_shp e12 e14 e16 ?_
  refine g_nrm (k1 := 2) (k2 := 480) (n := n + 2) rfl rfl rfl ?_
  refine g_putFR o (by omega) hnm fl_X2_15 e18 (by decide) rfl rfl rfl rfl dX2_init_19 ?_
  refine g_mem e20 ?_
  refine g_aload_n o dX2_init_22 0 rfl ?_
  refine g_sipush (v := (240 : Int32)) o dX2_init_23 (by decide) ?_
  refine g_newI (z := 240) o (by omega) (by decide) (by omega) (by omega) dX2_init_26 ?_
  refine g_shp e22 e24 e26 ?_
  refine g_nrm (k1 := 3) (k2 := 720) (n := n + 3) rfl rfl rfl ?_
  refine g_putFR o (by omega) hnm fl_X2_18 e28 (by decide) rfl rfl rfl rfl dX2_init_28 ?_
  refine g_mem e30 ?_
  exact g_vret o hr hE dX2_init_31
theorem c_X2_init (l : Launch) (D : va_G) (Y : Nat → ClassId) (B : Nat) {d : Nat} {n : Nat} {K L : Nat → Nat} {M : Mm} {a0 : Nat} {r : ((Nat → Nat) × (Nat → Nat) × Mm)} (hd : 1 ≤ d) (hk0 : K a0 = 2) (h : f_X2_init B  n a0  K L M = some r) : mC l D Y B d yX2_init cX2_init 1 (none) [va_rf (some a0)] n K L M (n + 3) r.1 r.2.1 r.2.2 none 3 720 := by
  refine mk_met (by decide) (by simp [lgs_r, lgs_i, lgs_l, lgs_n]) (fun X e1 e2 e3 e4 o hL hr hnm hz hc hs hE => ?_)
  subst e1 e2 e3 e4
  rw [show lv_args 0 [va_rf (some a0)] = [(0, va_rf (some a0))] by simp [lva_r, lva_i, lva_l, lva_n]]
  exact w_X2_init_0 o hL hr hnm hz hk0 hc hs hE hd h
def f_X3_init (B n : Nat) (a0 : Nat) (K L : Nat → Nat) (M : Mm) : Option ((Nat → Nat) × (Nat → Nat) × Mm) :=
  bn (va_up K (B + n) 13) (fun K1 =>
  bn (va_up L (B + n) 20) (fun L3 =>
  bn (mz M (B + n)) (fun M5 =>
  Option.bind (rc K1 (some a0) 3) (fun a7 =>
  bn (ms_R M5 (32 * 3 + 0) a7 (some (B + n))) (fun M9 =>
  some (K1, L3, M9))))))
set_option maxHeartbeats 8000000 in
set_option maxRecDepth 20000 in
theorem w_X3_init_0 {X : Cx} {d : Nat} {n : Nat} {K L : Nat → Nat} {M : Mm} {a0 : Nat} {r : ((Nat → Nat) × (Nat → Nat) × Mm)} (o : cOk X cX3_init RX3 d) (hL : cL X = 1) (hr : (ch X).sig.returnType = none) (hnm : (ch X).name = yX3_init.name) (hz : (cs X).heap.size + 0 = cB X + n) (hk0 : K a0 = 3) (hc : (cR X).cells = 1) (hs : (cR X).slots = 20) (hE : cE X (n + 1) r.1 r.2.1 r.2.2 none 1 20) (hd : 1 ≤ d) (h : f_X3_init (cB X)  n a0  K L M = some r) : gW X 0 0 n K L M 0 [(0, va_rf (some a0))] [] := by
  unfold f_X3_init at h
  obtain ⟨K1, e2, h⟩ := bn_at h
  obtain ⟨L3, e4, h⟩ := bn_at h
  obtain ⟨M5, e6, h⟩ := bn_at h
  obtain ⟨a7, e8, h⟩ := ob h
  obtain ⟨M9, e10, h⟩ := bn_at h
  cases h
  dsimp only at hc hs hE
  refine g_aload_n o dX3_init_0 0 rfl ?_
  refine g_objInit o (by omega) ml_X3_3 (by simp [cat_i, cat_l, cat_rf]) dX3_init_1 ?_
  refine g_aload_n o dX3_init_4 0 rfl ?_
  refine g_bipush (v := (20 : Int32)) o dX3_init_5 (by decide) ?_
  refine g_newI (z := 20) o hz (by decide) (by omega) (by omega) dX3_init_7 ?_
  refine g_shp e2 e4 e6 ?_
  refine g_nrm (k1 := 1) (k2 := 20) (n := n + 1) rfl rfl rfl ?_
  refine g_putFR o (by omega) hnm fl_X3_9 e8 (by decide) rfl rfl rfl rfl dX3_init_9 ?_
  refine g_mem e10 ?_
  exact g_vret o hr hE dX3_init_12
theorem c_X3_init (l : Launch) (D : va_G) (Y : Nat → ClassId) (B : Nat) {d : Nat} {n : Nat} {K L : Nat → Nat} {M : Mm} {a0 : Nat} {r : ((Nat → Nat) × (Nat → Nat) × Mm)} (hd : 1 ≤ d) (hk0 : K a0 = 3) (h : f_X3_init B  n a0  K L M = some r) : mC l D Y B d yX3_init cX3_init 1 (none) [va_rf (some a0)] n K L M (n + 1) r.1 r.2.1 r.2.2 none 1 20 := by
  refine mk_met (by decide) (by simp [lgs_r, lgs_i, lgs_l, lgs_n]) (fun X e1 e2 e3 e4 o hL hr hnm hz hc hs hE => ?_)
  subst e1 e2 e3 e4
  rw [show lv_args 0 [va_rf (some a0)] = [(0, va_rf (some a0))] by simp [lva_r, lva_i, lva_l, lva_n]]
  exact w_X3_init_0 o hL hr hnm hz hk0 hc hs hE hd h
def f_X5_init (B n : Nat) (a0 : Nat) (K L : Nat → Nat) (M : Mm) : Option ((Nat → Nat) × (Nat → Nat) × Mm) :=
  bn (va_up K (B + n) 13) (fun K1 =>
  bn (va_up L (B + n) 16) (fun L3 =>
  bn (mz M (B + n)) (fun M5 =>
  Option.bind (rc K1 (some a0) 5) (fun a7 =>
  bn (ms_R M5 (32 * 5 + 0) a7 (some (B + n))) (fun M9 =>
  bn (va_up K1 (B + (n + 1)) 13) (fun K11 =>
  bn (va_up L3 (B + (n + 1)) 16) (fun L13 =>
  bn (mz M9 (B + (n + 1))) (fun M15 =>
  Option.bind (rc K11 (some a0) 5) (fun a17 =>
  bn (ms_R M15 (32 * 5 + 1) a17 (some (B + (n + 1)))) (fun M19 =>
  bn (va_up K11 (B + (n + 2)) 13) (fun K21 =>
  bn (va_up L13 (B + (n + 2)) 16) (fun L23 =>
  bn (mz M19 (B + (n + 2))) (fun M25 =>
  Option.bind (rc K21 (some a0) 5) (fun a27 =>
  bn (ms_R M25 (32 * 5 + 2) a27 (some (B + (n + 2)))) (fun M29 =>
  some (K21, L23, M29))))))))))))))))
set_option maxHeartbeats 8000000 in
set_option maxRecDepth 20000 in
theorem w_X5_init_0 {X : Cx} {d : Nat} {n : Nat} {K L : Nat → Nat} {M : Mm} {a0 : Nat} {r : ((Nat → Nat) × (Nat → Nat) × Mm)} (o : cOk X cX5_init RX5 d) (hL : cL X = 1) (hr : (ch X).sig.returnType = none) (hnm : (ch X).name = yX5_init.name) (hz : (cs X).heap.size + 0 = cB X + n) (hk0 : K a0 = 5) (hc : (cR X).cells = 3) (hs : (cR X).slots = 48) (hE : cE X (n + 3) r.1 r.2.1 r.2.2 none 3 48) (hd : 1 ≤ d) (h : f_X5_init (cB X)  n a0  K L M = some r) : gW X 0 0 n K L M 0 [(0, va_rf (some a0))] [] := by
  unfold f_X5_init at h
  obtain ⟨K1, e2, h⟩ := bn_at h
  obtain ⟨L3, e4, h⟩ := bn_at h
  obtain ⟨M5, e6, h⟩ := bn_at h
  obtain ⟨a7, e8, h⟩ := ob h
  obtain ⟨M9, e10, h⟩ := bn_at h
  obtain ⟨K11, e12, h⟩ := bn_at h
  obtain ⟨L13, e14, h⟩ := bn_at h
  obtain ⟨M15, e16, h⟩ := bn_at h
  obtain ⟨a17, e18, h⟩ := ob h
  obtain ⟨M19, e20, h⟩ := bn_at h
  obtain ⟨K21, e22, h⟩ := bn_at h
  obtain ⟨L23, e24, h⟩ := bn_at h
  obtain ⟨M25, e26, h⟩ := bn_at h
  obtain ⟨a27, e28, h⟩ := ob h
  obtain ⟨M29, e30, h⟩ := bn_at h
  cases h
  dsimp only at hc hs hE
  refine g_aload_n o dX5_init_0 0 rfl ?_
  refine g_objInit o (by omega) ml_X5_3 (by simp [cat_i, cat_l, cat_rf]) dX5_init_1 ?_
  refine g_aload_n o dX5_init_4 0 rfl ?_
  refine g_bipush (v := (16 : Int32)) o dX5_init_5 (by decide) ?_
  refine g_newI (z := 16) o hz (by decide) (by omega) (by omega) dX5_init_7 ?_
  refine g_shp e2 e4 e6 ?_
  refine g_nrm (k1 := 1) (k2 := 16) (n := n + 1) rfl rfl rfl ?_
  refine g_putFR o (by omega) hnm fl_X5_9 e8 (by decide) rfl rfl rfl rfl dX5_init_9 ?_
  refine g_mem e10 ?_
  refine g_aload_n o dX5_init_12 0 rfl ?_
  refine g_bipush (v := (16 : Int32)) o dX5_init_13 (by decide) ?_
  refine g_newI (z := 16) o (by omega) (by decide) (by omega) (by omega) dX5_init_15 ?_
  refine g_shp e12 e14 e16 ?_
  refine g_nrm (k1 := 2) (k2 := 32) (n := n + 2) rfl rfl rfl ?_
  refine g_putFR o (by omega) hnm fl_X5_15 e18 (by decide) rfl rfl rfl rfl dX5_init_17 ?_
  refine g_mem e20 ?_
  refine g_aload_n o dX5_init_20 0 rfl ?_
  refine g_bipush (v := (16 : Int32)) o dX5_init_21 (by decide) ?_
  refine g_newI (z := 16) o (by omega) (by decide) (by omega) (by omega) dX5_init_23 ?_
  refine g_shp e22 e24 e26 ?_
  refine g_nrm (k1 := 3) (k2 := 48) (n := n + 3) rfl rfl rfl ?_
  refine g_putFR o (by omega) hnm fl_X5_18 e28 (by decide) rfl rfl rfl rfl dX5_init_25 ?_
  refine g_mem e30 ?_
  exact g_vret o hr hE dX5_init_28
theorem c_X5_init (l : Launch) (D : va_G) (Y : Nat → ClassId) (B : Nat) {d : Nat} {n : Nat} {K L : Nat → Nat} {M : Mm} {a0 : Nat} {r : ((Nat → Nat) × (Nat → Nat) × Mm)} (hd : 1 ≤ d) (hk0 : K a0 = 5) (h : f_X5_init B  n a0  K L M = some r) : mC l D Y B d yX5_init cX5_init 1 (none) [va_rf (some a0)] n K L M (n + 3) r.1 r.2.1 r.2.2 none 3 48 := by
  refine mk_met (by decide) (by simp [lgs_r, lgs_i, lgs_l, lgs_n]) (fun X e1 e2 e3 e4 o hL hr hnm hz hc hs hE => ?_)
  subst e1 e2 e3 e4
  rw [show lv_args 0 [va_rf (some a0)] = [(0, va_rf (some a0))] by simp [lva_r, lva_i, lva_l, lva_n]]
  exact w_X5_init_0 o hL hr hnm hz hk0 hc hs hE hd h
def f_X6_init (B n : Nat) (a0 : Nat) (K L : Nat → Nat) (M : Mm) : Option ((Nat → Nat) × (Nat → Nat) × Mm) :=
  bn (va_up K (B + n) 13) (fun K1 =>
  bn (va_up L (B + n) 6) (fun L3 =>
  bn (mz M (B + n)) (fun M5 =>
  Option.bind (rc K1 (some a0) 6) (fun a7 =>
  bn (ms_R M5 (32 * 6 + 1) a7 (some (B + n))) (fun M9 =>
  bn (va_up K1 (B + (n + 1)) 13) (fun K11 =>
  bn (va_up L3 (B + (n + 1)) 6) (fun L13 =>
  bn (mz M9 (B + (n + 1))) (fun M15 =>
  Option.bind (rc K11 (some a0) 6) (fun a17 =>
  bn (ms_R M15 (32 * 6 + 2) a17 (some (B + (n + 1)))) (fun M19 =>
  bn (va_up K11 (B + (n + 2)) 13) (fun K21 =>
  bn (va_up L13 (B + (n + 2)) 6) (fun L23 =>
  bn (mz M19 (B + (n + 2))) (fun M25 =>
  Option.bind (rc K21 (some a0) 6) (fun a27 =>
  bn (ms_R M25 (32 * 6 + 3) a27 (some (B + (n + 2)))) (fun M29 =>
  bn (va_up K21 (B + (n + 3)) 13) (fun K31 =>
  bn (va_up L23 (B + (n + 3)) 6) (fun L33 =>
  bn (mz M29 (B + (n + 3))) (fun M35 =>
  Option.bind (rc K31 (some a0) 6) (fun a37 =>
  bn (ms_R M35 (32 * 6 + 4) a37 (some (B + (n + 3)))) (fun M39 =>
  some (K31, L33, M39)))))))))))))))))))))
set_option maxHeartbeats 8000000 in
set_option maxRecDepth 20000 in
theorem w_X6_init_0 {X : Cx} {d : Nat} {n : Nat} {K L : Nat → Nat} {M : Mm} {a0 : Nat} {r : ((Nat → Nat) × (Nat → Nat) × Mm)} (o : cOk X cX6_init RX6 d) (hL : cL X = 1) (hr : (ch X).sig.returnType = none) (hnm : (ch X).name = yX6_init.name) (hz : (cs X).heap.size + 0 = cB X + n) (hk0 : K a0 = 6) (hc : (cR X).cells = 4) (hs : (cR X).slots = 24) (hE : cE X (n + 4) r.1 r.2.1 r.2.2 none 4 24) (hd : 1 ≤ d) (h : f_X6_init (cB X)  n a0  K L M = some r) : gW X 0 0 n K L M 0 [(0, va_rf (some a0))] [] := by
  unfold f_X6_init at h
  obtain ⟨K1, e2, h⟩ := bn_at h
  obtain ⟨L3, e4, h⟩ := bn_at h
  obtain ⟨M5, e6, h⟩ := bn_at h
  obtain ⟨a7, e8, h⟩ := ob h
  obtain ⟨M9, e10, h⟩ := bn_at h
  obtain ⟨K11, e12, h⟩ := bn_at h
  obtain ⟨L13, e14, h⟩ := bn_at h
  obtain ⟨M15, e16, h⟩ := bn_at h
  obtain ⟨a17, e18, h⟩ := ob h
  obtain ⟨M19, e20, h⟩ := bn_at h
  obtain ⟨K21, e22, h⟩ := bn_at h
  obtain ⟨L23, e24, h⟩ := bn_at h
  obtain ⟨M25, e26, h⟩ := bn_at h
  obtain ⟨a27, e28, h⟩ := ob h
  obtain ⟨M29, e30, h⟩ := bn_at h
  obtain ⟨K31, e32, h⟩ := bn_at h
  obtain ⟨L33, e34, h⟩ := bn_at h
  obtain ⟨M35, e36, h⟩ := bn_at h
  obtain ⟨a37, e38, h⟩ := ob h
  obtain ⟨M39, e40, h⟩ := bn_at h
  cases h
  dsimp only at hc hs hE
  refine g_aload_n o dX6_init_0 0 rfl ?_
  refine g_objInit o (by omega) ml_X6_3 (by simp [cat_i, cat_l, cat_rf]) dX6_init_1 ?_
  refine g_aload_n o dX6_init_4 0 rfl ?_
  refine g_bipush (v := (6 : Int32)) o dX6_init_5 (by decide) ?_
  refine g_newI (z := 6) o hz (by decide) (by omega) (by omega) dX6_init_7 ?_
  refine g_shp e2 e4 e6 ?_
  refine g_nrm (k1 := 1) (k2 := 6) (n := n + 1) rfl rfl rfl ?_
  refine g_putFR o (by omega) hnm fl_X6_9 e8 (by decide) rfl rfl rfl rfl dX6_init_9 ?_
  refine g_mem e10 ?_
  refine g_aload_n o dX6_init_12 0 rfl ?_
  refine g_bipush (v := (6 : Int32)) o dX6_init_13 (by decide) ?_
  refine g_newI (z := 6) o (by omega) (by decide) (by omega) (by omega) dX6_init_15 ?_
  refine g_shp e12 e14 e16 ?_
  refine g_nrm (k1 := 2) (k2 := 12) (n := n + 2) rfl rfl rfl ?_
  refine g_putFR o (by omega) hnm fl_X6_15 e18 (by decide) rfl rfl rfl rfl dX6_init_17 ?_
  refine g_mem e20 ?_
  refine g_aload_n o dX6_init_20 0 rfl ?_
  refine g_bipush (v := (6 : Int32)) o dX6_init_21 (by decide) ?_
  refine g_newI (z := 6) o (by omega) (by decide) (by omega) (by omega) dX6_init_23 ?_
  refine g_shp e22 e24 e26 ?_
  refine g_nrm (k1 := 3) (k2 := 18) (n := n + 3) rfl rfl rfl ?_
  refine g_putFR o (by omega) hnm fl_X6_18 e28 (by decide) rfl rfl rfl rfl dX6_init_25 ?_
  refine g_mem e30 ?_
  refine g_aload_n o dX6_init_28 0 rfl ?_
  refine g_bipush (v := (6 : Int32)) o dX6_init_29 (by decide) ?_
  refine g_newI (z := 6) o (by omega) (by decide) (by omega) (by omega) dX6_init_31 ?_
  refine g_shp e32 e34 e36 ?_
  refine g_nrm (k1 := 4) (k2 := 24) (n := n + 4) rfl rfl rfl ?_
  refine g_putFR o (by omega) hnm fl_X6_21 e38 (by decide) rfl rfl rfl rfl dX6_init_33 ?_
  refine g_mem e40 ?_
  exact g_vret o hr hE dX6_init_36
theorem c_X6_init (l : Launch) (D : va_G) (Y : Nat → ClassId) (B : Nat) {d : Nat} {n : Nat} {K L : Nat → Nat} {M : Mm} {a0 : Nat} {r : ((Nat → Nat) × (Nat → Nat) × Mm)} (hd : 1 ≤ d) (hk0 : K a0 = 6) (h : f_X6_init B  n a0  K L M = some r) : mC l D Y B d yX6_init cX6_init 1 (none) [va_rf (some a0)] n K L M (n + 4) r.1 r.2.1 r.2.2 none 4 24 := by
  refine mk_met (by decide) (by simp [lgs_r, lgs_i, lgs_l, lgs_n]) (fun X e1 e2 e3 e4 o hL hr hnm hz hc hs hE => ?_)
  subst e1 e2 e3 e4
  rw [show lv_args 0 [va_rf (some a0)] = [(0, va_rf (some a0))] by simp [lva_r, lva_i, lva_l, lva_n]]
  exact w_X6_init_0 o hL hr hnm hz hk0 hc hs hE hd h
def f_X7_init (B n : Nat) (a0 : Nat) (K L : Nat → Nat) (M : Mm) : Option ((Nat → Nat) × (Nat → Nat) × Mm) :=
  bn (va_up K (B + n) 13) (fun K1 =>
  bn (va_up L (B + n) 8) (fun L3 =>
  bn (mz M (B + n)) (fun M5 =>
  Option.bind (rc K1 (some a0) 7) (fun a7 =>
  bn (ms_R M5 (32 * 7 + 0) a7 (some (B + n))) (fun M9 =>
  bn (va_up K1 (B + (n + 1)) 13) (fun K11 =>
  bn (va_up L3 (B + (n + 1)) 8) (fun L13 =>
  bn (mz M9 (B + (n + 1))) (fun M15 =>
  Option.bind (rc K11 (some a0) 7) (fun a17 =>
  bn (ms_R M15 (32 * 7 + 1) a17 (some (B + (n + 1)))) (fun M19 =>
  some (K11, L13, M19)))))))))))
set_option maxHeartbeats 8000000 in
set_option maxRecDepth 20000 in
theorem w_X7_init_0 {X : Cx} {d : Nat} {n : Nat} {K L : Nat → Nat} {M : Mm} {a0 : Nat} {r : ((Nat → Nat) × (Nat → Nat) × Mm)} (o : cOk X cX7_init RX7 d) (hL : cL X = 1) (hr : (ch X).sig.returnType = none) (hnm : (ch X).name = yX7_init.name) (hz : (cs X).heap.size + 0 = cB X + n) (hk0 : K a0 = 7) (hc : (cR X).cells = 2) (hs : (cR X).slots = 16) (hE : cE X (n + 2) r.1 r.2.1 r.2.2 none 2 16) (hd : 1 ≤ d) (h : f_X7_init (cB X)  n a0  K L M = some r) : gW X 0 0 n K L M 0 [(0, va_rf (some a0))] [] := by
  unfold f_X7_init at h
  obtain ⟨K1, e2, h⟩ := bn_at h
  obtain ⟨L3, e4, h⟩ := bn_at h
  obtain ⟨M5, e6, h⟩ := bn_at h
  obtain ⟨a7, e8, h⟩ := ob h
  obtain ⟨M9, e10, h⟩ := bn_at h
  obtain ⟨K11, e12, h⟩ := bn_at h
  obtain ⟨L13, e14, h⟩ := bn_at h
  obtain ⟨M15, e16, h⟩ := bn_at h
  obtain ⟨a17, e18, h⟩ := ob h
  obtain ⟨M19, e20, h⟩ := bn_at h
  cases h
  dsimp only at hc hs hE
  refine g_aload_n o dX7_init_0 0 rfl ?_
  refine g_objInit o (by omega) ml_X7_3 (by simp [cat_i, cat_l, cat_rf]) dX7_init_1 ?_
  refine g_aload_n o dX7_init_4 0 rfl ?_
  refine g_bipush (v := (8 : Int32)) o dX7_init_5 (by decide) ?_
  refine g_newI (z := 8) o hz (by decide) (by omega) (by omega) dX7_init_7 ?_
  refine g_shp e2 e4 e6 ?_
  refine g_nrm (k1 := 1) (k2 := 8) (n := n + 1) rfl rfl rfl ?_
  refine g_putFR o (by omega) hnm fl_X7_9 e8 (by decide) rfl rfl rfl rfl dX7_init_9 ?_
  refine g_mem e10 ?_
  refine g_aload_n o dX7_init_12 0 rfl ?_
  refine g_bipush (v := (8 : Int32)) o dX7_init_13 (by decide) ?_
  refine g_newI (z := 8) o (by omega) (by decide) (by omega) (by omega) dX7_init_15 ?_
  refine g_shp e12 e14 e16 ?_
  refine g_nrm (k1 := 2) (k2 := 16) (n := n + 2) rfl rfl rfl ?_
  refine g_putFR o (by omega) hnm fl_X7_15 e18 (by decide) rfl rfl rfl rfl dX7_init_17 ?_
  refine g_mem e20 ?_
  exact g_vret o hr hE dX7_init_20
theorem c_X7_init (l : Launch) (D : va_G) (Y : Nat → ClassId) (B : Nat) {d : Nat} {n : Nat} {K L : Nat → Nat} {M : Mm} {a0 : Nat} {r : ((Nat → Nat) × (Nat → Nat) × Mm)} (hd : 1 ≤ d) (hk0 : K a0 = 7) (h : f_X7_init B  n a0  K L M = some r) : mC l D Y B d yX7_init cX7_init 1 (none) [va_rf (some a0)] n K L M (n + 2) r.1 r.2.1 r.2.2 none 2 16 := by
  refine mk_met (by decide) (by simp [lgs_r, lgs_i, lgs_l, lgs_n]) (fun X e1 e2 e3 e4 o hL hr hnm hz hc hs hE => ?_)
  subst e1 e2 e3 e4
  rw [show lv_args 0 [va_rf (some a0)] = [(0, va_rf (some a0))] by simp [lva_r, lva_i, lva_l, lva_n]]
  exact w_X7_init_0 o hL hr hnm hz hk0 hc hs hE hd h
