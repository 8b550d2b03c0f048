/-! new cells, returns, calls, contracts -/
def mz (M : Mm) (a : Nat) : Mm := (fun x b => if b = a then 0 else M.1 x b, fun x b => if b = a then 0 else M.2.1 x b, fun x b => if b = a then none else M.2.2.1 x b, fun b j => if b = a then 0 else M.2.2.2.1 b j, fun b j => if b = a then 0 else M.2.2.2.2.1 b j, fun b j => if b = a then none else M.2.2.2.2.2 b j)
theorem mz_V {M : Mm} {a b t x : Nat} (h : b ≠ a) : mm_V (mz M a) t x b = mm_V M t x b := by
  unfold mm_V
  split <;> simp [mz, mm_I, mm_J, mm_R, h]
theorem mz_E {Y : Nat → ClassId} {K L : Nat → Nat} {M : Mm} {a b c z : Nat} (h : b ≠ a) : mm_E Y (va_up K a c) (va_up L a z) (mz M a) b = mm_E Y K L M b := by
  unfold mm_E
  rw [va_up_ne _ _ h, va_up_ne _ _ h, mm_F_off (M := M) (M' := mz M a) (fun j t => mz_V h)]
  have e1 : mm_A (mz M a) b = mm_A M b := by funext j; simp [mm_A, mz, h]
  have e2 : mm_B (mz M a) b = mm_B M b := by funext j; simp [mm_B, mz, h]
  have e3 : mm_C (mz M a) b = mm_C M b := by funext j; simp [mm_C, mz, h]
  rw [e1, e2, e3]
theorem mw_push {D : va_G} {Y : Nat → ClassId} {B n : Nat} {K L : Nat → Nat} {M : Mm} {H H1 : Heap} {q c z : Nat} {e : va_E} (h : mm_H D Y B n K L M H) (hc : c < 18) (he : ∀ a, e = mm_E Y (va_up K a c) (va_up L a z) (mz M a) a) (h1 : va_P D vwCl (mm_W B n Y K L M ++ [(q, e)]) H1) (h2 : va_D (fun q => B ≤ q) (mm_W B n Y K L M ++ [(q, e)])) (hz : H1.size ≤ B + n + 1) : q = B + n ∧ mm_H D Y B (n + 1) (va_up K (B + n) c) (va_up L (B + n) z) (mz M (B + n)) H1 := by
  have hlen : (mm_W B n Y K L M).length = n := by simp [mm_W, va_pl]
  have hlast : (mm_W B n Y K L M ++ [(q, e)])[n]? = some (q, e) := by
    rw [List.getElem?_append_right (by omega), hlen, Nat.sub_self]
    rfl
  have hq1 : q < H1.size := (h1 n _ hlast).lt
  have hq2 : B ≤ q := h2.2 n _ hlast
  have hq : q = B + n := by
    rcases Nat.lt_or_ge q (B + n) with g | g
    · obtain ⟨i, hi⟩ := mw_at h (a := q) ((h.2.1 q).mp ⟨hq2, g⟩)
      have hin : i < n := by
        have := (List.getElem?_eq_some_iff.mp hi).1
        omega
      have h3 : (mm_W B n Y K L M ++ [(q, e)])[i]? = some (q, mm_E Y K L M q) := by
        rw [List.getElem?_append_left (by omega)]
        exact hi
      have := h2.1 i n _ _ h3 hlast rfl
      omega
    · omega
  refine ⟨hq, by omega, fun a => ?_, ?_⟩
  · by_cases ha : a = B + n
    · subst ha
      rw [va_up_self]
      omega
    · rw [va_up_ne _ _ ha, ← h.2.1 a]
      omega
  · have e1 : mm_W B (n + 1) Y (va_up K (B + n) c) (va_up L (B + n) z) (mz M (B + n)) = mm_W B n Y K L M ++ [(q, e)] := by
      unfold mm_W va_pl
      rw [List.range'_concat, List.map_append, hq, he (B + n)]
      congr 1
      · apply List.map_congr_left
        intro a ha
        have hne : a ≠ B + n := by
          have := List.mem_range'_1.mp ha
          omega
        rw [mz_E hne]
      · simp
    rw [e1]
    exact h1
theorem kd_ok : ∀ c, c < 13 → ∀ j, j < kN c → ((mm_T c)[j]?.map fun t => match t with | 0 => Value.int 0 | 1 => Value.long 0 | _ => Value.null) = some (defaultValue (kY c j)) := by decide +kernel
theorem mz_self {M : Mm} {a t x : Nat} : mm_V (mz M a) t x a = match t with | 0 => Value.int 0 | 1 => Value.long 0 | _ => Value.null := by
  unfold mm_V
  split <;> simp [mz, mm_I, mm_J, mm_R, va_rf]
theorem mz_dflt {M : Mm} {a c j : Nat} (hc : c < 13) (hj : j < kN c) : defaultValue (kY c j) = vp_V (mm_F (mz M a) c a) j := by
  have h1 := kd_ok c hc j hj
  cases ht : (mm_T c)[j]? with
  | none => rw [ht] at h1; cases h1
  | some t =>
    rw [ht] at h1
    have h2 := Option.some.inj h1
    rw [← h2]
    simp [vp_V, List.getD_eq_getElem?_getD, mm_F_at ht, mz_self]
section GN
variable {X : Cx} {bt : ByteArray} {own : String} {d k1 k2 n : Nat} {K L : Nat → Nat} {M : Mm} {pc : Nat} {ls : List (Nat × Value)} {st : List Value}
theorem g_A (o : cOk X bt own d) : ∀ q, (cs X).heap.size ≤ q → (fun q => cB X ≤ q) q := fun q h => Nat.le_trans o.2.2.2.2.2.2.2.1 h
theorem g_new (o : cOk X bt own d) (hz : (cs X).heap.size + k1 = cB X + n) {c i : Nat} (hc : c < 13) (hw : Cond.classLink own i (kC c) ∈ gwl ∧ Cond.instantiable (kC c) (kN c) ∈ gwl ∧ Cond.initialized (kC c) ∈ gwl) (h1c : k1 + 1 ≤ (cR X).cells) (h2c : k2 + kN c ≤ (cR X).slots) (hd : decode bt pc = .ok (.new i, 3)) (kk : gW X (k1 + 1) (k2 + kN c) (n + 1) (va_up K (cB X + n) c) (va_up L (cB X + n) 0) (mz M (cB X + n)) (pc + 3) ls (va_rf (some (cB X + n)) :: st)) : gW X k1 k2 n K L M pc ls st := fun H locs ar h1 h2 h3 => by
  obtain ⟨-, -, o3, o4, o5, o6, -, -, -, o10, o11⟩ := id o
  refine va_new (fs := mm_F (mz M (cB X + n)) c (cB X + n)) (ci := c) o.1 o.2.1 o5 (kw_in hc) (kY c) (ky_ok hc) o4 (o5 _ hw.1) (o5 _ hw.2.1) (o5 _ hw.2.2) o6 h1.2.2 (mw_D _ _ _) h2 (g_A o) (kl_at hc) (fun j hj => mz_dflt hc hj) h1c h2c hd (fun q H1 p1 p2 p3 T hT Z => ?_)
  have e1 := Z.heapSize
  rw [hT] at e1
  obtain ⟨hq, h5⟩ := mw_push (z := 0) (c := c) h1 (by omega) (fun a => by
    rw [mm_E_o (c := c) (va_up_self _ _ _) hc]
    congr 2
    simp only [mm_F]
    congr 1
    funext k t
    rw [mz_self, mz_self]) p1 p2 (by omega)
  subst hq
  exact kk H1 locs ar h5 p3 h3 T hT Z
def ra (m : Int32) : Option Nat := if ¬ m < 0 ∧ m.toNatClampNeg ≤ 65536 then some m.toNatClampNeg else none
theorem ra_at {m : Int32} {z : Nat} (h : ra m = some z) : ¬ m < 0 ∧ m.toNatClampNeg = z ∧ z ≤ 65536 := by
  unfold ra at h
  split at h
  · cases h
    rename_i h1
    exact ⟨h1.1, rfl, h1.2⟩
  · cases h
theorem kA_same {D : va_G} {Y : Nat → ClassId} {s : State} {cA : ClassId} {ty : FieldType} (t : Nat) (y : Nat) (ht : (mm_tys Y)[t]? = some (Y y, ty)) (hp : refKind ty = false ∨ ∃ C, ty = .object C) (h : va_K D vwCl (mm_tys Y ++ [(cA, ty)]) s) : cA = Y y := by
  have h1 := (h.2 t (Y y, ty) (by rw [List.getElem?_append_left (List.getElem?_eq_some_iff.mp ht).1]; exact ht)).2
  have h2 := (h.2 5 (cA, ty) rfl).2
  rcases hp with hp | ⟨C, rfl⟩
  · cases ty <;> first | exact Option.some.inj (h2.symm.trans h1) | (exact absurd hp (by simp [refKind]))
  · obtain ⟨_, _, -, -, -, g1⟩ := h1
    obtain ⟨_, _, -, -, -, g2⟩ := h2
    exact Option.some.inj (g2.symm.trans g1)
theorem g_newI (o : cOk X bt own d) (hz : (cs X).heap.size + k1 = cB X + n) {m : Int32} {z : Nat} (hm : ra m = some z) (h1c : k1 + 1 ≤ (cR X).cells) (h2c : k2 + z ≤ (cR X).slots) (hd : decode bt pc = .ok (.newarray .int, 2)) (kk : gW X (k1 + 1) (k2 + z) (n + 1) (va_up K (cB X + n) 13) (va_up L (cB X + n) z) (mz M (cB X + n)) (pc + 2) ls (va_rf (some (cB X + n)) :: st)) : gW X k1 k2 n K L M pc ls (.int m :: st) := fun H locs ar h1 h2 h3 => by
  obtain ⟨-, -, o3, o4, o5, o6, -, -, -, o10, o11⟩ := id o
  obtain ⟨m1, m2, m3⟩ := ra_at hm
  refine va_newa (atype := .int) (ty := .int) (a0 := (z, .inl (fun _ => 0))) o.1 o.2.1 (o5 _ (gw_inT (i := 92) (by decide +kernel) (by decide +kernel))) rfl o6 h1.2.2 (mw_D _ _ _) h2 (g_A o) (fun cA => rfl) m1 m2 (Nat.le_trans (Nat.mul_le_mul m3 (show componentBytes FieldType.int ≤ 8 by decide)) (by decide)) h1c h2c hd (fun q cA H1 p0 p1 p2 p3 T hT Z => ?_)
  have e1 := Z.heapSize
  rw [hT] at e1
  have hcA := kA_same 0 13 rfl (Or.inl rfl) p0
  subst hcA
  obtain ⟨hq, h5⟩ := mw_push (z := z) (c := 13) h1 (by omega) (fun a => by
    rw [mm_E_i (va_up_self _ _ _), va_up_self, show mm_A (mz M a) a = fun _ => 0 by funext j; simp [mm_A, mz]]) p1 p2 (by omega)
  subst hq
  exact kk H1 locs ar h5 p3 h3 T hT Z
theorem g_newZ (o : cOk X bt own d) (hz : (cs X).heap.size + k1 = cB X + n) {m : Int32} {z : Nat} (hm : ra m = some z) (h1c : k1 + 1 ≤ (cR X).cells) (h2c : k2 + z ≤ (cR X).slots) (hd : decode bt pc = .ok (.newarray .boolean, 2)) (kk : gW X (k1 + 1) (k2 + z) (n + 1) (va_up K (cB X + n) 15) (va_up L (cB X + n) z) (mz M (cB X + n)) (pc + 2) ls (va_rf (some (cB X + n)) :: st)) : gW X k1 k2 n K L M pc ls (.int m :: st) := fun H locs ar h1 h2 h3 => by
  obtain ⟨-, -, o3, o4, o5, o6, -, -, -, o10, o11⟩ := id o
  obtain ⟨m1, m2, m3⟩ := ra_at hm
  refine va_newa (atype := .boolean) (ty := .boolean) (a0 := (z, .inl (fun _ => 0))) o.1 o.2.1 (o5 _ (gw_inT (i := 1081) (by decide +kernel) (by decide +kernel))) rfl o6 h1.2.2 (mw_D _ _ _) h2 (g_A o) (fun cA => rfl) m1 m2 (Nat.le_trans (Nat.mul_le_mul m3 (show componentBytes FieldType.boolean ≤ 8 by decide)) (by decide)) h1c h2c hd (fun q cA H1 p0 p1 p2 p3 T hT Z => ?_)
  have e1 := Z.heapSize
  rw [hT] at e1
  have hcA := kA_same 2 15 rfl (Or.inl rfl) p0
  subst hcA
  obtain ⟨hq, h5⟩ := mw_push (z := z) (c := 15) h1 (by omega) (fun a => by
    rw [mm_E_z (va_up_self _ _ _), va_up_self, show mm_A (mz M a) a = fun _ => 0 by funext j; simp [mm_A, mz]]) p1 p2 (by omega)
  subst hq
  exact kk H1 locs ar h5 p3 h3 T hT Z
theorem g_newJ (o : cOk X bt own d) (hz : (cs X).heap.size + k1 = cB X + n) {m : Int32} {z : Nat} (hm : ra m = some z) (h1c : k1 + 1 ≤ (cR X).cells) (h2c : k2 + z ≤ (cR X).slots) (hd : decode bt pc = .ok (.newarray .long, 2)) (kk : gW X (k1 + 1) (k2 + z) (n + 1) (va_up K (cB X + n) 14) (va_up L (cB X + n) z) (mz M (cB X + n)) (pc + 2) ls (va_rf (some (cB X + n)) :: st)) : gW X k1 k2 n K L M pc ls (.int m :: st) := fun H locs ar h1 h2 h3 => by
  obtain ⟨-, -, o3, o4, o5, o6, -, -, -, o10, o11⟩ := id o
  obtain ⟨m1, m2, m3⟩ := ra_at hm
  refine va_newa (atype := .long) (ty := .long) (a0 := (z, .inr (.inl (fun _ => 0)))) o.1 o.2.1 (o5 _ (gw_inT (i := 1080) (by decide +kernel) (by decide +kernel))) rfl o6 h1.2.2 (mw_D _ _ _) h2 (g_A o) (fun cA => rfl) m1 m2 (Nat.le_trans (Nat.mul_le_mul m3 (show componentBytes FieldType.long ≤ 8 by decide)) (by decide)) h1c h2c hd (fun q cA H1 p0 p1 p2 p3 T hT Z => ?_)
  have e1 := Z.heapSize
  rw [hT] at e1
  have hcA := kA_same 1 14 rfl (Or.inl rfl) p0
  subst hcA
  obtain ⟨hq, h5⟩ := mw_push (z := z) (c := 14) h1 (by omega) (fun a => by
    rw [mm_E_l (va_up_self _ _ _), va_up_self, show mm_B (mz M a) a = fun _ => 0 by funext j; simp [mm_B, mz]]) p1 p2 (by omega)
  subst hq
  exact kk H1 locs ar h5 p3 h3 T hT Z
theorem g_newC (o : cOk X bt own d) (hz : (cs X).heap.size + k1 = cB X + n) {m : Int32} {z i k c : Nat} (hk : k = 16 ∧ c = 2 ∨ k = 17 ∧ c = 4) (hw : Cond.classLink own i (kC c) ∈ gwl) (hm : ra m = some z) (h1c : k1 + 1 ≤ (cR X).cells) (h2c : k2 + z ≤ (cR X).slots) (hd : decode bt pc = .ok (.anewarray i, 3)) (kk : gW X (k1 + 1) (k2 + z) (n + 1) (va_up K (cB X + n) k) (va_up L (cB X + n) z) (mz M (cB X + n)) (pc + 3) ls (va_rf (some (cB X + n)) :: st)) : gW X k1 k2 n K L M pc ls (.int m :: st) := fun H locs ar h1 h2 h3 => by
  obtain ⟨-, -, o3, o4, o5, o6, o7, -, -, o10, o11⟩ := id o
  obtain ⟨m1, m2, m3⟩ := ra_at hm
  have hov : va_AO (kC c) (cs X) := by
    rcases hk with ⟨rfl, rfl⟩ | ⟨rfl, rfl⟩
    · exact o7.2.2
    · exact o7.2.1
  refine va_newq o.1 o.2.1 o4 (o5 _ hw) hov o6 h1.2.2 (mw_D _ _ _) h2 (g_A o) m1 m2 (by omega) h1c h2c hd (fun q cA H1 p0 p1 p2 p3 T hT Z => ?_)
  have e1 := Z.heapSize
  rw [hT] at e1
  have hcA : cA = cY X k := by
    rcases hk with ⟨rfl, rfl⟩ | ⟨rfl, rfl⟩
    · exact kA_same 3 16 rfl (Or.inr ⟨_, rfl⟩) p0
    · exact kA_same 4 17 rfl (Or.inr ⟨_, rfl⟩) p0
  subst hcA
  obtain ⟨hq, h5⟩ := mw_push (z := z) (c := k) h1 (by omega) (fun a => by
    rw [mm_E_r (k := k) (va_up_self _ _ _) (by omega), va_up_self, show mm_C (mz M a) a = fun _ => none by funext j; simp [mm_C, mz]]) p1 p2 (by omega)
  subst hq
  exact kk H1 locs ar h5 p3 h3 T hT Z
end GN
/-! contracts -/
def mw (y : MethodName) (bt : ByteArray) (ml : Nat) (ret : Option FieldType) : List Cond := Cond.code y bt ml ret :: gwl
def mr (d mc ms : Nat) : Room := { frames := d, cells := mc, slots := ms, locals := 41 * d }
def mt_P (D : va_G) (Y : Nat → ClassId) (B n : Nat) (K L : Nat → Nat) (M : Mm) (av : List Value) : Array Value → State → Prop := va_Pc av (fun U => mm_H D Y B n K L M U.heap ∧ va_K D vwCl (mm_tys Y) U ∧ mm_N U)
def mt_Q (D : va_G) (Y : Nat → ClassId) (B n : Nat) (K L : Nat → Nat) (M : Mm) (rv : Option Value) : Array Value → State → Outcome → State → Prop := fun _ st oc t => oc = .returned rv ∧ mm_H D Y B n K L M t.heap ∧ va_F (fun q => B ≤ q) st t
/-- method y at depth d: from memory M to M', with the answer rv, mc cells and ms slots new -/
def mC (l : Launch) (D : va_G) (Y : Nat → ClassId) (B d : Nat) (y : MethodName) (bt : ByteArray) (ml : Nat) (ret : Option FieldType) (av : List Value) (n : Nat) (K L : Nat → Nat) (M : Mm) (n' : Nat) (K' L' : Nat → Nat) (M' : Mm) (rv : Option Value) (mc ms : Nat) : Prop :=
  Met l y (mw y bt ml ret) (mr d mc ms) (mt_P D Y B n K L M av) (mt_Q D Y B n' K' L' M' rv) mc ms (fun q => B ≤ q)
def cE (X : Cx) (n' : Nat) (K' L' : Nat → Nat) (M' : Mm) (rv : Option Value) (mc ms : Nat) : Prop :=
  cQ X = MQ (cb X) (mt_Q (cD X) (cY X) (cB X) n' K' L' M' rv) (ca X) (cs X) mc ms (fun q => cB X ≤ q)
theorem mN_warm {s U : State} (hW : s.WarmedH U.vm) (h : mm_N s) : mm_N U := by
  refine ⟨fun w hw => ?_, h.2.1.moved hW.alike, h.2.2.moved hW.alike⟩
  have h1 := h.1 w hw
  have h2 := (List.mem_filter.mp hw).2
  cases w <;> first | exact va_Nw.warmM hW h1 | (exact absurd h2 (by simp))
theorem mk_met {l : Launch} {D : va_G} {Y : Nat → ClassId} {B d : Nat} {y : MethodName} {bt : ByteArray} {ml : Nat} {ret : Option FieldType} {av : List Value} {n : Nat} {K L : Nat → Nat} {M : Mm} {n' : Nat} {K' L' : Nat → Nat} {M' : Mm} {rv : Option Value} {mc ms : Nat} (hy : plainName y.cls = true) (hlen : (lg_sl av).length ≤ ml)
    (body : ∀ X : Cx, cq X = l → cD X = D → cY X = Y → cB X = B → cOk X bt y.cls d → cL X = ml → (ch X).sig.returnType = ret → (ch X).name = y.name → (cs X).heap.size + 0 = cB X + n → (cR X).cells = mc → (cR X).slots = ms → cE X n' K' L' M' rv mc ms → gW X 0 0 n K L M 0 (lv_args 0 av) []) : mC l D Y B d y bt ml ret av n K L M n' K' L' M' rv mc ms := by
  refine Met.ofW (cc := bt) (maxL := ml) (ret := ret) hy rfl ?_
  intro p e s m args below meth c s₁ Z hml hv
  obtain ⟨rfl, hH, hK, hN⟩ := hv
  have hts := atoms_spec (ws := mw y bt ml ret) Z.pre
  have hown : s.vm.findClass y.cls = some m.cls := findClass_of_methodNamed Z.named
  have hl := lv_entry av (n := ml) hlen
  rw [lg_entry_eq]
  exact body (p, l, e, (headSpec (mw y bt ml ret) (mr d mc ms)).room, s, m, av.toArray, below, meth, c, MQ below (mt_Q D Y B n' K' L' M' rv) av.toArray s mc ms (fun q => B ≤ q), D, Y, B, ml) rfl rfl rfl rfl
    ⟨Z.exec, Z.bytes, hml, hown, fun w hw => hts w (List.mem_cons_of_mem _ hw), hK, hN, by have := hH.1; show B ≤ s.heap.size; omega, Z.notSynchronized, Nat.le_refl _, Nat.le_refl _⟩ rfl Z.returns (name_of_methodNamed Z.named Z.method).1 (by have := hH.1; show s.heap.size + 0 = B + n; omega) rfl rfl rfl s.heap [] _ hH va_S.rf hl
section GR
variable {X : Cx} {bt : ByteArray} {own : String} {d k1 k2 n : Nat} {K L : Nat → Nat} {M : Mm} {pc : Nat} {ls : List (Nat × Value)} {st : List Value}
theorem g_iret (o : cOk X bt own d) {v : Int32} (hr : (ch X).sig.returnType = some .int) (hE : cE X n K L M (some (.int v)) k1 k2) (hd : decode bt pc = .ok (.ireturn, 1)) : gW X k1 k2 n K L M pc ls [.int v] := fun H locs ar h1 h2 h3 => by
  unfold cE at hE
  rw [hE]
  exact W.iret o.1 o.2.1 hr (fun t ht hW => ⟨rfl, by rw [ht]; exact h1, h2.F ht⟩) h2.2.2 hd o.2.2.2.2.2.2.2.2.1
theorem g_zret (o : cOk X bt own d) {v : Int32} (hr : (ch X).sig.returnType = some .boolean) (hv : v = 0 ∨ v = 1) (hE : cE X n K L M (some (.int v)) k1 k2) (hd : decode bt pc = .ok (.ireturn, 1)) : gW X k1 k2 n K L M pc ls [.int v] := fun H locs ar h1 h2 h3 => by
  unfold cE at hE
  rw [hE]
  exact W.zret o.1 o.2.1 hr (by rcases hv with rfl | rfl <;> decide) (fun t ht hW => ⟨rfl, by rw [ht]; exact h1, h2.F ht⟩) h2.2.2 hd o.2.2.2.2.2.2.2.2.1
theorem g_lret (o : cOk X bt own d) {v : Int64} (hr : (ch X).sig.returnType = some .long) (hE : cE X n K L M (some (.long v)) k1 k2) (hd : decode bt pc = .ok (.lreturn, 1)) : gW X k1 k2 n K L M pc ls [.long v] := fun H locs ar h1 h2 h3 => by
  unfold cE at hE
  rw [hE]
  exact W.lret o.1 o.2.1 hr (fun t ht hW => ⟨rfl, by rw [ht]; exact h1, h2.F ht⟩) h2.2.2 hd o.2.2.2.2.2.2.2.2.1
theorem g_aret (o : cOk X bt own d) {r : Option Nat} {C : String} (hr : (ch X).sig.returnType = some (.object C)) (hE : cE X n K L M (some (va_rf r)) k1 k2) (hd : decode bt pc = .ok (.areturn, 1)) : gW X k1 k2 n K L M pc ls [va_rf r] := fun H locs ar h1 h2 h3 => by
  unfold cE at hE
  rw [hE]
  exact W.aret o.1 o.2.1 hr (Or.inl ⟨_, rfl⟩) (va_rf_or r) (fun t ht hW => ⟨rfl, by rw [ht]; exact h1, h2.F ht⟩) h2.2.2 hd o.2.2.2.2.2.2.2.2.1
theorem g_vret (o : cOk X bt own d) (hr : (ch X).sig.returnType = none) (hE : cE X n K L M none k1 k2) (hd : decode bt pc = .ok (.return_, 1)) : gW X k1 k2 n K L M pc ls [] := fun H locs ar h1 h2 h3 => by
  unfold cE at hE
  rw [hE]
  exact W.vret o.1 o.2.1 hr (fun t ht hW => ⟨rfl, by rw [ht]; exact h1, h2.F ht⟩) h2.2.2 hd o.2.2.2.2.2.2.2.2.1
theorem g_objInit (o : cOk X bt own d) {i a : Nat} (hd1 : 1 ≤ d) (hw : Cond.methodLink own i objectInit ∈ gwl) (hst : (st.map fun v => v.category).sum ≤ 8) (hd : decode bt pc = .ok (.invokespecial i, 3)) (kk : gW X k1 k2 n K L M (pc + 3) ls st) : gW X k1 k2 n K L M pc ls (va_rf (some a) :: st) := fun H locs ar h1 h2 h3 => by
  obtain ⟨-, -, o3, o4, o5, o6, o7, -, -, o10, o11⟩ := id o
  refine W.objInit o.1 o.2.1 o4 (o5 _ hw) (o5 _ (gw_inT (i := 23) (by decide +kernel) (by decide +kernel))) (o5 _ (gw_inT (i := 24) (by decide +kernel) (by decide +kernel))) rfl (h3.1.trans o3.symm) rfl hd (by omega) ?_ (kk H locs ar h1 h2 h3)
  have := lv_room (m := cm X) (pc := pc) (ls := ar) (rest := va_rf (some a) :: st) hst
  omega
/-- behind a call -/
theorem g_ran {H : Heap} {locs : List Loc} {ar : Array Slot} {n' mc ms : Nat} {K' L' : Nat → Nat} {M' : Mm} {rv : Option Value} {rest : List Value} {a : Array Value}
    (hr : va_Run (cp X) (cq X) (ce X) (cR X) (cs X) (cm X) (ca X) (cb X) (ch X) (cc' X) H locs k1 k2 mc ms (F0 (cm X) pc ar st) rest (mt_Q (cD X) (cY X) (cB X) n' K' L' M' rv a) (fun q => cB X ≤ q))
    (h2 : va_S (fun q => cB X ≤ q) (cs X).heap H locs) (h3 : lv_has ar (cL X) ls) (kk : gW X (k1 + mc) (k2 + ms) n' K' L' M' (pc + 3) ls (rv.toList ++ rest)) :
    W (cp X) (cq X) (ce X) (cR X) (cs X) (cm X) (ca X) (cb X) (ch X) (cc' X) H locs k1 k2 (cQ X) (F0 (cm X) pc ar st) := by
  intro T hT Z
  obtain ⟨v, st₀, t, T', L0, h0, Z', hL, e1, e2, ⟨hv, hh, hz, hk⟩, hst⟩ := hr T hT Z
  cases hv
  rw [h0] at hz hk
  obtain ⟨t2, a1, b1⟩ := kk T'.heap (locs ++ L0) ar (by rw [e1]; exact hh) ⟨Nat.le_trans h2.1 (by rw [e1]; exact hz), fun q g1 g2 => by rw [e1, hk q (Nat.lt_of_lt_of_le g1 h2.1) g2]; exact h2.2.1 q g1 g2, fun q hq => by
      rcases List.mem_append.mp hq with h | h
      · exact h2.2.2 q h
      · exact hL q h⟩ h3 T' rfl Z'
  exact ⟨t2, hst t2 a1, b1⟩
def kB (y : MethodName) (bt : ByteArray) (ml : Nat) (ret : Option FieldType) (np : Nat) : Prop := Cond.initialized y.cls ∈ gwl ∧ Cond.code y bt ml ret ∈ gwl ∧ (y.cls ≠ "java/lang/invoke/MethodHandle" ∧ y.cls ≠ "java/lang/invoke/VarHandle" ∧ (parseMethodDescriptor y.desc).map (fun d => d.parameters.length) = some np) ∧ ml ≤ 22
def kV (y : MethodName) : Prop := Cond.instanceMethod y ∈ gwl ∧ Cond.selects y.cls y y ∈ gwl
theorem kG {y : MethodName} {b2 : ByteArray} {ml : Nat} {ret : Option FieldType} (h : Cond.code y b2 ml ret ∈ gwl) : GoodIn gwl (mw y b2 ml ret) := fun w hw => by
  have hg : ∀ w ∈ gwl, (w.onTables && w.keeps) = true ∨ ∃ ty, w = .arrayClass ty := fun w h => good_of_word (List.mem_filter.mp h).2
  rcases List.mem_cons.mp hw with rfl | h1
  · exact ⟨h, hg _ h⟩
  · exact ⟨h1, hg _ h1⟩
theorem g_pre {av : List Value} {H : Heap} (o : cOk X bt own d) (h1 : mm_H (cD X) (cY X) (cB X) n K L M H) : PreS (cs X) H (mt_P (cD X) (cY X) (cB X) n K L M av) av := by
  refine ⟨fun a U g mk q => ?_, fun U hU hW => ⟨rfl, by rw [hU]; exact h1, va_K.moved hW.alike o.2.2.2.2.2.1, mN_warm hW o.2.2.2.2.2.2.1⟩⟩
  obtain ⟨q0, q1, q2, q3⟩ := q
  exact ⟨q0, q1, va_K.moved (u := U) (U := U.calling g mk a) (Vm.Alike.refl U.vm) q2, ⟨fun w hw => va_Nw.same (by
    have h2 := (List.mem_filter.mp hw).2
    cases w <;> first | rfl | (exact absurd h2 (by simp))) (u := U) rfl (q3.1 w hw), va_AO.moved (u := U) (Vm.Alike.refl U.vm) q3.2.1, va_AO.moved (u := U) (Vm.Alike.refl U.vm) q3.2.2⟩⟩
variable {y : MethodName} {b2 : ByteArray} {ml np i n' mc ms : Nat} {ret : Option FieldType} {K' L' : Nat → Nat} {M' : Mm} {rv : Option Value} {rest As : List Value}
theorem g_recv {H : Heap} {a c : Nat} (o : cOk X bt own d) (h1 : mm_H (cD X) (cY X) (cB X) n K L M H) (hc : c < 13) (hK : K a = c) : ∃ cell : Cell, H[a]? = some cell ∧ cell.vm.isStatics = false ∧ (cs X).vm.findClass (kC c) = some cell.cls := by
  obtain ⟨q, hq⟩ := mw_at h1 (a := a) (by omega)
  rw [mm_E_o hK hc] at hq
  exact va_recv o.2.2.2.2.2.1 h1.2.2 (kl_at hc) hq
theorem g_invV (o : cOk X bt own (d + 1)) {r : Option Nat} {a c : Nat} (hr : rc K r c = some a) (hc : c < 13) (hw : Cond.methodLink own i y ∈ gwl) (hb : kB y b2 ml ret np) (hv : kV y) (hy : y.cls = kC c) (hM : mC (cq X) (cD X) (cY X) (cB X) d y b2 ml ret (va_rf (some a) :: As) n K L M n' K' L' M' rv mc ms)
    (hn : As.length = np) (hs : st = As.reverse ++ va_rf r :: rest) (hst : (rest.map fun v => v.category).sum ≤ 8) (hf : k1 + mc ≤ (cR X).cells ∧ k2 + ms ≤ (cR X).slots) (hd : decode bt pc = .ok (.invokevirtual i, 3)) (kk : gW X (k1 + mc) (k2 + ms) n' K' L' M' (pc + 3) ls (rv.toList ++ rest)) : gW X k1 k2 n K L M pc ls st := fun H locs ar h1 h2 h3 => by
  obtain ⟨rfl, hK⟩ := rc_at hr
  obtain ⟨-, -, o3, o4, o5, o6, o7, -, -, o10, o11⟩ := id o
  obtain ⟨b1, b3, b4, b5⟩ := hb
  subst hs
  have hp := g_pre (av := va_rf (some a) :: As) o h1
  refine g_ran (va_runV (C := kC c) (b := a) (As := As) (rest := rest) (nL := cL X) (n := np) ⟨o.1, o.2.1, o3, o4, o5⟩ hM ⟨callB_of np o5 (kG b3) rfl rfl rfl (o5 _ b1) (o5 _ hw) b4 ⟨o10, ?_⟩, o5 _ hv.1, by rw [← hy]; exact o5 _ hv.2⟩ ⟨hp.1, g_recv o h1 hc hK, hp.2⟩ rfl hn h3.1 rfl (lv_room hst) hd hf) h2 h3 kk
  show 8 + (ml + 11) + 41 * d ≤ _
  omega
theorem g_invVN (o : cOk X bt own (d + 1)) {r : Option Nat} {host : String} {a c : Nat} (hr : rc K r c = some a) (hc : c < 13) (hw : Cond.methodLinkNest own i y host ∈ nwl) (hb : kB y b2 ml ret np) (hv : kV y) (hy : y.cls = kC c) (hM : mC (cq X) (cD X) (cY X) (cB X) d y b2 ml ret (va_rf (some a) :: As) n K L M n' K' L' M' rv mc ms)
    (hn : As.length = np) (hs : st = As.reverse ++ va_rf r :: rest) (hst : (rest.map fun v => v.category).sum ≤ 8) (hf : k1 + mc ≤ (cR X).cells ∧ k2 + ms ≤ (cR X).slots) (hd : decode bt pc = .ok (.invokevirtual i, 3)) (kk : gW X (k1 + mc) (k2 + ms) n' K' L' M' (pc + 3) ls (rv.toList ++ rest)) : gW X k1 k2 n K L M pc ls st := fun H locs ar h1 h2 h3 => by
  obtain ⟨rfl, hK⟩ := rc_at hr
  obtain ⟨-, -, o3, o4, o5, o6, o7, -, -, o10, o11⟩ := id o
  obtain ⟨b1, b3, b4, b5⟩ := hb
  subst hs
  have hp := g_pre (av := va_rf (some a) :: As) o h1
  refine g_ran (va_runVN (C := kC c) (b := a) (As := As) (rest := rest) (nL := cL X) (n := np) ⟨o.1, o.2.1, o3, o4, o5⟩ hM ⟨va_cnB np o5 (kG b3) rfl rfl rfl (o7.1 _ hw) (o5 _ b1) b4 ⟨o10, ?_⟩, o5 _ hv.1, by rw [← hy]; exact o5 _ hv.2⟩ ⟨hp.1, g_recv o h1 hc hK, hp.2⟩ rfl hn h3.1 rfl (lv_room hst) hd hf) h2 h3 kk
  show 8 + (ml + 11) + 41 * d ≤ _
  omega
theorem g_invS (o : cOk X bt own (d + 1)) (hw : Cond.methodLink own i y ∈ gwl) (hb : kB y b2 ml ret np) (hv : Cond.static y ∈ gwl) (hM : mC (cq X) (cD X) (cY X) (cB X) d y b2 ml ret As n K L M n' K' L' M' rv mc ms)
    (hn : As.length = np) (hs : st = As.reverse ++ rest) (hst : (rest.map fun v => v.category).sum ≤ 8) (hf : k1 + mc ≤ (cR X).cells ∧ k2 + ms ≤ (cR X).slots) (hd : decode bt pc = .ok (.invokestatic i, 3)) (kk : gW X (k1 + mc) (k2 + ms) n' K' L' M' (pc + 3) ls (rv.toList ++ rest)) : gW X k1 k2 n K L M pc ls st := fun H locs ar h1 h2 h3 => by
  obtain ⟨-, -, o3, o4, o5, o6, o7, -, -, o10, o11⟩ := id o
  obtain ⟨b1, b3, b4, b5⟩ := hb
  subst hs
  refine g_ran (va_runS (As := As) (rest := rest) (nL := cL X) (n := np) ⟨o.1, o.2.1, o3, o4, o5⟩ hM ⟨callB_of np o5 (kG b3) rfl rfl rfl (o5 _ b1) (o5 _ hw) b4 ⟨o10, ?_⟩, o5 _ hv⟩ (g_pre o h1) rfl hn h3.1 rfl (lv_room hst) hd hf) h2 h3 kk
  show 8 + (ml + 11) + 41 * d ≤ _
  omega
theorem g_invSN (o : cOk X bt own (d + 1)) {host : String} (hw : Cond.methodLinkNest own i y host ∈ nwl) (hb : kB y b2 ml ret np) (hv : Cond.static y ∈ gwl) (hM : mC (cq X) (cD X) (cY X) (cB X) d y b2 ml ret As n K L M n' K' L' M' rv mc ms)
    (hn : As.length = np) (hs : st = As.reverse ++ rest) (hst : (rest.map fun v => v.category).sum ≤ 8) (hf : k1 + mc ≤ (cR X).cells ∧ k2 + ms ≤ (cR X).slots) (hd : decode bt pc = .ok (.invokestatic i, 3)) (kk : gW X (k1 + mc) (k2 + ms) n' K' L' M' (pc + 3) ls (rv.toList ++ rest)) : gW X k1 k2 n K L M pc ls st := fun H locs ar h1 h2 h3 => by
  obtain ⟨-, -, o3, o4, o5, o6, o7, -, -, o10, o11⟩ := id o
  obtain ⟨b1, b3, b4, b5⟩ := hb
  subst hs
  refine g_ran (va_runSN (As := As) (rest := rest) (nL := cL X) (n := np) ⟨o.1, o.2.1, o3, o4, o5⟩ hM ⟨va_cnB np o5 (kG b3) rfl rfl rfl (o7.1 _ hw) (o5 _ b1) b4 ⟨o10, ?_⟩, o5 _ hv, trivial⟩ (g_pre o h1) rfl hn h3.1 rfl (lv_room hst) hd hf) h2 h3 kk
  show 8 + (ml + 11) + 41 * d ≤ _
  omega
theorem g_invI (o : cOk X bt own (d + 1)) {a : Nat} (hw : Cond.methodLink own i y ∈ gwl) (hb : kB y b2 ml none np) (hv : y.name = "<init>" ∧ Cond.instanceMethod y ∈ gwl) (hM : mC (cq X) (cD X) (cY X) (cB X) d y b2 ml none (va_rf (some a) :: As) n K L M n' K' L' M' rv mc ms)
    (hn : As.length = np) (hs : st = As.reverse ++ va_rf (some a) :: rest) (hst : (rest.map fun v => v.category).sum ≤ 8) (hf : k1 + mc ≤ (cR X).cells ∧ k2 + ms ≤ (cR X).slots) (hd : decode bt pc = .ok (.invokespecial i, 3)) (kk : gW X (k1 + mc) (k2 + ms) n' K' L' M' (pc + 3) ls (rv.toList ++ rest)) : gW X k1 k2 n K L M pc ls st := fun H locs ar h1 h2 h3 => by
  obtain ⟨-, -, o3, o4, o5, o6, o7, -, -, o10, o11⟩ := id o
  obtain ⟨b1, b3, b4, b5⟩ := hb
  subst hs
  refine g_ran (va_runI (b := a) (As := As) (rest := rest) (nL := cL X) (n := np) ⟨o.1, o.2.1, o3, o4, o5⟩ hM ⟨callB_of np o5 (kG b3) rfl rfl rfl (o5 _ b1) (o5 _ hw) b4 ⟨o10, ?_⟩, hv.1, o5 _ hv.2⟩ (g_pre o h1) rfl hn h3.1 rfl (lv_room hst) hd hf) h2 h3 kk
  show 8 + (ml + 11) + 41 * d ≤ _
  omega
theorem g_invIN (o : cOk X bt own (d + 1)) {host : String} {a : Nat} (hw : Cond.methodLinkNest own i y host ∈ nwl) (hb : kB y b2 ml none np) (hv : y.name = "<init>" ∧ Cond.instanceMethod y ∈ gwl) (hM : mC (cq X) (cD X) (cY X) (cB X) d y b2 ml none (va_rf (some a) :: As) n K L M n' K' L' M' rv mc ms)
    (hn : As.length = np) (hs : st = As.reverse ++ va_rf (some a) :: rest) (hst : (rest.map fun v => v.category).sum ≤ 8) (hf : k1 + mc ≤ (cR X).cells ∧ k2 + ms ≤ (cR X).slots) (hd : decode bt pc = .ok (.invokespecial i, 3)) (kk : gW X (k1 + mc) (k2 + ms) n' K' L' M' (pc + 3) ls (rv.toList ++ rest)) : gW X k1 k2 n K L M pc ls st := fun H locs ar h1 h2 h3 => by
  obtain ⟨-, -, o3, o4, o5, o6, o7, -, -, o10, o11⟩ := id o
  obtain ⟨b1, b3, b4, b5⟩ := hb
  subst hs
  refine g_ran (va_runIN (b := a) (As := As) (rest := rest) (nL := cL X) (n := np) ⟨o.1, o.2.1, o3, o4, o5⟩ hM ⟨va_cnB np o5 (kG b3) rfl rfl rfl (o7.1 _ hw) (o5 _ b1) b4 ⟨o10, ?_⟩, hv.1, o5 _ hv.2⟩ (g_pre o h1) rfl hn h3.1 rfl (lv_room hst) hd hf) h2 h3 kk
  show 8 + (ml + 11) + 41 * d ≤ _
  omega
end GR
