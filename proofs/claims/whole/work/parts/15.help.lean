/-! helpers of the walked methods; link words by their places -/
def bn {α β : Type} (x : α) (f : α → β) : β := f x
theorem bn_at {α β : Type} {x : α} {f : α → Option β} {r : β} (h : bn x f = some r) : ∃ y, y = x ∧ f y = some r := ⟨x, rfl, h⟩
def zb (x : Int32) : Option Unit := if x = 0 ∨ x = 1 then some () else none
theorem zb_at {x : Int32} {u : Unit} (h : zb x = some u) : x = 0 ∨ x = 1 := by
  unfold zb at h
  split at h
  · assumption
  · cases h
def nzi (x : Int32) : Option Unit := if x = 0 then none else some ()
theorem nzi_at {x : Int32} {u : Unit} (h : nzi x = some u) : ¬ x = 0 := by
  unfold nzi at h
  split at h
  · cases h
  · assumption
def nzl (x : Int64) : Option Unit := if x = 0 then none else some ()
theorem nzl_at {x : Int64} {u : Unit} (h : nzl x = some u) : ¬ x = 0 := by
  unfold nzl at h
  split at h
  · cases h
  · assumption
theorem cat_rf (r : Option Nat) : (va_rf r).category = 1 := by cases r <;> rfl
theorem cat_i (x : Int32) : (Value.int x).category = 1 := rfl
theorem cat_l (x : Int64) : (Value.long x).category = 2 := rfl
theorem lgs_n : (lg_sl []).length = 0 := rfl
theorem lgs_i (x : Int32) (l : List Value) : (lg_sl (.int x :: l)).length = 1 + (lg_sl l).length := by simp [lg_sl, Value.category]; omega
theorem lgs_r (x : Option Nat) (l : List Value) : (lg_sl (va_rf x :: l)).length = 1 + (lg_sl l).length := by cases x <;> simp [lg_sl, va_rf, Value.category] <;> omega
theorem lgs_l (x : Int64) (l : List Value) : (lg_sl (.long x :: l)).length = 2 + (lg_sl l).length := by simp [lg_sl, Value.category]; omega
theorem lva_n (k : Nat) : lv_args k [] = [] := rfl
theorem lva_i (k : Nat) (x : Int32) (l : List Value) : lv_args k (.int x :: l) = (k, .int x) :: lv_args (k + 1) l := rfl
theorem lva_r (k : Nat) (x : Option Nat) (l : List Value) : lv_args k (va_rf x :: l) = (k, va_rf x) :: lv_args (k + 1) l := by cases x <;> rfl
theorem lva_l (k : Nat) (x : Int64) (l : List Value) : lv_args k (.long x :: l) = (k, .long x) :: lv_args (k + 2) l := rfl
theorem rc_self {K : Nat → Nat} {a c : Nat} (h : K a = c) : rc K (some a) c = some a := by simp [rc, h]
theorem ts_d {x : Int32} (m : Nat) (hm : m < 2 ^ 31) (h : ∀ k : Nat, k < m → ¬ x = Int32.ofNat k) : x.toInt < 0 ∨ (m : Int) - 1 < x.toInt := by
  rcases (show x.toInt < 0 ∨ 0 ≤ x.toInt by omega) with g | g
  · exact Or.inl g
  · right
    rcases (show (m : Int) - 1 < x.toInt ∨ x.toInt ≤ (m : Int) - 1 by omega) with g2 | g2
    · exact g2
    · exfalso
      apply h x.toInt.toNat (by omega)
      apply Int32.toInt_inj.mp
      have e := nI_toInt (n := x.toInt.toNat) (by omega)
      have e2 : (Int32.ofNat x.toInt.toNat).toInt = (x.toInt.toNat : Int) := e
      rw [e2]
      omega
theorem ls_d2 {x : Int32} {d a b : Int} (h0 : ¬ x = 0) (h1 : ¬ x = 1) : Op.lookupswitch.offset [(0, a), (1, b)] d x.toInt = d := by
  have e0 : ¬ x.toInt = 0 := fun h => h0 (Int32.toInt_inj.mp h)
  have e1 : ¬ x.toInt = 1 := fun h => h1 (Int32.toInt_inj.mp h)
  simp [Op.lookupswitch.offset, e0, e1, Ne.symm e0, Ne.symm e1]
section GZ
variable {X : Cx} {bt : ByteArray} {own : String} {d k1 k2 n : Nat} {K L : Nat → Nat} {M : Mm} {pc : Nat} {ls : List (Nat × Value)} {st : List Value}
theorem ltL {i m : Nat} (h : cL X = m) (h2 : i < m) : i < cL X := by rw [h]; exact h2
theorem g_topI {x y : Int32} (h : y = x) (k : gW X k1 k2 n K L M pc ls (.int y :: st)) : gW X k1 k2 n K L M pc ls (.int x :: st) := h ▸ k
theorem g_topJ {x y : Int64} (h : y = x) (k : gW X k1 k2 n K L M pc ls (.long y :: st)) : gW X k1 k2 n K L M pc ls (.long x :: st) := h ▸ k
theorem g_topR {x y : Option Nat} (h : y = x) (k : gW X k1 k2 n K L M pc ls (va_rf y :: st)) : gW X k1 k2 n K L M pc ls (va_rf x :: st) := h ▸ k
theorem g_mem {M' : Mm} (h : M' = M) (k : gW X k1 k2 n K L M' pc ls st) : gW X k1 k2 n K L M pc ls st := h ▸ k
theorem g_ldcw (o : cOk X bt own d) {i : Nat} {v : Int32} (hw : Cond.constant own i v ∈ gwl) (hd : decode bt pc = .ok (.ldc_w i, 3)) (k : gW X k1 k2 n K L M (pc + 3) ls (.int v :: st)) : gW X k1 k2 n K L M pc ls st := fun H locs ar h1 h2 h3 => lv_ldcw o.1 o.2.1 o.2.2.2.1 (o.2.2.2.2.1 _ hw) hd (k H locs ar h1 h2 h3)
theorem g_mmax (o : cOk X bt own d) {i : Nat} {x y : Int32} (hw : Cond.methodLink own i Lib.Math.max.name ∈ gwl) (hd1 : 1 ≤ d) (hst : (st.map fun v => v.category).sum ≤ 8) (hd : decode bt pc = .ok (.invokestatic i, 3)) (kk : gW X 0 0 n K L M (pc + 3) ls (.int (if x < y then y else x) :: st)) : gW X 0 0 n K L M pc ls (.int y :: .int x :: st) := fun H locs ar h1 h2 h3 => by
  obtain ⟨-, -, o3, o4, o5, o6, o7, -, -, o10, o11⟩ := id o
  exact va_mmax o.1 o.2.1 (o3.trans h3.1.symm) o4 (o5 _ hw) (o5 _ (gw_inT (i := 757) (by decide +kernel) (by decide +kernel))) (o5 _ (gw_inT (i := 15) (by decide +kernel) (by decide +kernel))) (o5 _ (gw_inT (i := 758) (by decide +kernel) (by decide +kernel))) (by omega) (by omega) (Nat.zero_le _) (Nat.zero_le _) hd (kk H locs ar h1 h2 h3)
theorem g_mmin (o : cOk X bt own d) {i : Nat} {x y : Int32} (hw : Cond.methodLink own i Lib.Math.min.name ∈ gwl) (hd1 : 1 ≤ d) (hst : (st.map fun v => v.category).sum ≤ 8) (hd : decode bt pc = .ok (.invokestatic i, 3)) (kk : gW X 0 0 n K L M (pc + 3) ls (.int (if y < x then y else x) :: st)) : gW X 0 0 n K L M pc ls (.int y :: .int x :: st) := fun H locs ar h1 h2 h3 => by
  obtain ⟨-, -, o3, o4, o5, o6, o7, -, -, o10, o11⟩ := id o
  exact va_mmin o.1 o.2.1 (o3.trans h3.1.symm) o4 (o5 _ hw) (o5 _ (gw_inT (i := 679) (by decide +kernel) (by decide +kernel))) (o5 _ (gw_inT (i := 15) (by decide +kernel) (by decide +kernel))) (o5 _ (gw_inT (i := 680) (by decide +kernel) (by decide +kernel))) (by omega) (by omega) (Nat.zero_le _) (Nat.zero_le _) hd (kk H locs ar h1 h2 h3)
theorem g_mabs (o : cOk X bt own d) {i : Nat} {x : Int32} (hw : Cond.methodLink own i Lib.Math.abs.name ∈ gwl) (hd1 : 1 ≤ d) (hst : (st.map fun v => v.category).sum ≤ 8) (hd : decode bt pc = .ok (.invokestatic i, 3)) (kk : gW X 0 0 n K L M (pc + 3) ls (.int (if 0 ≤ x then x else 0 - x) :: st)) : gW X 0 0 n K L M pc ls (.int x :: st) := fun H locs ar h1 h2 h3 => by
  obtain ⟨-, -, o3, o4, o5, o6, o7, -, -, o10, o11⟩ := id o
  exact va_mabs o.1 o.2.1 (o3.trans h3.1.symm) o4 (o5 _ hw) (o5 _ (gw_inT (i := 901) (by decide +kernel) (by decide +kernel))) (o5 _ (gw_inT (i := 15) (by decide +kernel) (by decide +kernel))) (o5 _ (gw_inT (i := 902) (by decide +kernel) (by decide +kernel))) (by omega) (by omega) (Nat.zero_le _) (Nat.zero_le _) hd (kk H locs ar h1 h2 h3)
variable {y : MethodName} {b2 : ByteArray} {ml np i n' : Nat} {ret : Option FieldType} {K' L' : Nat → Nat} {M' : Mm} {rv : Option Value} {rest As : List Value}
theorem g_invV0 (o : cOk X bt own (d + 1)) {r : Option Nat} {a c : Nat} (hr : rc K r c = some a) (hc : c < 13) (hw : Cond.methodLink own i y ∈ gwl) (hb : kB y b2 ml ret np) (hv : kV y) (hy : y.cls = kC c) (hM : mC (cq X) (cD X) (cY X) (cB X) d y b2 ml ret (va_rf (some a) :: As) n K L M n' K' L' M' rv 0 0) (hn : As.length = np) (hs : st = As.reverse ++ va_rf r :: rest) (hst : (rest.map fun v => v.category).sum ≤ 8) (hd : decode bt pc = .ok (.invokevirtual i, 3)) (kk : gW X 0 0 n' K' L' M' (pc + 3) ls (rv.toList ++ rest)) : gW X 0 0 n K L M pc ls st := g_invV o hr hc hw hb hv hy hM hn hs hst ⟨Nat.zero_le _, Nat.zero_le _⟩ hd kk
theorem g_invVN0 (o : cOk X bt own (d + 1)) {r : Option Nat} {host : String} {a c : Nat} (hr : rc K r c = some a) (hc : c < 13) (hw : Cond.methodLinkNest own i y host ∈ nwl) (hb : kB y b2 ml ret np) (hv : kV y) (hy : y.cls = kC c) (hM : mC (cq X) (cD X) (cY X) (cB X) d y b2 ml ret (va_rf (some a) :: As) n K L M n' K' L' M' rv 0 0) (hn : As.length = np) (hs : st = As.reverse ++ va_rf r :: rest) (hst : (rest.map fun v => v.category).sum ≤ 8) (hd : decode bt pc = .ok (.invokevirtual i, 3)) (kk : gW X 0 0 n' K' L' M' (pc + 3) ls (rv.toList ++ rest)) : gW X 0 0 n K L M pc ls st := g_invVN o hr hc hw hb hv hy hM hn hs hst ⟨Nat.zero_le _, Nat.zero_le _⟩ hd kk
theorem g_invS0 (o : cOk X bt own (d + 1)) (hw : Cond.methodLink own i y ∈ gwl) (hb : kB y b2 ml ret np) (hv : Cond.static y ∈ gwl) (hM : mC (cq X) (cD X) (cY X) (cB X) d y b2 ml ret As n K L M n' K' L' M' rv 0 0) (hn : As.length = np) (hs : st = As.reverse ++ rest) (hst : (rest.map fun v => v.category).sum ≤ 8) (hd : decode bt pc = .ok (.invokestatic i, 3)) (kk : gW X 0 0 n' K' L' M' (pc + 3) ls (rv.toList ++ rest)) : gW X 0 0 n K L M pc ls st := g_invS o hw hb hv hM hn hs hst ⟨Nat.zero_le _, Nat.zero_le _⟩ hd kk
theorem g_invSN0 (o : cOk X bt own (d + 1)) {host : String} (hw : Cond.methodLinkNest own i y host ∈ nwl) (hb : kB y b2 ml ret np) (hv : Cond.static y ∈ gwl) (hM : mC (cq X) (cD X) (cY X) (cB X) d y b2 ml ret As n K L M n' K' L' M' rv 0 0) (hn : As.length = np) (hs : st = As.reverse ++ rest) (hst : (rest.map fun v => v.category).sum ≤ 8) (hd : decode bt pc = .ok (.invokestatic i, 3)) (kk : gW X 0 0 n' K' L' M' (pc + 3) ls (rv.toList ++ rest)) : gW X 0 0 n K L M pc ls st := g_invSN o hw hb hv hM hn hs hst ⟨Nat.zero_le _, Nat.zero_le _⟩ hd kk
end GZ
