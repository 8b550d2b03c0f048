/-! the classes by their numbers; fields, arrays, new cells over the memory -/
def kC (c : Nat) : String := match c with
  | 0 => RX0
  | 1 => RX1
  | 2 => RX2
  | 3 => RX3
  | 4 => RX4
  | 5 => RX5
  | 6 => RX6
  | 7 => RX7
  | 8 => RX8
  | 9 => RX9
  | 10 => RX10
  | 11 => RX11
  | _ => RX12
def kT (c : Nat) : u_T := match c with
  | 0 => TX0
  | 1 => TX1
  | 2 => TX2
  | 3 => TX3
  | 4 => TX4
  | 5 => TX5
  | 6 => TX6
  | 7 => TX7
  | 8 => TX8
  | 9 => TX9
  | 10 => TX10
  | 11 => TX11
  | _ => TX12
def kY (c : Nat) : Nat → FieldType := match c with
  | 0 => tyX0
  | 1 => tyX1
  | 2 => tyX2
  | 3 => tyX3
  | 4 => tyX4
  | 5 => tyX5
  | 6 => tyX6
  | 7 => tyX7
  | 8 => tyX8
  | 9 => tyX9
  | 10 => tyX10
  | 11 => tyX11
  | _ => tyX12
def kN (c : Nat) : Nat := match c with
  | 0 => 7
  | 1 => 8
  | 2 => 5
  | 3 => 3
  | 4 => 4
  | 5 => 4
  | 6 => 5
  | 7 => 2
  | 8 => 1
  | 9 => 13
  | 10 => 11
  | 11 => 6
  | _ => 25
theorem kl_at {c : Nat} (h : c < 13) : vwCl[c]? = some (kC c, kT c, kN c) := by
  rcases (show c = 0 ∨ c = 1 ∨ c = 2 ∨ c = 3 ∨ c = 4 ∨ c = 5 ∨ c = 6 ∨ c = 7 ∨ c = 8 ∨ c = 9 ∨ c = 10 ∨ c = 11 ∨ c = 12 by omega) with rfl | rfl | rfl | rfl | rfl | rfl | rfl | rfl | rfl | rfl | rfl | rfl | rfl <;> rfl
theorem kt_len {c : Nat} (h : c < 13) : (mm_T c).length = kN c := by
  rcases (show c = 0 ∨ c = 1 ∨ c = 2 ∨ c = 3 ∨ c = 4 ∨ c = 5 ∨ c = 6 ∨ c = 7 ∨ c = 8 ∨ c = 9 ∨ c = 10 ∨ c = 11 ∨ c = 12 by omega) with rfl | rfl | rfl | rfl | rfl | rfl | rfl | rfl | rfl | rfl | rfl | rfl | rfl <;> rfl
theorem ky_ok {c : Nat} (h : c < 13) : ∀ k, k < kN c → parseFieldDescriptor (kT c k).2.2.1 = some (kY c k) := by
  rcases (show c = 0 ∨ c = 1 ∨ c = 2 ∨ c = 3 ∨ c = 4 ∨ c = 5 ∨ c = 6 ∨ c = 7 ∨ c = 8 ∨ c = 9 ∨ c = 10 ∨ c = 11 ∨ c = 12 by omega) with rfl | rfl | rfl | rfl | rfl | rfl | rfl | rfl | rfl | rfl | rfl | rfl | rfl
  · exact tyX0_ok
  · exact tyX1_ok
  · exact tyX2_ok
  · exact tyX3_ok
  · exact tyX4_ok
  · exact tyX5_ok
  · exact tyX6_ok
  · exact tyX7_ok
  · exact tyX8_ok
  · exact tyX9_ok
  · exact tyX10_ok
  · exact tyX11_ok
  · exact tyX12_ok
theorem kn_ok {c : Nat} (h : c < 13) : ∀ a, a < kN c → ∀ b, b < kN c → a ≠ b → (kT c a).2.1 ≠ (kT c b).2.1 := by
  rcases (show c = 0 ∨ c = 1 ∨ c = 2 ∨ c = 3 ∨ c = 4 ∨ c = 5 ∨ c = 6 ∨ c = 7 ∨ c = 8 ∨ c = 9 ∨ c = 10 ∨ c = 11 ∨ c = 12 by omega) with rfl | rfl | rfl | rfl | rfl | rfl | rfl | rfl | rfl | rfl | rfl | rfl | rfl
  · exact nmX0
  · exact nmX1
  · exact nmX2
  · exact nmX3
  · exact nmX4
  · exact nmX5
  · exact nmX6
  · exact nmX7
  · exact nmX8
  · exact nmX9
  · exact nmX10
  · exact nmX11
  · exact nmX12
theorem gw_in {w : Cond} {i : Nat} (h : lw_tbl[i]? = some w) (hg : goodWord w = true) : w ∈ gwl := List.mem_filter.mpr ⟨List.mem_of_getElem? h, hg⟩
theorem gw_inT {w : Cond} {i : Nat} (h : tables_1[i]? = some w) (hg : goodWord w = true) : w ∈ gwl := List.mem_filter.mpr ⟨List.mem_append_right _ (List.mem_of_getElem? h), hg⟩
theorem kw_0 : ∀ w ∈ u_ws RX0 TX0 7, w ∈ gwl := by
  intro w h
  obtain ⟨k, hk, rfl⟩ := List.mem_map.mp h
  have hk := List.mem_range.mp hk
  rcases (show k = 0 ∨ k = 1 ∨ k = 2 ∨ k = 3 ∨ k = 4 ∨ k = 5 ∨ k = 6 by omega) with rfl | rfl | rfl | rfl | rfl | rfl | rfl
  · exact gw_inT (i := 344) (by decide +kernel) (by decide +kernel)
  · exact gw_inT (i := 346) (by decide +kernel) (by decide +kernel)
  · exact gw_inT (i := 348) (by decide +kernel) (by decide +kernel)
  · exact gw_inT (i := 350) (by decide +kernel) (by decide +kernel)
  · exact gw_inT (i := 352) (by decide +kernel) (by decide +kernel)
  · exact gw_inT (i := 354) (by decide +kernel) (by decide +kernel)
  · exact gw_inT (i := 356) (by decide +kernel) (by decide +kernel)
theorem kw_1 : ∀ w ∈ u_ws RX1 TX1 8, w ∈ gwl := by
  intro w h
  obtain ⟨k, hk, rfl⟩ := List.mem_map.mp h
  have hk := List.mem_range.mp hk
  rcases (show k = 0 ∨ k = 1 ∨ k = 2 ∨ k = 3 ∨ k = 4 ∨ k = 5 ∨ k = 6 ∨ k = 7 by omega) with rfl | rfl | rfl | rfl | rfl | rfl | rfl | rfl
  · exact gw_inT (i := 75) (by decide +kernel) (by decide +kernel)
  · exact gw_inT (i := 77) (by decide +kernel) (by decide +kernel)
  · exact gw_inT (i := 79) (by decide +kernel) (by decide +kernel)
  · exact gw_inT (i := 81) (by decide +kernel) (by decide +kernel)
  · exact gw_inT (i := 83) (by decide +kernel) (by decide +kernel)
  · exact gw_inT (i := 85) (by decide +kernel) (by decide +kernel)
  · exact gw_inT (i := 87) (by decide +kernel) (by decide +kernel)
  · exact gw_inT (i := 89) (by decide +kernel) (by decide +kernel)
theorem kw_2 : ∀ w ∈ u_ws RX2 TX2 5, w ∈ gwl := by
  intro w h
  obtain ⟨k, hk, rfl⟩ := List.mem_map.mp h
  have hk := List.mem_range.mp hk
  rcases (show k = 0 ∨ k = 1 ∨ k = 2 ∨ k = 3 ∨ k = 4 by omega) with rfl | rfl | rfl | rfl | rfl
  · exact gw_inT (i := 421) (by decide +kernel) (by decide +kernel)
  · exact gw_inT (i := 423) (by decide +kernel) (by decide +kernel)
  · exact gw_inT (i := 425) (by decide +kernel) (by decide +kernel)
  · exact gw_inT (i := 427) (by decide +kernel) (by decide +kernel)
  · exact gw_inT (i := 429) (by decide +kernel) (by decide +kernel)
theorem kw_3 : ∀ w ∈ u_ws RX3 TX3 3, w ∈ gwl := by
  intro w h
  obtain ⟨k, hk, rfl⟩ := List.mem_map.mp h
  have hk := List.mem_range.mp hk
  rcases (show k = 0 ∨ k = 1 ∨ k = 2 by omega) with rfl | rfl | rfl
  · exact gw_inT (i := 319) (by decide +kernel) (by decide +kernel)
  · exact gw_inT (i := 321) (by decide +kernel) (by decide +kernel)
  · exact gw_inT (i := 323) (by decide +kernel) (by decide +kernel)
theorem kw_4 : ∀ w ∈ u_ws RX4 TX4 4, w ∈ gwl := by
  intro w h
  obtain ⟨k, hk, rfl⟩ := List.mem_map.mp h
  have hk := List.mem_range.mp hk
  rcases (show k = 0 ∨ k = 1 ∨ k = 2 ∨ k = 3 by omega) with rfl | rfl | rfl | rfl
  · exact gw_inT (i := 47) (by decide +kernel) (by decide +kernel)
  · exact gw_inT (i := 49) (by decide +kernel) (by decide +kernel)
  · exact gw_inT (i := 51) (by decide +kernel) (by decide +kernel)
  · exact gw_inT (i := 53) (by decide +kernel) (by decide +kernel)
theorem kw_5 : ∀ w ∈ u_ws RX5 TX5 4, w ∈ gwl := by
  intro w h
  obtain ⟨k, hk, rfl⟩ := List.mem_map.mp h
  have hk := List.mem_range.mp hk
  rcases (show k = 0 ∨ k = 1 ∨ k = 2 ∨ k = 3 by omega) with rfl | rfl | rfl | rfl
  · exact gw_inT (i := 103) (by decide +kernel) (by decide +kernel)
  · exact gw_inT (i := 105) (by decide +kernel) (by decide +kernel)
  · exact gw_inT (i := 107) (by decide +kernel) (by decide +kernel)
  · exact gw_inT (i := 109) (by decide +kernel) (by decide +kernel)
theorem kw_6 : ∀ w ∈ u_ws RX6 TX6 5, w ∈ gwl := by
  intro w h
  obtain ⟨k, hk, rfl⟩ := List.mem_map.mp h
  have hk := List.mem_range.mp hk
  rcases (show k = 0 ∨ k = 1 ∨ k = 2 ∨ k = 3 ∨ k = 4 by omega) with rfl | rfl | rfl | rfl | rfl
  · exact gw_inT (i := 283) (by decide +kernel) (by decide +kernel)
  · exact gw_inT (i := 285) (by decide +kernel) (by decide +kernel)
  · exact gw_inT (i := 287) (by decide +kernel) (by decide +kernel)
  · exact gw_inT (i := 289) (by decide +kernel) (by decide +kernel)
  · exact gw_inT (i := 291) (by decide +kernel) (by decide +kernel)
theorem kw_7 : ∀ w ∈ u_ws RX7 TX7 2, w ∈ gwl := by
  intro w h
  obtain ⟨k, hk, rfl⟩ := List.mem_map.mp h
  have hk := List.mem_range.mp hk
  rcases (show k = 0 ∨ k = 1 by omega) with rfl | rfl
  · exact gw_inT (i := 302) (by decide +kernel) (by decide +kernel)
  · exact gw_inT (i := 304) (by decide +kernel) (by decide +kernel)
theorem kw_8 : ∀ w ∈ u_ws RX8 TX8 1, w ∈ gwl := by
  intro w h
  obtain ⟨k, hk, rfl⟩ := List.mem_map.mp h
  have hk := List.mem_range.mp hk
  rcases (show k = 0 by omega) with rfl
  · exact gw_inT (i := 57) (by decide +kernel) (by decide +kernel)
theorem kw_9 : ∀ w ∈ u_ws RX9 TX9 13, w ∈ gwl := by
  intro w h
  obtain ⟨k, hk, rfl⟩ := List.mem_map.mp h
  have hk := List.mem_range.mp hk
  rcases (show k = 0 ∨ k = 1 ∨ k = 2 ∨ k = 3 ∨ k = 4 ∨ k = 5 ∨ k = 6 ∨ k = 7 ∨ k = 8 ∨ k = 9 ∨ k = 10 ∨ k = 11 ∨ k = 12 by omega) with rfl | rfl | rfl | rfl | rfl | rfl | rfl | rfl | rfl | rfl | rfl | rfl | rfl
  · exact gw_inT (i := 463) (by decide +kernel) (by decide +kernel)
  · exact gw_inT (i := 465) (by decide +kernel) (by decide +kernel)
  · exact gw_inT (i := 467) (by decide +kernel) (by decide +kernel)
  · exact gw_inT (i := 469) (by decide +kernel) (by decide +kernel)
  · exact gw_inT (i := 471) (by decide +kernel) (by decide +kernel)
  · exact gw_inT (i := 473) (by decide +kernel) (by decide +kernel)
  · exact gw_inT (i := 475) (by decide +kernel) (by decide +kernel)
  · exact gw_inT (i := 477) (by decide +kernel) (by decide +kernel)
  · exact gw_inT (i := 479) (by decide +kernel) (by decide +kernel)
  · exact gw_inT (i := 481) (by decide +kernel) (by decide +kernel)
  · exact gw_inT (i := 483) (by decide +kernel) (by decide +kernel)
  · exact gw_inT (i := 485) (by decide +kernel) (by decide +kernel)
  · exact gw_inT (i := 487) (by decide +kernel) (by decide +kernel)
theorem kw_10 : ∀ w ∈ u_ws RX10 TX10 11, w ∈ gwl := by
  intro w h
  obtain ⟨k, hk, rfl⟩ := List.mem_map.mp h
  have hk := List.mem_range.mp hk
  rcases (show k = 0 ∨ k = 1 ∨ k = 2 ∨ k = 3 ∨ k = 4 ∨ k = 5 ∨ k = 6 ∨ k = 7 ∨ k = 8 ∨ k = 9 ∨ k = 10 by omega) with rfl | rfl | rfl | rfl | rfl | rfl | rfl | rfl | rfl | rfl | rfl
  · exact gw_inT (i := 385) (by decide +kernel) (by decide +kernel)
  · exact gw_inT (i := 387) (by decide +kernel) (by decide +kernel)
  · exact gw_inT (i := 389) (by decide +kernel) (by decide +kernel)
  · exact gw_inT (i := 391) (by decide +kernel) (by decide +kernel)
  · exact gw_inT (i := 393) (by decide +kernel) (by decide +kernel)
  · exact gw_inT (i := 395) (by decide +kernel) (by decide +kernel)
  · exact gw_inT (i := 397) (by decide +kernel) (by decide +kernel)
  · exact gw_inT (i := 399) (by decide +kernel) (by decide +kernel)
  · exact gw_inT (i := 401) (by decide +kernel) (by decide +kernel)
  · exact gw_inT (i := 403) (by decide +kernel) (by decide +kernel)
  · exact gw_inT (i := 405) (by decide +kernel) (by decide +kernel)
theorem kw_11 : ∀ w ∈ u_ws RX11 TX11 6, w ∈ gwl := by
  intro w h
  obtain ⟨k, hk, rfl⟩ := List.mem_map.mp h
  have hk := List.mem_range.mp hk
  rcases (show k = 0 ∨ k = 1 ∨ k = 2 ∨ k = 3 ∨ k = 4 ∨ k = 5 by omega) with rfl | rfl | rfl | rfl | rfl | rfl
  · exact gw_inT (i := 118) (by decide +kernel) (by decide +kernel)
  · exact gw_inT (i := 120) (by decide +kernel) (by decide +kernel)
  · exact gw_inT (i := 122) (by decide +kernel) (by decide +kernel)
  · exact gw_inT (i := 124) (by decide +kernel) (by decide +kernel)
  · exact gw_inT (i := 126) (by decide +kernel) (by decide +kernel)
  · exact gw_inT (i := 128) (by decide +kernel) (by decide +kernel)
theorem kw_12 : ∀ w ∈ u_ws RX12 TX12 25, w ∈ gwl := by
  intro w h
  obtain ⟨k, hk, rfl⟩ := List.mem_map.mp h
  have hk := List.mem_range.mp hk
  rcases (show k = 0 ∨ k = 1 ∨ k = 2 ∨ k = 3 ∨ k = 4 ∨ k = 5 ∨ k = 6 ∨ k = 7 ∨ k = 8 ∨ k = 9 ∨ k = 10 ∨ k = 11 ∨ k = 12 ∨ k = 13 ∨ k = 14 ∨ k = 15 ∨ k = 16 ∨ k = 17 ∨ k = 18 ∨ k = 19 ∨ k = 20 ∨ k = 21 ∨ k = 22 ∨ k = 23 ∨ k = 24 by omega) with rfl | rfl | rfl | rfl | rfl | rfl | rfl | rfl | rfl | rfl | rfl | rfl | rfl | rfl | rfl | rfl | rfl | rfl | rfl | rfl | rfl | rfl | rfl | rfl | rfl
  · exact gw_inT (i := 1029) (by decide +kernel) (by decide +kernel)
  · exact gw_inT (i := 1031) (by decide +kernel) (by decide +kernel)
  · exact gw_inT (i := 1033) (by decide +kernel) (by decide +kernel)
  · exact gw_inT (i := 1035) (by decide +kernel) (by decide +kernel)
  · exact gw_inT (i := 1037) (by decide +kernel) (by decide +kernel)
  · exact gw_inT (i := 1039) (by decide +kernel) (by decide +kernel)
  · exact gw_inT (i := 1041) (by decide +kernel) (by decide +kernel)
  · exact gw_inT (i := 1043) (by decide +kernel) (by decide +kernel)
  · exact gw_inT (i := 1045) (by decide +kernel) (by decide +kernel)
  · exact gw_inT (i := 1047) (by decide +kernel) (by decide +kernel)
  · exact gw_inT (i := 1049) (by decide +kernel) (by decide +kernel)
  · exact gw_inT (i := 1051) (by decide +kernel) (by decide +kernel)
  · exact gw_inT (i := 1053) (by decide +kernel) (by decide +kernel)
  · exact gw_inT (i := 1055) (by decide +kernel) (by decide +kernel)
  · exact gw_inT (i := 1057) (by decide +kernel) (by decide +kernel)
  · exact gw_inT (i := 1059) (by decide +kernel) (by decide +kernel)
  · exact gw_inT (i := 1061) (by decide +kernel) (by decide +kernel)
  · exact gw_inT (i := 1063) (by decide +kernel) (by decide +kernel)
  · exact gw_inT (i := 1065) (by decide +kernel) (by decide +kernel)
  · exact gw_inT (i := 1067) (by decide +kernel) (by decide +kernel)
  · exact gw_inT (i := 1069) (by decide +kernel) (by decide +kernel)
  · exact gw_inT (i := 1071) (by decide +kernel) (by decide +kernel)
  · exact gw_inT (i := 1073) (by decide +kernel) (by decide +kernel)
  · exact gw_inT (i := 1075) (by decide +kernel) (by decide +kernel)
  · exact gw_inT (i := 1077) (by decide +kernel) (by decide +kernel)
theorem kw_in {c : Nat} (h : c < 13) : ∀ w ∈ u_ws (kC c) (kT c) (kN c), w ∈ gwl := by
  rcases (show c = 0 ∨ c = 1 ∨ c = 2 ∨ c = 3 ∨ c = 4 ∨ c = 5 ∨ c = 6 ∨ c = 7 ∨ c = 8 ∨ c = 9 ∨ c = 10 ∨ c = 11 ∨ c = 12 by omega) with rfl | rfl | rfl | rfl | rfl | rfl | rfl | rfl | rfl | rfl | rfl | rfl | rfl
  · exact kw_0
  · exact kw_1
  · exact kw_2
  · exact kw_3
  · exact kw_4
  · exact kw_5
  · exact kw_6
  · exact kw_7
  · exact kw_8
  · exact kw_9
  · exact kw_10
  · exact kw_11
  · exact kw_12
def rc (K : Nat → Nat) (r : Option Nat) (c : Nat) : Option Nat := match r with
  | none => none
  | some a => if K a = c then some a else none
def rx (K L : Nat → Nat) (r : Option Nat) (c : Nat) (i : Int32) : Option Nat := match r with
  | none => none
  | some a => if K a = c ∧ ¬ (i < 0 ∨ L a ≤ i.toNatClampNeg) then some a else none
theorem rc_at {K : Nat → Nat} {r : Option Nat} {c a : Nat} (h : rc K r c = some a) : r = some a ∧ K a = c := by
  cases r with
  | none => cases h
  | some b =>
    simp only [rc] at h
    split at h
    · cases h
      exact ⟨rfl, by assumption⟩
    · cases h
theorem rx_at {K L : Nat → Nat} {r : Option Nat} {c a : Nat} {i : Int32} (h : rx K L r c i = some a) : r = some a ∧ K a = c ∧ vp_in i (L a) := by
  cases r with
  | none => cases h
  | some b =>
    simp only [rx] at h
    split at h
    · cases h
      rename_i h1
      exact ⟨rfl, h1.1, h1.2⟩
    · cases h
theorem ob {α β : Type} {x : Option α} {f : α → Option β} {r : β} (h : Option.bind x f = some r) : ∃ a, x = some a ∧ f a = some r := by
  cases x with
  | none => cases h
  | some a => exact ⟨a, rfl, h⟩
theorem va_S_sz {A : Nat → Prop} {H0 H : Heap} {locs : List Loc} (h : va_S A H0 H locs) : H0.size ≤ H.size := h.1
section GH
variable {X : Cx} {bt : ByteArray} {own : String} {d k1 k2 n : Nat} {K L : Nat → Nat} {M : Mm} {pc : Nat} {ls : List (Nat × Value)} {st : List Value}
abbrev kLink (own : String) (i c k : Nat) : Cond := .fieldLink own i (kT c k).1 (kT c k).2.1 (kT c k).2.2.1
theorem g_get (o : cOk X bt own d) {a c k t i : Nat} (hw : kLink own i c k ∈ gwl) (hK : K a = c) (hc : c < 13) (ht : (mm_T c)[k]? = some t) (hd : decode bt pc = .ok (.getfield i, 3)) (kk : gW X k1 k2 n K L M (pc + 3) ls (mm_V M t (32 * c + k) a :: st)) : gW X k1 k2 n K L M pc ls (.ref a :: st) := fun H locs ar h1 h2 h3 => by
  obtain ⟨q, hq⟩ := mw_at h1 (a := a) (by omega)
  rw [mm_E_o hK hc] at hq
  exact va_get o.1 o.2.1 o.2.2.2.2.1 (kw_in hc) o.2.2.2.1 o.2.2.2.2.2.1 h1.2.2 q hq (kl_at hc) k (by have := (List.getElem?_eq_some_iff.mp ht).1; rw [kt_len hc] at this; exact this) (o.2.2.2.2.1 _ hw) (fun _ h => h) (mm_F_at ht) hd (kk H locs ar h1 h2 h3)
theorem g_getI (o : cOk X bt own d) {r : Option Nat} {a c k i : Nat} (hw : kLink own i c k ∈ gwl) (hr : rc K r c = some a) (hc : c < 13) (ht : (mm_T c)[k]? = some 0) (hd : decode bt pc = .ok (.getfield i, 3)) (kk : gW X k1 k2 n K L M (pc + 3) ls (.int (mm_I M (32 * c + k) a) :: st)) : gW X k1 k2 n K L M pc ls (va_rf r :: st) := by
  obtain ⟨rfl, hk⟩ := rc_at hr
  exact g_get o hw hk hc ht hd kk
theorem g_getJ (o : cOk X bt own d) {r : Option Nat} {a c k i : Nat} (hw : kLink own i c k ∈ gwl) (hr : rc K r c = some a) (hc : c < 13) (ht : (mm_T c)[k]? = some 1) (hd : decode bt pc = .ok (.getfield i, 3)) (kk : gW X k1 k2 n K L M (pc + 3) ls (.long (mm_J M (32 * c + k) a) :: st)) : gW X k1 k2 n K L M pc ls (va_rf r :: st) := by
  obtain ⟨rfl, hk⟩ := rc_at hr
  exact g_get o hw hk hc ht hd kk
theorem g_getR (o : cOk X bt own d) {r : Option Nat} {a c k i : Nat} (hw : kLink own i c k ∈ gwl) (hr : rc K r c = some a) (hc : c < 13) (ht : (mm_T c)[k]? = some 2) (hd : decode bt pc = .ok (.getfield i, 3)) (kk : gW X k1 k2 n K L M (pc + 3) ls (va_rf (mm_R M (32 * c + k) a) :: st)) : gW X k1 k2 n K L M pc ls (va_rf r :: st) := by
  obtain ⟨rfl, hk⟩ := rc_at hr
  exact g_get o hw hk hc ht hd kk
theorem g_sz {H H1 : Heap} {locs : List Loc} {T : State} (hz : (cs X).heap.size + k1 = cB X + n) (h1 : mm_H (cD X) (cY X) (cB X) n K L M H) (hs : va_S (fun q => cB X ≤ q) H H1 locs) (hT : T.heap = H1) (Z : Stand (cp X) (cq X) (ce X) (cR X) (cs X) (cm X) (ca X) (cb X) (ch X) (cc' X) T locs k1 k2) : H1.size = H.size := by
  have e1 := Z.heapSize
  rw [hT] at e1
  have e2 := hs.1
  have e3 := h1.1
  omega
theorem g_back {H H1 : Heap} {locs locs1 : List Loc} (h2 : va_S (fun q => cB X ≤ q) (cs X).heap H locs) (h4 : va_S (fun q => cB X ≤ q) H H1 locs1) : va_S (fun q => cB X ≤ q) (cs X).heap H1 locs1 := ⟨Nat.le_trans h2.1 h4.1, fun q a b => (h4.2.1 q (Nat.lt_of_lt_of_le a h2.1) b).trans (h2.2.1 q a b), h4.2.2⟩
theorem g_put (o : cOk X bt own d) (hz : (cs X).heap.size + k1 = cB X + n) {M' : Mm} {v : Value} {a c k i : Nat} (hw : kLink own i c k ∈ gwl) (hK : K a = c) (hc : c < 13) (hk : k < (mm_T c).length) (hfin : (kT c k).2.2.2 = false) (hn : narrow (kY c k) v = v) (hf : fits (kY c k) v = true) (he : va_up (mm_E (cY X) K L M) a (.inr (c, (mm_F M c a).set k v)) = mm_E (cY X) K L M') (hd : decode bt pc = .ok (.putfield i, 3)) (kk : gW X k1 k2 n K L M' (pc + 3) ls st) : gW X k1 k2 n K L M pc ls (v :: .ref a :: st) := fun H locs ar h1 h2 h3 => by
  obtain ⟨q, hq⟩ := mw_at h1 (a := a) (by omega)
  have hq0 := hq
  rw [mm_E_o hK hc] at hq
  have hkN : k < kN c := by rw [← kt_len hc]; exact hk
  have hA : va_S (fun q => cB X ≤ q) H H locs := ⟨Nat.le_refl _, fun _ _ _ => rfl, h2.2.2⟩
  exact va_put o.1 o.2.1 o.2.2.2.2.1 (kw_in hc) (kY c) (ky_ok hc) (kn_ok hc) o.2.2.2.1 o.2.2.2.2.2.1 h1.2.2 (mw_D _ _ _) hA q hq (kl_at hc) k hkN (o.2.2.2.2.1 _ hw) (fun _ h => h) hfin (ky_ok hc k hkN) hn hf (by rw [mm_F, List.length_mapIdx]; exact hk) hd (fun H1 locs1 p1 p2 p3 T hT Z => kk H1 locs1 ar (mw_set h1 (by omega) hq0 he (g_sz hz h1 p3 hT Z) p1) (g_back h2 p3) h3 T hT Z)
theorem g_putF (o : cOk X bt own d) (hz : (cs X).heap.size + k1 = cB X + n) (hin : (ch X).name = "<init>") {M' : Mm} {v : Value} {a c k i : Nat} (hw : kLink own i c k ∈ gwl) (hK : K a = c) (hc : c < 13) (hk : k < (mm_T c).length) (hfin : (kT c k).2.2.2 = true) (hdc : (kT c k).1 = own) (hn : narrow (kY c k) v = v) (hf : fits (kY c k) v = true) (he : va_up (mm_E (cY X) K L M) a (.inr (c, (mm_F M c a).set k v)) = mm_E (cY X) K L M') (hd : decode bt pc = .ok (.putfield i, 3)) (kk : gW X k1 k2 n K L M' (pc + 3) ls st) : gW X k1 k2 n K L M pc ls (v :: .ref a :: st) := fun H locs ar h1 h2 h3 => by
  obtain ⟨q, hq⟩ := mw_at h1 (a := a) (by omega)
  have hq0 := hq
  rw [mm_E_o hK hc] at hq
  have hkN : k < kN c := by rw [← kt_len hc]; exact hk
  have hA : va_S (fun q => cB X ≤ q) H H locs := ⟨Nat.le_refl _, fun _ _ _ => rfl, h2.2.2⟩
  exact va_putF o.1 o.2.1 o.2.2.2.2.1 (kw_in hc) (kY c) (ky_ok hc) (kn_ok hc) o.2.2.2.1 o.2.2.2.2.2.1 h1.2.2 (mw_D _ _ _) hA q hq (kl_at hc) k hkN (o.2.2.2.2.1 _ hw) (fun _ h => h) hfin hin hdc (ky_ok hc k hkN) hn hf (by rw [mm_F, List.length_mapIdx]; exact hk) hd (fun H1 locs1 p1 p2 p3 T hT Z => kk H1 locs1 ar (mw_set h1 (by omega) hq0 he (g_sz hz h1 p3 hT Z) p1) (g_back h2 p3) h3 T hT Z)
theorem kfit_r {ty : FieldType} (h : refKind ty = true) (r : Option Nat) : narrow ty (va_rf r) = va_rf r ∧ fits ty (va_rf r) = true := by
  cases ty <;> first | (exact absurd h (by decide)) | (cases r <;> exact ⟨rfl, rfl⟩)
theorem g_putI (o : cOk X bt own d) (hz : (cs X).heap.size + k1 = cB X + n) {r : Option Nat} {v : Int32} {a c k i : Nat} (hw : kLink own i c k ∈ gwl) (hr : rc K r c = some a) (hc : c < 13) (ht : (mm_T c)[k]? = some 0) (hfin : (kT c k).2.2.2 = false) (hy : kY c k = .int) (hd : decode bt pc = .ok (.putfield i, 3)) (kk : gW X k1 k2 n K L (ms_I M (32 * c + k) a v) (pc + 3) ls st) : gW X k1 k2 n K L M pc ls (.int v :: va_rf r :: st) := by
  obtain ⟨rfl, hk⟩ := rc_at hr
  exact g_put o hz hw hk hc (List.getElem?_eq_some_iff.mp ht).1 hfin (by rw [hy]; rfl) (by rw [hy]; rfl) (me_setI v hk hc ht) hd kk
theorem g_putZ (o : cOk X bt own d) (hz : (cs X).heap.size + k1 = cB X + n) {r : Option Nat} {v : Int32} {a c k i : Nat} (hw : kLink own i c k ∈ gwl) (hr : rc K r c = some a) (hc : c < 13) (ht : (mm_T c)[k]? = some 0) (hfin : (kT c k).2.2.2 = false) (hy : kY c k = .boolean) (hv : v = 0 ∨ v = 1) (hd : decode bt pc = .ok (.putfield i, 3)) (kk : gW X k1 k2 n K L (ms_I M (32 * c + k) a v) (pc + 3) ls st) : gW X k1 k2 n K L M pc ls (.int v :: va_rf r :: st) := by
  obtain ⟨rfl, hk⟩ := rc_at hr
  exact g_put o hz hw hk hc (List.getElem?_eq_some_iff.mp ht).1 hfin (by rw [hy]; rcases hv with rfl | rfl <;> decide) (by rw [hy]; rcases hv with rfl | rfl <;> decide) (me_setI v hk hc ht) hd kk
theorem g_putJ (o : cOk X bt own d) (hz : (cs X).heap.size + k1 = cB X + n) {r : Option Nat} {v : Int64} {a c k i : Nat} (hw : kLink own i c k ∈ gwl) (hr : rc K r c = some a) (hc : c < 13) (ht : (mm_T c)[k]? = some 1) (hfin : (kT c k).2.2.2 = false) (hy : kY c k = .long) (hd : decode bt pc = .ok (.putfield i, 3)) (kk : gW X k1 k2 n K L (ms_J M (32 * c + k) a v) (pc + 3) ls st) : gW X k1 k2 n K L M pc ls (.long v :: va_rf r :: st) := by
  obtain ⟨rfl, hk⟩ := rc_at hr
  exact g_put o hz hw hk hc (List.getElem?_eq_some_iff.mp ht).1 hfin (by rw [hy]; rfl) (by rw [hy]; rfl) (me_setJ v hk hc ht) hd kk
theorem g_putR (o : cOk X bt own d) (hz : (cs X).heap.size + k1 = cB X + n) {r v : Option Nat} {a c k i : Nat} (hw : kLink own i c k ∈ gwl) (hr : rc K r c = some a) (hc : c < 13) (ht : (mm_T c)[k]? = some 2) (hfin : (kT c k).2.2.2 = false) (hy : refKind (kY c k) = true) (hd : decode bt pc = .ok (.putfield i, 3)) (kk : gW X k1 k2 n K L (ms_R M (32 * c + k) a v) (pc + 3) ls st) : gW X k1 k2 n K L M pc ls (va_rf v :: va_rf r :: st) := by
  obtain ⟨rfl, hk⟩ := rc_at hr
  exact g_put o hz hw hk hc (List.getElem?_eq_some_iff.mp ht).1 hfin (kfit_r hy v).1 (kfit_r hy v).2 (me_setR v hk hc ht) hd kk
theorem g_putFR (o : cOk X bt own d) (hz : (cs X).heap.size + k1 = cB X + n) (hin : (ch X).name = "<init>") {r v : Option Nat} {a c k i : Nat} (hw : kLink own i c k ∈ gwl) (hr : rc K r c = some a) (hc : c < 13) (ht : (mm_T c)[k]? = some 2) (hfin : (kT c k).2.2.2 = true) (hdc : (kT c k).1 = own) (hy : refKind (kY c k) = true) (hd : decode bt pc = .ok (.putfield i, 3)) (kk : gW X k1 k2 n K L (ms_R M (32 * c + k) a v) (pc + 3) ls st) : gW X k1 k2 n K L M pc ls (va_rf v :: va_rf r :: st) := by
  obtain ⟨rfl, hk⟩ := rc_at hr
  exact g_putF o hz hin hw hk hc (List.getElem?_eq_some_iff.mp ht).1 hfin hdc (kfit_r hy v).1 (kfit_r hy v).2 (me_setR v hk hc ht) hd kk
theorem g_iald (o : cOk X bt own d) {r : Option Nat} {a : Nat} {i : Int32} (hr : rx K L r 13 i = some a) (hd : decode bt pc = .ok (.iaload, 1)) (kk : gW X k1 k2 n K L M (pc + 1) ls (.int (mm_A M a i.toNatClampNeg) :: st)) : gW X k1 k2 n K L M pc ls (.int i :: va_rf r :: st) := fun H locs ar h1 h2 h3 => by
  obtain ⟨rfl, hK, hi⟩ := rx_at hr
  obtain ⟨q, hq⟩ := mw_at h1 (a := a) (by omega)
  rw [mm_E_i hK] at hq
  exact va_iald o.1 o.2.1 o.2.2.2.2.2.1 h1.2.2 q 0 hq rfl hi hd (kk H locs ar h1 h2 h3)
theorem g_zald (o : cOk X bt own d) {r : Option Nat} {a : Nat} {i : Int32} (hr : rx K L r 15 i = some a) (hd : decode bt pc = .ok (.baload, 1)) (kk : gW X k1 k2 n K L M (pc + 1) ls (.int (mm_A M a i.toNatClampNeg) :: st)) : gW X k1 k2 n K L M pc ls (.int i :: va_rf r :: st) := fun H locs ar h1 h2 h3 => by
  obtain ⟨rfl, hK, hi⟩ := rx_at hr
  obtain ⟨q, hq⟩ := mw_at h1 (a := a) (by omega)
  rw [mm_E_z hK] at hq
  exact va_zald o.1 o.2.1 o.2.2.2.2.2.1 h1.2.2 q 2 hq rfl hi hd (kk H locs ar h1 h2 h3)
theorem g_lald (o : cOk X bt own d) {r : Option Nat} {a : Nat} {i : Int32} (hr : rx K L r 14 i = some a) (hd : decode bt pc = .ok (.laload, 1)) (kk : gW X k1 k2 n K L M (pc + 1) ls (.long (mm_B M a i.toNatClampNeg) :: st)) : gW X k1 k2 n K L M pc ls (.int i :: va_rf r :: st) := fun H locs ar h1 h2 h3 => by
  obtain ⟨rfl, hK, hi⟩ := rx_at hr
  obtain ⟨q, hq⟩ := mw_at h1 (a := a) (by omega)
  rw [mm_E_l hK] at hq
  exact va_lald o.1 o.2.1 o.2.2.2.2.2.1 h1.2.2 q 1 hq rfl hi hd (kk H locs ar h1 h2 h3)
theorem g_aald (o : cOk X bt own d) {r : Option Nat} {a k : Nat} {i : Int32} (hk : k = 16 ∨ k = 17) (hr : rx K L r k i = some a) (hd : decode bt pc = .ok (.aaload, 1)) (kk : gW X k1 k2 n K L M (pc + 1) ls (va_rf (mm_C M a i.toNatClampNeg) :: st)) : gW X k1 k2 n K L M pc ls (.int i :: va_rf r :: st) := fun H locs ar h1 h2 h3 => by
  obtain ⟨rfl, hK, hi⟩ := rx_at hr
  obtain ⟨q, hq⟩ := mw_at h1 (a := a) (by omega)
  rcases hk with rfl | rfl
  · rw [mm_E_r hK (by decide)] at hq
    exact va_aldq o.1 o.2.1 o.2.2.2.2.2.1 h1.2.2 q 3 hq rfl hi hd (kk H locs ar h1 h2 h3)
  · rw [mm_E_r hK (by decide)] at hq
    exact va_aldq o.1 o.2.1 o.2.2.2.2.2.1 h1.2.2 q 4 hq rfl hi hd (kk H locs ar h1 h2 h3)
theorem g_iast (o : cOk X bt own d) (hz : (cs X).heap.size + k1 = cB X + n) {r : Option Nat} {a : Nat} {i v : Int32} (hr : rx K L r 13 i = some a) (hd : decode bt pc = .ok (.iastore, 1)) (kk : gW X k1 k2 n K L (ms_A M a (upd (mm_A M a) i.toNatClampNeg v)) (pc + 1) ls st) : gW X k1 k2 n K L M pc ls (.int v :: .int i :: va_rf r :: st) := fun H locs ar h1 h2 h3 => by
  obtain ⟨rfl, hK, hi⟩ := rx_at hr
  obtain ⟨q, hq⟩ := mw_at h1 (a := a) (by omega)
  have hq0 := hq
  rw [mm_E_i hK] at hq
  have hA : va_S (fun q => cB X ≤ q) H H locs := ⟨Nat.le_refl _, fun _ _ _ => rfl, h2.2.2⟩
  exact va_iast o.1 o.2.1 o.2.2.2.2.2.1 h1.2.2 (mw_D _ _ _) hA q 0 hq rfl hi hd (fun H1 locs1 p1 p2 p3 T hT Z => kk H1 locs1 ar (mw_set h1 (by omega) hq0 (me_setA _ hK (Or.inl rfl)) (g_sz hz h1 p3 hT Z) p1) (g_back h2 p3) h3 T hT Z)
theorem g_zast (o : cOk X bt own d) (hz : (cs X).heap.size + k1 = cB X + n) {r : Option Nat} {a : Nat} {i v : Int32} (hr : rx K L r 15 i = some a) (hv : v = 0 ∨ v = 1) (hd : decode bt pc = .ok (.bastore, 1)) (kk : gW X k1 k2 n K L (ms_A M a (upd (mm_A M a) i.toNatClampNeg v)) (pc + 1) ls st) : gW X k1 k2 n K L M pc ls (.int v :: .int i :: va_rf r :: st) := fun H locs ar h1 h2 h3 => by
  obtain ⟨rfl, hK, hi⟩ := rx_at hr
  obtain ⟨q, hq⟩ := mw_at h1 (a := a) (by omega)
  have hq0 := hq
  rw [mm_E_z hK] at hq
  have hA : va_S (fun q => cB X ≤ q) H H locs := ⟨Nat.le_refl _, fun _ _ _ => rfl, h2.2.2⟩
  have hv' : vp_nar .boolean v = v := by rcases hv with rfl | rfl <;> decide
  exact va_zast o.1 o.2.1 o.2.2.2.2.2.1 h1.2.2 (mw_D _ _ _) hA q 2 hq rfl hi hd (fun H1 locs1 p1 p2 p3 T hT Z => kk H1 locs1 ar (mw_set h1 (by omega) hq0 (by rw [hv']; exact me_setA _ hK (Or.inr rfl)) (g_sz hz h1 p3 hT Z) p1) (g_back h2 p3) h3 T hT Z)
theorem g_last (o : cOk X bt own d) (hz : (cs X).heap.size + k1 = cB X + n) {r : Option Nat} {a : Nat} {i : Int32} {v : Int64} (hr : rx K L r 14 i = some a) (hd : decode bt pc = .ok (.lastore, 1)) (kk : gW X k1 k2 n K L (ms_B M a (vp_updL (mm_B M a) i.toNatClampNeg v)) (pc + 1) ls st) : gW X k1 k2 n K L M pc ls (.long v :: .int i :: va_rf r :: st) := fun H locs ar h1 h2 h3 => by
  obtain ⟨rfl, hK, hi⟩ := rx_at hr
  obtain ⟨q, hq⟩ := mw_at h1 (a := a) (by omega)
  have hq0 := hq
  rw [mm_E_l hK] at hq
  have hA : va_S (fun q => cB X ≤ q) H H locs := ⟨Nat.le_refl _, fun _ _ _ => rfl, h2.2.2⟩
  exact va_last o.1 o.2.1 o.2.2.2.2.2.1 h1.2.2 (mw_D _ _ _) hA q 1 hq rfl hi hd (fun H1 locs1 p1 p2 p3 T hT Z => kk H1 locs1 ar (mw_set h1 (by omega) hq0 (me_setB _ hK) (g_sz hz h1 p3 hT Z) p1) (g_back h2 p3) h3 T hT Z)
theorem g_aast (o : cOk X bt own d) (hz : (cs X).heap.size + k1 = cB X + n) {r v : Option Nat} {a b k c : Nat} {i : Int32} (hk : k = 16 ∧ c = 2 ∨ k = 17 ∧ c = 4) (hr : rx K L r k i = some a) (hv : rc K v c = some b) (hd : decode bt pc = .ok (.aastore, 1)) (kk : gW X k1 k2 n K L (ms_C M a (va_up (mm_C M a) i.toNatClampNeg (some b))) (pc + 1) ls st) : gW X k1 k2 n K L M pc ls (va_rf v :: .int i :: va_rf r :: st) := fun H locs ar h1 h2 h3 => by
  obtain ⟨rfl, hK, hi⟩ := rx_at hr
  obtain ⟨rfl, hKb⟩ := rc_at hv
  obtain ⟨q, hq⟩ := mw_at h1 (a := a) (by omega)
  obtain ⟨q2, hq2⟩ := mw_at h1 (a := b) (by omega)
  have hq0 := hq
  have hA : va_S (fun q => cB X ≤ q) H H locs := ⟨Nat.le_refl _, fun _ _ _ => rfl, h2.2.2⟩
  rcases hk with ⟨rfl, rfl⟩ | ⟨rfl, rfl⟩
  · rw [mm_E_r hK (by decide)] at hq
    rw [mm_E_o hKb (by decide)] at hq2
    exact va_astq (r := (RX2, TX2, 5)) o.1 o.2.1 o.2.2.2.2.2.1 h1.2.2 (mw_D _ _ _) hA q 3 q2 2 hq rfl hq2 rfl hi hd (fun H1 locs1 p1 p2 p3 T hT Z => kk H1 locs1 ar (mw_set h1 (by omega) hq0 (me_setC _ hK (by decide)) (g_sz hz h1 p3 hT Z) p1) (g_back h2 p3) h3 T hT Z)
  · rw [mm_E_r hK (by decide)] at hq
    rw [mm_E_o hKb (by decide)] at hq2
    exact va_astq (r := (RX4, TX4, 4)) o.1 o.2.1 o.2.2.2.2.2.1 h1.2.2 (mw_D _ _ _) hA q 4 q2 4 hq rfl hq2 rfl hi hd (fun H1 locs1 p1 p2 p3 T hT Z => kk H1 locs1 ar (mw_set h1 (by omega) hq0 (me_setC _ hK (by decide)) (g_sz hz h1 p3 hT Z) p1) (g_back h2 p3) h3 T hT Z)
/-- arraylength of an int row -/
theorem g_alen (o : cOk X bt own d) {r : Option Nat} {a : Nat} (hr : rc K r 13 = some a) (hd : decode bt pc = .ok (.arraylength, 1)) (kk : gW X k1 k2 n K L M (pc + 1) ls (.int (Int32.ofNat (L a)) :: st)) : gW X k1 k2 n K L M pc ls (va_rf r :: st) := fun H locs ar h1 h2 h3 => by
  obtain ⟨rfl, hK⟩ := rc_at hr
  obtain ⟨q, hq⟩ := mw_at h1 (a := a) (by omega)
  rw [mm_E_i hK] at hq
  exact va_alen o.1 o.2.1 o.2.2.2.2.2.1 h1.2.2 q 0 hq (ty := .int) rfl rfl hd (kk H locs ar h1 h2 h3)
def rp (K L : Nat → Nat) (r : Option Nat) (sp n : Int32) : Option Nat := match r with
  | none => none
  | some a => if K a = 13 ∧ ¬ sp < 0 ∧ ¬ n < 0 ∧ sp.toNatClampNeg + n.toNatClampNeg ≤ L a then some a else none
theorem rp_at {K L : Nat → Nat} {r : Option Nat} {a : Nat} {sp n : Int32} (h : rp K L r sp n = some a) : r = some a ∧ K a = 13 ∧ ¬ sp < 0 ∧ ¬ n < 0 ∧ sp.toNatClampNeg + n.toNatClampNeg ≤ L a := by
  cases r with
  | none => cases h
  | some b =>
    simp only [rp] at h
    split at h
    · cases h
      rename_i h1
      exact ⟨rfl, h1⟩
    · cases h
theorem g_copy (o : cOk X bt own d) (hz : (cs X).heap.size + k1 = cB X + n) {r v : Option Nat} {a b ix : Nat} {sp dp m : Int32} (hw : Cond.methodLink own ix arraycopyName ∈ gwl) (hd1 : 1 ≤ d) (hr : rp K L r sp m = some a) (hv : rp K L v dp m = some b) (hst : (st.map fun v => v.category).sum ≤ 8) (hd : decode bt pc = .ok (.invokestatic ix, 3)) (kk : gW X k1 k2 n K L (ms_A M b (va_cpy (mm_A M a) (mm_A M b) sp.toNatClampNeg dp.toNatClampNeg m.toNatClampNeg)) (pc + 3) ls st) : gW X k1 k2 n K L M pc ls (.int m :: .int dp :: va_rf v :: .int sp :: va_rf r :: st) := fun H locs ar h1 h2 h3 => by
  obtain ⟨rfl, hK, e1, e2, e3⟩ := rp_at hr
  obtain ⟨rfl, hKb, e4, -, e6⟩ := rp_at hv
  obtain ⟨q, hq⟩ := mw_at h1 (a := a) (by omega)
  obtain ⟨q2, hq2⟩ := mw_at h1 (a := b) (by omega)
  have hq0 := hq2
  have hA : va_S (fun q => cB X ≤ q) H H locs := ⟨Nat.le_refl _, fun _ _ _ => rfl, h2.2.2⟩
  rw [mm_E_i hK] at hq
  rw [mm_E_i hKb] at hq2
  obtain ⟨-, -, o3, o4, o5, o6, -, -, -, o10, o11⟩ := id o
  refine va_copyi (ty := .int) o.1 o.2.1 (o3.trans h3.1.symm) o4 (o5 _ hw) (o5 _ (gw_inT (i := 731) (by decide +kernel) (by decide +kernel))) (o5 _ (gw_inT (i := 730) (by decide +kernel) (by decide +kernel))) (o5 _ (gw_inT (i := 16) (by decide +kernel) (by decide +kernel))) o6 h1.2.2 (mw_D _ _ _) hA q q2 0 0 hq hq2 rfl rfl rfl e1 e4 e2 e3 e6 (fun i _ => rfl) (by omega) ?_ hd (fun H1 locs1 p1 p2 p3 T hT Z => kk H1 locs1 ar (mw_set h1 (by omega) hq0 (me_setA _ hKb (Or.inl rfl)) (g_sz hz h1 p3 hT Z) p1) (g_back h2 p3) h3 T hT Z)
  have : nativeFrameWords "java/lang/System" "arraycopy" 5 + 11 ≤ 33 := by decide +kernel
  omega
end GH
