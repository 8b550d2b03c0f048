/-! making: what the constructors lay out -/
abbrev Tl := List (Nat × Nat × Nat)
def lk : Tl → Nat → Nat → Option Nat
  | [], _, _ => none
  | (a, b, v) :: r, x, o => if a = x ∧ b = o then some v else lk r x o
def look : Tl → Nat → Nat × Nat
  | [], _ => (99, 0)
  | (a, k, l) :: r, o => if a = o then (k, l) else look r o
/-- the cells from A on, t of them, as the lists tell: kinds and lengths, references, rows of references; all else is 0 there; below A all is as it was -/
def Hd (A : Nat) (K0 L0 : Nat → Nat) (M0 : Mm) (st rl cl : Tl) (t : Nat) (K L : Nat → Nat) (M : Mm) : Prop := (∀ a, a < A → K a = K0 a ∧ L a = L0 a ∧ eqAt M0 M a) ∧ (∀ o, o < t → K (A + o) = (look st o).1 ∧ L (A + o) = (look st o).2) ∧ (∀ o x, o < t → mm_I M x (A + o) = 0) ∧ (∀ o x, o < t → mm_J M x (A + o) = 0) ∧ (∀ o j, o < t → mm_A M (A + o) j = 0) ∧ (∀ o j, o < t → mm_B M (A + o) j = 0) ∧ (∀ o x, o < t → mm_R M x (A + o) = (lk rl x o).map (A + ·)) ∧ (∀ o j, o < t → mm_C M (A + o) j = (lk cl o j).map (A + ·)) ∧ (∀ x o, t ≤ o → lk rl x o = none) ∧ (∀ o j, t ≤ o → lk cl o j = none)
section HA
variable {A : Nat} {K0 L0 : Nat → Nat} {M0 : Mm} {st rl cl : Tl} {t : Nat} {K L : Nat → Nat} {M : Mm}
theorem Hd.low (h : Hd A K0 L0 M0 st rl cl t K L M) : ∀ a, a < A → K a = K0 a ∧ L a = L0 a ∧ eqAt M0 M a := h.1
theorem Hd.kl (h : Hd A K0 L0 M0 st rl cl t K L M) : ∀ o, o < t → K (A + o) = (look st o).1 ∧ L (A + o) = (look st o).2 := h.2.1
theorem Hd.I0 (h : Hd A K0 L0 M0 st rl cl t K L M) : ∀ o x, o < t → mm_I M x (A + o) = 0 := h.2.2.1
theorem Hd.J0 (h : Hd A K0 L0 M0 st rl cl t K L M) : ∀ o x, o < t → mm_J M x (A + o) = 0 := h.2.2.2.1
theorem Hd.A0 (h : Hd A K0 L0 M0 st rl cl t K L M) : ∀ o j, o < t → mm_A M (A + o) j = 0 := h.2.2.2.2.1
theorem Hd.B0 (h : Hd A K0 L0 M0 st rl cl t K L M) : ∀ o j, o < t → mm_B M (A + o) j = 0 := h.2.2.2.2.2.1
theorem Hd.R0 (h : Hd A K0 L0 M0 st rl cl t K L M) : ∀ o x, o < t → mm_R M x (A + o) = (lk rl x o).map (A + ·) := h.2.2.2.2.2.2.1
theorem Hd.C0 (h : Hd A K0 L0 M0 st rl cl t K L M) : ∀ o j, o < t → mm_C M (A + o) j = (lk cl o j).map (A + ·) := h.2.2.2.2.2.2.2.1
theorem Hd.rt (h : Hd A K0 L0 M0 st rl cl t K L M) : ∀ x o, t ≤ o → lk rl x o = none := h.2.2.2.2.2.2.2.2.1
theorem Hd.ct (h : Hd A K0 L0 M0 st rl cl t K L M) : ∀ o j, t ≤ o → lk cl o j = none := h.2.2.2.2.2.2.2.2.2
end HA
theorem mz_e {M : Mm} {a c : Nat} (h : c ≠ a) : eqAt M (mz M a) c :=
  ⟨fun x => by simp [mz, mm_I, h], fun x => by simp [mz, mm_J, h], fun x => by simp [mz, mm_R, h], by funext j; simp [mz, mm_A, h], by funext j; simp [mz, mm_B, h], by funext j; simp [mz, mm_C, h]⟩
section HD
variable {A : Nat} {K0 L0 : Nat → Nat} {M0 : Mm} {st rl cl : Tl} {t : Nat} {K L : Nat → Nat} {M : Mm} {β : Type} {Q : β → Prop}
theorem Hd.al (h : Hd A K0 L0 M0 st rl cl t K L M) (k l : Nat) {a : Nat} (ha : a = A + t) : Hd A K0 L0 M0 ((t, k, l) :: st) rl cl (t + 1) (va_up K a k) (va_up L a l) (mz M a) := by
  subst ha
  have e : ∀ o, o < t → eqAt M (mz M (A + t)) (A + o) := fun o ho => mz_e (by omega)
  refine ⟨fun a ha => ⟨?_, ?_, (h.low a ha).2.2.tr (mz_e (by omega))⟩, fun o ho => ?_, fun o x ho => ?_, fun o x ho => ?_, fun o x ho => ?_, fun o x ho => ?_, fun o x ho => ?_, fun o x ho => ?_, fun x o ho => h.rt x o (by omega), fun o j ho => h.ct o j (by omega)⟩
  · show (if a = A + t then k else K a) = _
    rw [if_neg (by omega)]; exact (h.low a ha).1
  · show (if a = A + t then l else L a) = _
    rw [if_neg (by omega)]; exact (h.low a ha).2.1
  · show (if A + o = A + t then k else K (A + o)) = (if t = o then (k, l) else look st o).1 ∧ (if A + o = A + t then l else L (A + o)) = (if t = o then (k, l) else look st o).2
    by_cases q : o = t
    · subst q; simp
    · rw [if_neg (by omega), if_neg (by omega), if_neg (by omega)]; exact h.kl o (by omega)
  · by_cases q : o = t
    · subst q; simp [mz, mm_I]
    · rw [(e o (by omega)).1]; exact h.I0 o x (by omega)
  · by_cases q : o = t
    · subst q; simp [mz, mm_J]
    · rw [(e o (by omega)).2.1]; exact h.J0 o x (by omega)
  · by_cases q : o = t
    · subst q; simp [mz, mm_A]
    · rw [(e o (by omega)).2.2.2.1]; exact h.A0 o x (by omega)
  · by_cases q : o = t
    · subst q; simp [mz, mm_B]
    · rw [(e o (by omega)).2.2.2.2.1]; exact h.B0 o x (by omega)
  · by_cases q : o = t
    · subst q; rw [h.rt x o (Nat.le_refl _)]; simp [mz, mm_R]
    · rw [(e o (by omega)).2.2.1]; exact h.R0 o x (by omega)
  · by_cases q : o = t
    · subst q; rw [h.ct o x (Nat.le_refl _)]; simp [mz, mm_C]
    · rw [(e o (by omega)).2.2.2.2.2]; exact h.C0 o x (by omega)
theorem Hd.sR (h : Hd A K0 L0 M0 st rl cl t K L M) {x a r : Nat} (o v : Nat) (ha : a = A + o) (ho : o < t) (hr : r = A + v) : Hd A K0 L0 M0 st ((x, o, v) :: rl) cl t K L (ms_R M x a (some r)) := by
  subst ha hr
  refine ⟨fun a ha => ⟨(h.low a ha).1, (h.low a ha).2.1, (h.low a ha).2.2.tr (eqAt.R (by omega))⟩, h.kl, h.I0, h.J0, h.A0, h.B0, fun o' x' ho' => ?_, h.C0, fun x' o' ho' => ?_, h.ct⟩
  · show (if x' = x ∧ A + o' = A + o then some (A + v) else mm_R M x' (A + o')) = (if x = x' ∧ o = o' then some v else lk rl x' o').map (A + ·)
    by_cases q : x' = x ∧ o' = o
    · rw [if_pos (by omega), if_pos (by omega)]; rfl
    · rw [if_neg (by omega), if_neg (by omega)]; exact h.R0 o' x' ho'
  · show (if x = x' ∧ o = o' then some v else lk rl x' o') = none
    rw [if_neg (by omega)]; exact h.rt x' o' ho'
theorem Hd.sC (h : Hd A K0 L0 M0 st rl cl t K L M) {a r : Nat} (o i v : Nat) (ha : a = A + o) (ho : o < t) (hr : r = A + v) : Hd A K0 L0 M0 st rl ((o, i, v) :: cl) t K L (ms_C M a (va_up (mm_C M a) i (some r))) := by
  subst ha hr
  refine ⟨fun a ha => ⟨(h.low a ha).1, (h.low a ha).2.1, (h.low a ha).2.2.tr (eqAt.C (by omega))⟩, h.kl, h.I0, h.J0, h.A0, h.B0, h.R0, fun o' j ho' => ?_, h.rt, fun o' j ho' => ?_⟩
  · rw [C_C]
    by_cases q : o' = o
    · subst q
      rw [if_pos rfl]
      show (if j = i then some (A + v) else mm_C M (A + o') j) = (if o' = o' ∧ i = j then some v else lk cl o' j).map (A + ·)
      by_cases q' : j = i
      · rw [if_pos q', if_pos ⟨rfl, q'.symm⟩]; rfl
      · rw [if_neg q', if_neg (fun x => q' x.2.symm)]; exact h.C0 o' j ho'
    · rw [if_neg (by omega)]
      show _ = (if o = o' ∧ i = j then some v else lk cl o' j).map (A + ·)
      rw [if_neg (by omega)]; exact h.C0 o' j ho'
  · show (if o = o' ∧ i = j then some v else lk cl o' j) = none
    rw [if_neg (by omega)]; exact h.ct o' j ho'
theorem Hd.sI (h : Hd A K0 L0 M0 st rl cl t K L M) {x a : Nat} (o : Nat) (ha : a = A + o) : Hd A K0 L0 M0 st rl cl t K L (ms_I M x a 0) := by
  subst ha
  refine ⟨fun a ha => ⟨(h.low a ha).1, (h.low a ha).2.1, (h.low a ha).2.2.tr (eqAt.I (by omega))⟩, h.kl, fun o' x' ho' => ?_, h.J0, h.A0, h.B0, h.R0, h.C0, h.rt, h.ct⟩
  rw [I_I]
  by_cases q : x' = x ∧ A + o' = A + o
  · rw [if_pos q]
  · rw [if_neg q]; exact h.I0 o' x' ho'
theorem sI_step (h : Hd A K0 L0 M0 st rl cl t K L M) {x a : Nat} (o : Nat) {G : Mm → Option β} (ha : a = A + o) (z : ∀ M', Hd A K0 L0 M0 st rl cl t K L M' → ∃ y, G M' = some y ∧ Q y) : ∃ y, bn (ms_I M x a 0) G = some y ∧ Q y := z _ (h.sI o ha)
theorem al_step (h : Hd A K0 L0 M0 st rl cl t K L M) {a k l : Nat} {G : (Nat → Nat) → (Nat → Nat) → Mm → Option β} (ha : a = A + t) (z : ∀ K' L' M', Hd A K0 L0 M0 ((t, k, l) :: st) rl cl (t + 1) K' L' M' → ∃ y, G K' L' M' = some y ∧ Q y) : ∃ y, bn (va_up K a k) (fun K1 => bn (va_up L a l) (fun L1 => bn (mz M a) (fun M1 => G K1 L1 M1))) = some y ∧ Q y := z _ _ _ (h.al k l ha)
theorem sR_step (h : Hd A K0 L0 M0 st rl cl t K L M) {x a r : Nat} (o v : Nat) {G : Mm → Option β} (ha : a = A + o) (ho : o < t) (hr : r = A + v) (z : ∀ M', Hd A K0 L0 M0 st ((x, o, v) :: rl) cl t K L M' → ∃ y, G M' = some y ∧ Q y) : ∃ y, bn (ms_R M x a (some r)) G = some y ∧ Q y := z _ (h.sR o v ha ho hr)
theorem sC_step (h : Hd A K0 L0 M0 st rl cl t K L M) {a r i : Nat} (o i' v : Nat) {G : Mm → Option β} (ha : a = A + o) (hi : i = i') (ho : o < t) (hr : r = A + v) (z : ∀ M', Hd A K0 L0 M0 st rl ((o, i', v) :: cl) t K L M' → ∃ y, G M' = some y ∧ Q y) : ∃ y, bn (ms_C M a (va_up (mm_C M a) i (some r))) G = some y ∧ Q y := by
  subst hi
  exact z _ (h.sC o i v ha ho hr)
theorem rc_step (h : Hd A K0 L0 M0 st rl cl t K L M) {a c : Nat} (o : Nat) {G : Nat → Option β} (ha : a = A + o) (ho : o < t) (hc : (look st o).1 = c) (z : ∃ y, G a = some y ∧ Q y) : ∃ y, Option.bind (rc K (some a) c) G = some y ∧ Q y := by
  rw [rc_ok (a := a) (c := c) (by rw [ha, (h.kl o ho).1]; exact hc)]
  exact z
theorem rx_step {st' rl' cl' : Tl} {t' : Nat} {K' L' : Nat → Nat} {M' : Mm} (h : Hd A K0 L0 M0 st rl cl t K L M) (h' : Hd A K0 L0 M0 st' rl' cl' t' K' L' M') {x a c m : Nat} (o v i : Nat) {G : Nat → Option β} (ha : a = A + o) (ho : o < t') (hv : v < t) (hr : lk rl' x o = some v) (hc : look st v = (c, m)) (hi : i < m) (hm : m < 2 ^ 31) {ii : Int32} (hii : ii = nI i) (z : ∀ a', a' = A + v → ∃ y, G a' = some y ∧ Q y) : ∃ y, Option.bind (rx K L (mm_R M' x a) c ii) G = some y ∧ Q y := by
  rw [ha, h'.R0 o x ho, hr, hii]
  show ∃ y, Option.bind (rx K L (some (A + v)) c (nI i)) G = some y ∧ Q y
  rw [rx_ok (by rw [(h.kl v hv).1, hc]) (by rw [(h.kl v hv).2, hc]) hi hm]
  exact z _ rfl
theorem cl_step {α : Type} {F : Option α} {G : α → Option β} (z : ∃ y, F = some y ∧ ∃ y', G y = some y' ∧ Q y') : ∃ y, Option.bind F G = some y ∧ Q y := by
  obtain ⟨y, e, z⟩ := z
  rw [e]
  exact z
theorem un_step {F : Option Unit} {G : Unit → Option β} (e : F = some ()) (z : ∃ y, G () = some y ∧ Q y) : ∃ y, Option.bind F G = some y ∧ Q y := by
  rw [e]
  exact z
end HD
set_option maxRecDepth 4000 in
theorem X9_spec {B n : Nat} {K L : Nat → Nat} {M : Mm} : ∃ y, f_X9_init B (n + 1) (B + n) (va_up K (B + n) 9) (va_up L (B + n) 0) (mz M (B + n)) = some y ∧ (∀ a, a < B + n → y.1 a = K a ∧ y.2.1 a = L a ∧ eqAt M y.2.2 a) ∧ BS y.1 y.2.1 (mm_R y.2.2) (mm_C y.2.2) (B + n) := by
  have h0 : Hd (B + n) K L M [] [] [] 0 K L M := ⟨fun a _ => ⟨rfl, rfl, eqAt.rf _ a⟩, fun o ho => by omega, fun o x ho => by omega, fun o x ho => by omega, fun o x ho => by omega, fun o x ho => by omega, fun o x ho => by omega, fun o x ho => by omega, fun x o _ => rfl, fun o j _ => rfl⟩
  have h1 := h0.al 9 0 (a := B + n) rfl
  unfold f_X9_init
  refine al_step h1 (by omega) (fun K2 L2 M2 h2 => ?_)
  refine rc_step h2 1 (by omega) (by decide) rfl ?_
  refine cl_step ?_
  try unfold f_X6_init
  refine al_step h2 (by omega) (fun K3 L3 M3 h3 => ?_)
  refine rc_step h3 1 (by omega) (by decide) rfl ?_
  refine sR_step h3 1 2 (by omega) (by decide) (by omega) (fun M4 h4 => ?_)
  refine al_step h4 (by omega) (fun K5 L5 M5 h5 => ?_)
  refine rc_step h5 1 (by omega) (by decide) rfl ?_
  refine sR_step h5 1 3 (by omega) (by decide) (by omega) (fun M6 h6 => ?_)
  refine al_step h6 (by omega) (fun K7 L7 M7 h7 => ?_)
  refine rc_step h7 1 (by omega) (by decide) rfl ?_
  refine sR_step h7 1 4 (by omega) (by decide) (by omega) (fun M8 h8 => ?_)
  refine al_step h8 (by omega) (fun K9 L9 M9 h9 => ?_)
  refine rc_step h9 1 (by omega) (by decide) rfl ?_
  refine sR_step h9 1 5 (by omega) (by decide) (by omega) (fun M10 h10 => ?_)
  refine ⟨_, rfl, ?_⟩
  refine rc_step h10 0 (by omega) (by decide) rfl ?_
  refine sR_step h10 0 1 (by omega) (by decide) (by omega) (fun M11 h11 => ?_)
  refine al_step h11 (by omega) (fun K12 L12 M12 h12 => ?_)
  refine rc_step h12 6 (by omega) (by decide) rfl ?_
  refine cl_step ?_
  try unfold f_X7_init
  refine al_step h12 (by omega) (fun K13 L13 M13 h13 => ?_)
  refine rc_step h13 6 (by omega) (by decide) rfl ?_
  refine sR_step h13 6 7 (by omega) (by decide) (by omega) (fun M14 h14 => ?_)
  refine al_step h14 (by omega) (fun K15 L15 M15 h15 => ?_)
  refine rc_step h15 6 (by omega) (by decide) rfl ?_
  refine sR_step h15 6 8 (by omega) (by decide) (by omega) (fun M16 h16 => ?_)
  refine ⟨_, rfl, ?_⟩
  refine rc_step h16 0 (by omega) (by decide) rfl ?_
  refine sR_step h16 0 6 (by omega) (by decide) (by omega) (fun M17 h17 => ?_)
  refine al_step h17 (by omega) (fun K18 L18 M18 h18 => ?_)
  refine rc_step h18 9 (by omega) (by decide) rfl ?_
  refine cl_step ?_
  try unfold f_X3_init
  refine al_step h18 (by omega) (fun K19 L19 M19 h19 => ?_)
  refine rc_step h19 9 (by omega) (by decide) rfl ?_
  refine sR_step h19 9 10 (by omega) (by decide) (by omega) (fun M20 h20 => ?_)
  refine ⟨_, rfl, ?_⟩
  refine rc_step h20 0 (by omega) (by decide) rfl ?_
  refine sR_step h20 0 9 (by omega) (by decide) (by omega) (fun M21 h21 => ?_)
  refine al_step h21 (by omega) (fun K22 L22 M22 h22 => ?_)
  refine rc_step h22 11 (by omega) (by decide) rfl ?_
  refine un_step rfl ?_
  refine rc_step h22 0 (by omega) (by decide) rfl ?_
  refine sR_step h22 0 11 (by omega) (by decide) (by omega) (fun M23 h23 => ?_)
  refine al_step h23 (by omega) (fun K24 L24 M24 h24 => ?_)
  refine rc_step h24 12 (by omega) (by decide) rfl ?_
  refine un_step rfl ?_
  refine rc_step h24 0 (by omega) (by decide) rfl ?_
  refine sR_step h24 0 12 (by omega) (by decide) (by omega) (fun M25 h25 => ?_)
  refine al_step h25 (by omega) (fun K26 L26 M26 h26 => ?_)
  refine rc_step h26 0 (by omega) (by decide) rfl ?_
  refine sR_step h26 0 13 (by omega) (by decide) (by omega) (fun M27 h27 => ?_)
  refine al_step h27 (by omega) (fun K28 L28 M28 h28 => ?_)
  refine rc_step h28 14 (by omega) (by decide) rfl ?_
  refine cl_step ?_
  try unfold f_X2_init
  refine al_step h28 (by omega) (fun K29 L29 M29 h29 => ?_)
  refine rc_step h29 14 (by omega) (by decide) rfl ?_
  refine sR_step h29 14 15 (by omega) (by decide) (by omega) (fun M30 h30 => ?_)
  refine al_step h30 (by omega) (fun K31 L31 M31 h31 => ?_)
  refine rc_step h31 14 (by omega) (by decide) rfl ?_
  refine sR_step h31 14 16 (by omega) (by decide) (by omega) (fun M32 h32 => ?_)
  refine al_step h32 (by omega) (fun K33 L33 M33 h33 => ?_)
  refine rc_step h33 14 (by omega) (by decide) rfl ?_
  refine sR_step h33 14 17 (by omega) (by decide) (by omega) (fun M34 h34 => ?_)
  refine ⟨_, rfl, ?_⟩
  refine rx_step h34 h27 0 13 0 (by omega) (by decide) (by decide) rfl rfl (by decide) (by decide) rfl (fun a13_34 ea13_34 => ?_)
  refine rc_step h34 14 (by omega) (by decide) rfl ?_
  refine sC_step h34 13 0 14 (by omega) rfl (by decide) (by omega) (fun M35 h35 => ?_)
  refine rc_step h35 0 (by omega) (by decide) rfl ?_
  refine al_step h35 (by omega) (fun K36 L36 M36 h36 => ?_)
  refine rc_step h36 18 (by omega) (by decide) rfl ?_
  refine cl_step ?_
  try unfold f_X2_init
  refine al_step h36 (by omega) (fun K37 L37 M37 h37 => ?_)
  refine rc_step h37 18 (by omega) (by decide) rfl ?_
  refine sR_step h37 18 19 (by omega) (by decide) (by omega) (fun M38 h38 => ?_)
  refine al_step h38 (by omega) (fun K39 L39 M39 h39 => ?_)
  refine rc_step h39 18 (by omega) (by decide) rfl ?_
  refine sR_step h39 18 20 (by omega) (by decide) (by omega) (fun M40 h40 => ?_)
  refine al_step h40 (by omega) (fun K41 L41 M41 h41 => ?_)
  refine rc_step h41 18 (by omega) (by decide) rfl ?_
  refine sR_step h41 18 21 (by omega) (by decide) (by omega) (fun M42 h42 => ?_)
  refine ⟨_, rfl, ?_⟩
  refine rx_step h42 h35 0 13 1 (by omega) (by decide) (by decide) rfl rfl (by decide) (by decide) rfl (fun a13_42 ea13_42 => ?_)
  refine rc_step h42 18 (by omega) (by decide) rfl ?_
  refine sC_step h42 13 1 18 (by omega) rfl (by decide) (by omega) (fun M43 h43 => ?_)
  refine rc_step h43 0 (by omega) (by decide) rfl ?_
  refine al_step h43 (by omega) (fun K44 L44 M44 h44 => ?_)
  refine rc_step h44 22 (by omega) (by decide) rfl ?_
  refine cl_step ?_
  try unfold f_X2_init
  refine al_step h44 (by omega) (fun K45 L45 M45 h45 => ?_)
  refine rc_step h45 22 (by omega) (by decide) rfl ?_
  refine sR_step h45 22 23 (by omega) (by decide) (by omega) (fun M46 h46 => ?_)
  refine al_step h46 (by omega) (fun K47 L47 M47 h47 => ?_)
  refine rc_step h47 22 (by omega) (by decide) rfl ?_
  refine sR_step h47 22 24 (by omega) (by decide) (by omega) (fun M48 h48 => ?_)
  refine al_step h48 (by omega) (fun K49 L49 M49 h49 => ?_)
  refine rc_step h49 22 (by omega) (by decide) rfl ?_
  refine sR_step h49 22 25 (by omega) (by decide) (by omega) (fun M50 h50 => ?_)
  refine ⟨_, rfl, ?_⟩
  refine rx_step h50 h43 0 13 2 (by omega) (by decide) (by decide) rfl rfl (by decide) (by decide) rfl (fun a13_50 ea13_50 => ?_)
  refine rc_step h50 22 (by omega) (by decide) rfl ?_
  refine sC_step h50 13 2 22 (by omega) rfl (by decide) (by omega) (fun M51 h51 => ?_)
  refine rc_step h51 0 (by omega) (by decide) rfl ?_
  refine al_step h51 (by omega) (fun K52 L52 M52 h52 => ?_)
  refine rc_step h52 26 (by omega) (by decide) rfl ?_
  refine cl_step ?_
  try unfold f_X2_init
  refine al_step h52 (by omega) (fun K53 L53 M53 h53 => ?_)
  refine rc_step h53 26 (by omega) (by decide) rfl ?_
  refine sR_step h53 26 27 (by omega) (by decide) (by omega) (fun M54 h54 => ?_)
  refine al_step h54 (by omega) (fun K55 L55 M55 h55 => ?_)
  refine rc_step h55 26 (by omega) (by decide) rfl ?_
  refine sR_step h55 26 28 (by omega) (by decide) (by omega) (fun M56 h56 => ?_)
  refine al_step h56 (by omega) (fun K57 L57 M57 h57 => ?_)
  refine rc_step h57 26 (by omega) (by decide) rfl ?_
  refine sR_step h57 26 29 (by omega) (by decide) (by omega) (fun M58 h58 => ?_)
  refine ⟨_, rfl, ?_⟩
  refine rx_step h58 h51 0 13 3 (by omega) (by decide) (by decide) rfl rfl (by decide) (by decide) rfl (fun a13_58 ea13_58 => ?_)
  refine rc_step h58 26 (by omega) (by decide) rfl ?_
  refine sC_step h58 13 3 26 (by omega) rfl (by decide) (by omega) (fun M59 h59 => ?_)
  refine ⟨_, rfl, h59.low, ?_⟩
  refine ⟨⟨(h59.kl 0 (by decide)).1, h59.R0 0 291 (by decide), h59.R0 0 292 (by decide), h59.R0 0 297 (by decide), h59.R0 0 298 (by decide), h59.R0 0 299 (by decide), h59.R0 0 300 (by decide)⟩, ⟨(h59.kl 1 (by decide)).1, h59.R0 1 193 (by decide), h59.R0 1 194 (by decide), h59.R0 1 195 (by decide), h59.R0 1 196 (by decide), (h59.kl 2 (by decide)).1, (h59.kl 2 (by decide)).2, (h59.kl 3 (by decide)).1, (h59.kl 3 (by decide)).2, (h59.kl 4 (by decide)).1, (h59.kl 4 (by decide)).2, (h59.kl 5 (by decide)).1, (h59.kl 5 (by decide)).2⟩, ⟨(h59.kl 6 (by decide)).1, h59.R0 6 224 (by decide), h59.R0 6 225 (by decide), (h59.kl 7 (by decide)).1, (h59.kl 7 (by decide)).2, (h59.kl 8 (by decide)).1, (h59.kl 8 (by decide)).2⟩, ⟨(h59.kl 9 (by decide)).1, h59.R0 9 96 (by decide), (h59.kl 10 (by decide)).1, (h59.kl 10 (by decide)).2⟩, (h59.kl 11 (by decide)).1, (h59.kl 12 (by decide)).1, (h59.kl 13 (by decide)).1, (h59.kl 13 (by decide)).2, ?_⟩
  intro w hw
  rcases (show w = 0 ∨ w = 1 ∨ w = 2 ∨ w = 3 by omega) with rfl | rfl | rfl | rfl
  · exact ⟨h59.C0 13 0 (by decide), (h59.kl 14 (by decide)).1, h59.R0 14 66 (by decide), h59.R0 14 67 (by decide), h59.R0 14 68 (by decide), (h59.kl 15 (by decide)).1, (h59.kl 15 (by decide)).2, (h59.kl 16 (by decide)).1, (h59.kl 16 (by decide)).2, (h59.kl 17 (by decide)).1, (h59.kl 17 (by decide)).2⟩
  · exact ⟨h59.C0 13 1 (by decide), (h59.kl 18 (by decide)).1, h59.R0 18 66 (by decide), h59.R0 18 67 (by decide), h59.R0 18 68 (by decide), (h59.kl 19 (by decide)).1, (h59.kl 19 (by decide)).2, (h59.kl 20 (by decide)).1, (h59.kl 20 (by decide)).2, (h59.kl 21 (by decide)).1, (h59.kl 21 (by decide)).2⟩
  · exact ⟨h59.C0 13 2 (by decide), (h59.kl 22 (by decide)).1, h59.R0 22 66 (by decide), h59.R0 22 67 (by decide), h59.R0 22 68 (by decide), (h59.kl 23 (by decide)).1, (h59.kl 23 (by decide)).2, (h59.kl 24 (by decide)).1, (h59.kl 24 (by decide)).2, (h59.kl 25 (by decide)).1, (h59.kl 25 (by decide)).2⟩
  · exact ⟨h59.C0 13 3 (by decide), (h59.kl 26 (by decide)).1, h59.R0 26 66 (by decide), h59.R0 26 67 (by decide), h59.R0 26 68 (by decide), (h59.kl 27 (by decide)).1, (h59.kl 27 (by decide)).2, (h59.kl 28 (by decide)).1, (h59.kl 28 (by decide)).2, (h59.kl 29 (by decide)).1, (h59.kl 29 (by decide)).2⟩
theorem qc_0 {R : Nat → Nat → Option Nat} {B : Nat} (h : ∀ q, q < 32 → R 131 (qA B q) = none) : ∀ q, q ≤ 32 → qc R B q = 0 := by
  intro q
  induction q with
  | zero => intro _; rfl
  | succ q ih =>
    intro hq
    show qc R B q + (if R 131 (qA B q) = none then 0 else 1) = 0
    rw [ih (by omega), if_pos (h q (by omega))]
/-- the start: nothing is on the shelf -/
theorem iv_start {B : Nat} {K0 L0 : Nat → Nat} {M0 : Mm} {st rl cl : Tl} {K L : Nat → Nat} {M : Mm} (h : Hd B K0 L0 M0 st rl cl 55 K L M) (hms : MS B K L (mm_R M)) (hcs : CS B K L (mm_R M) (mm_C M)) (hq : ∀ q, q < 32 → mm_R M 128 (qA B q) = none ∧ mm_R M 131 (qA B q) = none) : Iv B 55 K L M := by
  have h0 := qc_0 (fun q hq' => (hq q hq').2)
  have z : ∀ p, p < 16 → (3940 * p : Nat) = 3940 * p := fun _ _ => rfl
  have a45 : ∀ j, mm_A M (B + 45) j = 0 := fun j => h.A0 45 j (by decide)
  have a46 : ∀ j, mm_A M (B + 46) j = 0 := fun j => h.A0 46 j (by decide)
  have nr : ∀ S : Nat → Int32, (∀ j, S j = 0) → noRing S := by
    intro S hS
    refine ⟨fun _ => 0, fun _ => (by omega : 0 < 16), fun p q _ _ ha => ?_⟩
    rcases ha with ⟨h1, -⟩ | ⟨t, -, h1, -⟩
    · rw [hS] at h1
      rcases h1 with h1 | h1 <;> exact absurd h1 (by decide)
    · rw [hS] at h1
      exact absurd h1 (by decide)
  refine ⟨⟨hms, hcs, by rw [h0 32 (Nat.le_refl _)], fun _ => 0, fun q b hq' hb => ?_, fun q q' b b' hq' _ hb => ?_⟩, fun p hp => ?_, fun p hp => ?_, nr _ a45, nr _ a46, fun i hi => ?_, ?_, ?_, ?_⟩
  · rw [(hq q hq').2] at hb
    exact absurd hb (by simp)
  · rw [(hq q hq').2] at hb
    exact absurd hb (by simp)
  · have hr := (hq p (by omega)).1
    rw [qA_lo hp] at hr
    refine ⟨0, by decide, a45 _, fun _ => ⟨hr, ?_⟩, fun e => by omega, fun e => by omega⟩
    have := h.I0 (3 + p) 129 (by omega)
    rw [← Nat.add_assoc] at this
    exact this
  · have hr := (hq (16 + p) (by omega)).1
    rw [qA_hi hp] at hr
    refine ⟨0, by decide, a46 _, fun _ => ⟨hr, ?_⟩, fun e => by omega, fun e => by omega⟩
    have := h.I0 (21 + p) 129 (by omega)
    rw [← Nat.add_assoc] at this
    exact this
  · rw [h.A0 43 i (by decide), h.A0 49 i (by decide)]
  · rw [h.I0 37 32 (by decide), h.I0 37 33 (by decide), h.I0 37 34 (by decide), h.I0 37 35 (by decide), h.I0 44 392 (by decide), h.I0 44 393 (by decide), h.I0 44 394 (by decide), h.I0 44 395 (by decide)]
    exact ⟨rfl, rfl, rfl, rfl, 0, by omega, rfl⟩
  · have := h.I0 0 354 (by decide)
    rw [Nat.add_zero] at this
    rw [this, h.I0 44 388 (by decide)]
    exact ⟨rfl, Or.inl rfl⟩
  · exact ⟨0, by omega, h.I0 39 163 (by decide), h.I0 44 391 (by decide), fun i hi => by omega⟩
set_option maxRecDepth 8000 in
set_option maxHeartbeats 4000000 in
theorem st_i : so_i Iv := by
  intro B
  suffices z : ∃ x, f_X11_init B 1 B (va_up (fun _ => 99) B 11) (va_up (fun _ => 0) B 0) (mz mm_0 B) = some x ∧ ∃ y, f_X12_init B 45 (B + 44) (va_up x.1 (B + 44) 12) (va_up x.2.1 (B + 44) 0) (mz x.2.2 (B + 44)) = some y ∧ x.1 B = 11 ∧ Iv B 55 y.1 y.2.1 y.2.2 by
    obtain ⟨x, e, y, e', q⟩ := z
    exact ⟨x, y, e, e', q⟩
  have h0 : Hd B (fun _ => 99) (fun _ => 0) mm_0 [] [] [] 0 (fun _ => 99) (fun _ => 0) mm_0 := ⟨fun a _ => ⟨rfl, rfl, eqAt.rf _ a⟩, fun o ho => by omega, fun o x ho => by omega, fun o x ho => by omega, fun o x ho => by omega, fun o x ho => by omega, fun o x ho => by omega, fun o x ho => by omega, fun x o _ => rfl, fun o j _ => rfl⟩
  have h1 := h0.al 11 0 (a := B) rfl
  unfold f_X11_init
  refine al_step h1 (by omega) (fun K2 L2 M2 h2 => ?_)
  refine rc_step h2 1 (by omega) (by decide) rfl ?_
  refine cl_step ?_
  try unfold f_X8_init
  refine al_step h2 (by omega) (fun K3 L3 M3 h3 => ?_)
  refine rc_step h3 1 (by omega) (by decide) rfl ?_
  refine sR_step h3 1 2 (by omega) (by decide) (by omega) (fun M4 h4 => ?_)
  refine al_step h4 (by omega) (fun K5 L5 M5 h5 => ?_)
  refine rc_step h5 3 (by omega) (by decide) rfl ?_
  refine un_step rfl ?_
  refine rx_step h5 h4 1 2 0 (by omega) (by decide) (by decide) rfl rfl (by decide) (by decide) rfl (fun a2_5 ea2_5 => ?_)
  refine sC_step h5 2 0 3 (by omega) rfl (by decide) (by omega) (fun M6 h6 => ?_)
  refine rc_step h6 1 (by omega) (by decide) rfl ?_
  refine al_step h6 (by omega) (fun K7 L7 M7 h7 => ?_)
  refine rc_step h7 4 (by omega) (by decide) rfl ?_
  refine un_step rfl ?_
  refine rx_step h7 h6 1 2 1 (by omega) (by decide) (by decide) rfl rfl (by decide) (by decide) rfl (fun a2_7 ea2_7 => ?_)
  refine sC_step h7 2 1 4 (by omega) rfl (by decide) (by omega) (fun M8 h8 => ?_)
  refine rc_step h8 1 (by omega) (by decide) rfl ?_
  refine al_step h8 (by omega) (fun K9 L9 M9 h9 => ?_)
  refine rc_step h9 5 (by omega) (by decide) rfl ?_
  refine un_step rfl ?_
  refine rx_step h9 h8 1 2 2 (by omega) (by decide) (by decide) rfl rfl (by decide) (by decide) rfl (fun a2_9 ea2_9 => ?_)
  refine sC_step h9 2 2 5 (by omega) rfl (by decide) (by omega) (fun M10 h10 => ?_)
  refine rc_step h10 1 (by omega) (by decide) rfl ?_
  refine al_step h10 (by omega) (fun K11 L11 M11 h11 => ?_)
  refine rc_step h11 6 (by omega) (by decide) rfl ?_
  refine un_step rfl ?_
  refine rx_step h11 h10 1 2 3 (by omega) (by decide) (by decide) rfl rfl (by decide) (by decide) rfl (fun a2_11 ea2_11 => ?_)
  refine sC_step h11 2 3 6 (by omega) rfl (by decide) (by omega) (fun M12 h12 => ?_)
  refine rc_step h12 1 (by omega) (by decide) rfl ?_
  refine al_step h12 (by omega) (fun K13 L13 M13 h13 => ?_)
  refine rc_step h13 7 (by omega) (by decide) rfl ?_
  refine un_step rfl ?_
  refine rx_step h13 h12 1 2 4 (by omega) (by decide) (by decide) rfl rfl (by decide) (by decide) rfl (fun a2_13 ea2_13 => ?_)
  refine sC_step h13 2 4 7 (by omega) rfl (by decide) (by omega) (fun M14 h14 => ?_)
  refine rc_step h14 1 (by omega) (by decide) rfl ?_
  refine al_step h14 (by omega) (fun K15 L15 M15 h15 => ?_)
  refine rc_step h15 8 (by omega) (by decide) rfl ?_
  refine un_step rfl ?_
  refine rx_step h15 h14 1 2 5 (by omega) (by decide) (by decide) rfl rfl (by decide) (by decide) rfl (fun a2_15 ea2_15 => ?_)
  refine sC_step h15 2 5 8 (by omega) rfl (by decide) (by omega) (fun M16 h16 => ?_)
  refine rc_step h16 1 (by omega) (by decide) rfl ?_
  refine al_step h16 (by omega) (fun K17 L17 M17 h17 => ?_)
  refine rc_step h17 9 (by omega) (by decide) rfl ?_
  refine un_step rfl ?_
  refine rx_step h17 h16 1 2 6 (by omega) (by decide) (by decide) rfl rfl (by decide) (by decide) rfl (fun a2_17 ea2_17 => ?_)
  refine sC_step h17 2 6 9 (by omega) rfl (by decide) (by omega) (fun M18 h18 => ?_)
  refine rc_step h18 1 (by omega) (by decide) rfl ?_
  refine al_step h18 (by omega) (fun K19 L19 M19 h19 => ?_)
  refine rc_step h19 10 (by omega) (by decide) rfl ?_
  refine un_step rfl ?_
  refine rx_step h19 h18 1 2 7 (by omega) (by decide) (by decide) rfl rfl (by decide) (by decide) rfl (fun a2_19 ea2_19 => ?_)
  refine sC_step h19 2 7 10 (by omega) rfl (by decide) (by omega) (fun M20 h20 => ?_)
  refine rc_step h20 1 (by omega) (by decide) rfl ?_
  refine al_step h20 (by omega) (fun K21 L21 M21 h21 => ?_)
  refine rc_step h21 11 (by omega) (by decide) rfl ?_
  refine un_step rfl ?_
  refine rx_step h21 h20 1 2 8 (by omega) (by decide) (by decide) rfl rfl (by decide) (by decide) rfl (fun a2_21 ea2_21 => ?_)
  refine sC_step h21 2 8 11 (by omega) rfl (by decide) (by omega) (fun M22 h22 => ?_)
  refine rc_step h22 1 (by omega) (by decide) rfl ?_
  refine al_step h22 (by omega) (fun K23 L23 M23 h23 => ?_)
  refine rc_step h23 12 (by omega) (by decide) rfl ?_
  refine un_step rfl ?_
  refine rx_step h23 h22 1 2 9 (by omega) (by decide) (by decide) rfl rfl (by decide) (by decide) rfl (fun a2_23 ea2_23 => ?_)
  refine sC_step h23 2 9 12 (by omega) rfl (by decide) (by omega) (fun M24 h24 => ?_)
  refine rc_step h24 1 (by omega) (by decide) rfl ?_
  refine al_step h24 (by omega) (fun K25 L25 M25 h25 => ?_)
  refine rc_step h25 13 (by omega) (by decide) rfl ?_
  refine un_step rfl ?_
  refine rx_step h25 h24 1 2 10 (by omega) (by decide) (by decide) rfl rfl (by decide) (by decide) rfl (fun a2_25 ea2_25 => ?_)
  refine sC_step h25 2 10 13 (by omega) rfl (by decide) (by omega) (fun M26 h26 => ?_)
  refine rc_step h26 1 (by omega) (by decide) rfl ?_
  refine al_step h26 (by omega) (fun K27 L27 M27 h27 => ?_)
  refine rc_step h27 14 (by omega) (by decide) rfl ?_
  refine un_step rfl ?_
  refine rx_step h27 h26 1 2 11 (by omega) (by decide) (by decide) rfl rfl (by decide) (by decide) rfl (fun a2_27 ea2_27 => ?_)
  refine sC_step h27 2 11 14 (by omega) rfl (by decide) (by omega) (fun M28 h28 => ?_)
  refine rc_step h28 1 (by omega) (by decide) rfl ?_
  refine al_step h28 (by omega) (fun K29 L29 M29 h29 => ?_)
  refine rc_step h29 15 (by omega) (by decide) rfl ?_
  refine un_step rfl ?_
  refine rx_step h29 h28 1 2 12 (by omega) (by decide) (by decide) rfl rfl (by decide) (by decide) rfl (fun a2_29 ea2_29 => ?_)
  refine sC_step h29 2 12 15 (by omega) rfl (by decide) (by omega) (fun M30 h30 => ?_)
  refine rc_step h30 1 (by omega) (by decide) rfl ?_
  refine al_step h30 (by omega) (fun K31 L31 M31 h31 => ?_)
  refine rc_step h31 16 (by omega) (by decide) rfl ?_
  refine un_step rfl ?_
  refine rx_step h31 h30 1 2 13 (by omega) (by decide) (by decide) rfl rfl (by decide) (by decide) rfl (fun a2_31 ea2_31 => ?_)
  refine sC_step h31 2 13 16 (by omega) rfl (by decide) (by omega) (fun M32 h32 => ?_)
  refine rc_step h32 1 (by omega) (by decide) rfl ?_
  refine al_step h32 (by omega) (fun K33 L33 M33 h33 => ?_)
  refine rc_step h33 17 (by omega) (by decide) rfl ?_
  refine un_step rfl ?_
  refine rx_step h33 h32 1 2 14 (by omega) (by decide) (by decide) rfl rfl (by decide) (by decide) rfl (fun a2_33 ea2_33 => ?_)
  refine sC_step h33 2 14 17 (by omega) rfl (by decide) (by omega) (fun M34 h34 => ?_)
  refine rc_step h34 1 (by omega) (by decide) rfl ?_
  refine al_step h34 (by omega) (fun K35 L35 M35 h35 => ?_)
  refine rc_step h35 18 (by omega) (by decide) rfl ?_
  refine un_step rfl ?_
  refine rx_step h35 h34 1 2 15 (by omega) (by decide) (by decide) rfl rfl (by decide) (by decide) rfl (fun a2_35 ea2_35 => ?_)
  refine sC_step h35 2 15 18 (by omega) rfl (by decide) (by omega) (fun M36 h36 => ?_)
  refine ⟨_, rfl, ?_⟩
  refine rc_step h36 0 (by omega) (by decide) rfl ?_
  refine sR_step h36 0 1 (by omega) (by decide) (by omega) (fun M37 h37 => ?_)
  refine al_step h37 (by omega) (fun K38 L38 M38 h38 => ?_)
  refine rc_step h38 19 (by omega) (by decide) rfl ?_
  refine cl_step ?_
  try unfold f_X8_init
  refine al_step h38 (by omega) (fun K39 L39 M39 h39 => ?_)
  refine rc_step h39 19 (by omega) (by decide) rfl ?_
  refine sR_step h39 19 20 (by omega) (by decide) (by omega) (fun M40 h40 => ?_)
  refine al_step h40 (by omega) (fun K41 L41 M41 h41 => ?_)
  refine rc_step h41 21 (by omega) (by decide) rfl ?_
  refine un_step rfl ?_
  refine rx_step h41 h40 19 20 0 (by omega) (by decide) (by decide) rfl rfl (by decide) (by decide) rfl (fun a20_41 ea20_41 => ?_)
  refine sC_step h41 20 0 21 (by omega) rfl (by decide) (by omega) (fun M42 h42 => ?_)
  refine rc_step h42 19 (by omega) (by decide) rfl ?_
  refine al_step h42 (by omega) (fun K43 L43 M43 h43 => ?_)
  refine rc_step h43 22 (by omega) (by decide) rfl ?_
  refine un_step rfl ?_
  refine rx_step h43 h42 19 20 1 (by omega) (by decide) (by decide) rfl rfl (by decide) (by decide) rfl (fun a20_43 ea20_43 => ?_)
  refine sC_step h43 20 1 22 (by omega) rfl (by decide) (by omega) (fun M44 h44 => ?_)
  refine rc_step h44 19 (by omega) (by decide) rfl ?_
  refine al_step h44 (by omega) (fun K45 L45 M45 h45 => ?_)
  refine rc_step h45 23 (by omega) (by decide) rfl ?_
  refine un_step rfl ?_
  refine rx_step h45 h44 19 20 2 (by omega) (by decide) (by decide) rfl rfl (by decide) (by decide) rfl (fun a20_45 ea20_45 => ?_)
  refine sC_step h45 20 2 23 (by omega) rfl (by decide) (by omega) (fun M46 h46 => ?_)
  refine rc_step h46 19 (by omega) (by decide) rfl ?_
  refine al_step h46 (by omega) (fun K47 L47 M47 h47 => ?_)
  refine rc_step h47 24 (by omega) (by decide) rfl ?_
  refine un_step rfl ?_
  refine rx_step h47 h46 19 20 3 (by omega) (by decide) (by decide) rfl rfl (by decide) (by decide) rfl (fun a20_47 ea20_47 => ?_)
  refine sC_step h47 20 3 24 (by omega) rfl (by decide) (by omega) (fun M48 h48 => ?_)
  refine rc_step h48 19 (by omega) (by decide) rfl ?_
  refine al_step h48 (by omega) (fun K49 L49 M49 h49 => ?_)
  refine rc_step h49 25 (by omega) (by decide) rfl ?_
  refine un_step rfl ?_
  refine rx_step h49 h48 19 20 4 (by omega) (by decide) (by decide) rfl rfl (by decide) (by decide) rfl (fun a20_49 ea20_49 => ?_)
  refine sC_step h49 20 4 25 (by omega) rfl (by decide) (by omega) (fun M50 h50 => ?_)
  refine rc_step h50 19 (by omega) (by decide) rfl ?_
  refine al_step h50 (by omega) (fun K51 L51 M51 h51 => ?_)
  refine rc_step h51 26 (by omega) (by decide) rfl ?_
  refine un_step rfl ?_
  refine rx_step h51 h50 19 20 5 (by omega) (by decide) (by decide) rfl rfl (by decide) (by decide) rfl (fun a20_51 ea20_51 => ?_)
  refine sC_step h51 20 5 26 (by omega) rfl (by decide) (by omega) (fun M52 h52 => ?_)
  refine rc_step h52 19 (by omega) (by decide) rfl ?_
  refine al_step h52 (by omega) (fun K53 L53 M53 h53 => ?_)
  refine rc_step h53 27 (by omega) (by decide) rfl ?_
  refine un_step rfl ?_
  refine rx_step h53 h52 19 20 6 (by omega) (by decide) (by decide) rfl rfl (by decide) (by decide) rfl (fun a20_53 ea20_53 => ?_)
  refine sC_step h53 20 6 27 (by omega) rfl (by decide) (by omega) (fun M54 h54 => ?_)
  refine rc_step h54 19 (by omega) (by decide) rfl ?_
  refine al_step h54 (by omega) (fun K55 L55 M55 h55 => ?_)
  refine rc_step h55 28 (by omega) (by decide) rfl ?_
  refine un_step rfl ?_
  refine rx_step h55 h54 19 20 7 (by omega) (by decide) (by decide) rfl rfl (by decide) (by decide) rfl (fun a20_55 ea20_55 => ?_)
  refine sC_step h55 20 7 28 (by omega) rfl (by decide) (by omega) (fun M56 h56 => ?_)
  refine rc_step h56 19 (by omega) (by decide) rfl ?_
  refine al_step h56 (by omega) (fun K57 L57 M57 h57 => ?_)
  refine rc_step h57 29 (by omega) (by decide) rfl ?_
  refine un_step rfl ?_
  refine rx_step h57 h56 19 20 8 (by omega) (by decide) (by decide) rfl rfl (by decide) (by decide) rfl (fun a20_57 ea20_57 => ?_)
  refine sC_step h57 20 8 29 (by omega) rfl (by decide) (by omega) (fun M58 h58 => ?_)
  refine rc_step h58 19 (by omega) (by decide) rfl ?_
  refine al_step h58 (by omega) (fun K59 L59 M59 h59 => ?_)
  refine rc_step h59 30 (by omega) (by decide) rfl ?_
  refine un_step rfl ?_
  refine rx_step h59 h58 19 20 9 (by omega) (by decide) (by decide) rfl rfl (by decide) (by decide) rfl (fun a20_59 ea20_59 => ?_)
  refine sC_step h59 20 9 30 (by omega) rfl (by decide) (by omega) (fun M60 h60 => ?_)
  refine rc_step h60 19 (by omega) (by decide) rfl ?_
  refine al_step h60 (by omega) (fun K61 L61 M61 h61 => ?_)
  refine rc_step h61 31 (by omega) (by decide) rfl ?_
  refine un_step rfl ?_
  refine rx_step h61 h60 19 20 10 (by omega) (by decide) (by decide) rfl rfl (by decide) (by decide) rfl (fun a20_61 ea20_61 => ?_)
  refine sC_step h61 20 10 31 (by omega) rfl (by decide) (by omega) (fun M62 h62 => ?_)
  refine rc_step h62 19 (by omega) (by decide) rfl ?_
  refine al_step h62 (by omega) (fun K63 L63 M63 h63 => ?_)
  refine rc_step h63 32 (by omega) (by decide) rfl ?_
  refine un_step rfl ?_
  refine rx_step h63 h62 19 20 11 (by omega) (by decide) (by decide) rfl rfl (by decide) (by decide) rfl (fun a20_63 ea20_63 => ?_)
  refine sC_step h63 20 11 32 (by omega) rfl (by decide) (by omega) (fun M64 h64 => ?_)
  refine rc_step h64 19 (by omega) (by decide) rfl ?_
  refine al_step h64 (by omega) (fun K65 L65 M65 h65 => ?_)
  refine rc_step h65 33 (by omega) (by decide) rfl ?_
  refine un_step rfl ?_
  refine rx_step h65 h64 19 20 12 (by omega) (by decide) (by decide) rfl rfl (by decide) (by decide) rfl (fun a20_65 ea20_65 => ?_)
  refine sC_step h65 20 12 33 (by omega) rfl (by decide) (by omega) (fun M66 h66 => ?_)
  refine rc_step h66 19 (by omega) (by decide) rfl ?_
  refine al_step h66 (by omega) (fun K67 L67 M67 h67 => ?_)
  refine rc_step h67 34 (by omega) (by decide) rfl ?_
  refine un_step rfl ?_
  refine rx_step h67 h66 19 20 13 (by omega) (by decide) (by decide) rfl rfl (by decide) (by decide) rfl (fun a20_67 ea20_67 => ?_)
  refine sC_step h67 20 13 34 (by omega) rfl (by decide) (by omega) (fun M68 h68 => ?_)
  refine rc_step h68 19 (by omega) (by decide) rfl ?_
  refine al_step h68 (by omega) (fun K69 L69 M69 h69 => ?_)
  refine rc_step h69 35 (by omega) (by decide) rfl ?_
  refine un_step rfl ?_
  refine rx_step h69 h68 19 20 14 (by omega) (by decide) (by decide) rfl rfl (by decide) (by decide) rfl (fun a20_69 ea20_69 => ?_)
  refine sC_step h69 20 14 35 (by omega) rfl (by decide) (by omega) (fun M70 h70 => ?_)
  refine rc_step h70 19 (by omega) (by decide) rfl ?_
  refine al_step h70 (by omega) (fun K71 L71 M71 h71 => ?_)
  refine rc_step h71 36 (by omega) (by decide) rfl ?_
  refine un_step rfl ?_
  refine rx_step h71 h70 19 20 15 (by omega) (by decide) (by decide) rfl rfl (by decide) (by decide) rfl (fun a20_71 ea20_71 => ?_)
  refine sC_step h71 20 15 36 (by omega) rfl (by decide) (by omega) (fun M72 h72 => ?_)
  refine ⟨_, rfl, ?_⟩
  refine rc_step h72 0 (by omega) (by decide) rfl ?_
  refine sR_step h72 0 19 (by omega) (by decide) (by omega) (fun M73 h73 => ?_)
  refine sI_step h73 0 (by omega) (fun M74 h74 => ?_)
  refine al_step h74 (by omega) (fun K75 L75 M75 h75 => ?_)
  refine rc_step h75 37 (by omega) (by decide) rfl ?_
  refine cl_step ?_
  try unfold f_X1_init
  refine al_step h75 (by omega) (fun K76 L76 M76 h76 => ?_)
  refine rc_step h76 37 (by omega) (by decide) rfl ?_
  refine sR_step h76 37 38 (by omega) (by decide) (by omega) (fun M77 h77 => ?_)
  refine ⟨_, rfl, ?_⟩
  refine rc_step h77 0 (by omega) (by decide) rfl ?_
  refine sR_step h77 0 37 (by omega) (by decide) (by omega) (fun M78 h78 => ?_)
  refine al_step h78 (by omega) (fun K79 L79 M79 h79 => ?_)
  refine rc_step h79 39 (by omega) (by decide) rfl ?_
  refine cl_step ?_
  try unfold f_X5_init
  refine al_step h79 (by omega) (fun K80 L80 M80 h80 => ?_)
  refine rc_step h80 39 (by omega) (by decide) rfl ?_
  refine sR_step h80 39 40 (by omega) (by decide) (by omega) (fun M81 h81 => ?_)
  refine al_step h81 (by omega) (fun K82 L82 M82 h82 => ?_)
  refine rc_step h82 39 (by omega) (by decide) rfl ?_
  refine sR_step h82 39 41 (by omega) (by decide) (by omega) (fun M83 h83 => ?_)
  refine al_step h83 (by omega) (fun K84 L84 M84 h84 => ?_)
  refine rc_step h84 39 (by omega) (by decide) rfl ?_
  refine sR_step h84 39 42 (by omega) (by decide) (by omega) (fun M85 h85 => ?_)
  refine ⟨_, rfl, ?_⟩
  refine rc_step h85 0 (by omega) (by decide) rfl ?_
  refine sR_step h85 0 39 (by omega) (by decide) (by omega) (fun M86 h86 => ?_)
  refine al_step h86 (by omega) (fun K87 L87 M87 h87 => ?_)
  refine rc_step h87 0 (by omega) (by decide) rfl ?_
  refine sR_step h87 0 43 (by omega) (by decide) (by omega) (fun M88 h88 => ?_)
  refine ⟨_, rfl, ?_⟩
  have k44 := h88.al 12 0 (a := B + 44) rfl
  unfold f_X12_init
  refine al_step k44 (by omega) (fun K89 L89 M89 h89 => ?_)
  refine rc_step h89 44 (by omega) (by decide) rfl ?_
  refine sR_step h89 44 45 (by omega) (by decide) (by omega) (fun M90 h90 => ?_)
  refine al_step h90 (by omega) (fun K91 L91 M91 h91 => ?_)
  refine rc_step h91 44 (by omega) (by decide) rfl ?_
  refine sR_step h91 44 46 (by omega) (by decide) (by omega) (fun M92 h92 => ?_)
  refine al_step h92 (by omega) (fun K93 L93 M93 h93 => ?_)
  refine rc_step h93 44 (by omega) (by decide) rfl ?_
  refine sR_step h93 44 47 (by omega) (by decide) (by omega) (fun M94 h94 => ?_)
  refine al_step h94 (by omega) (fun K95 L95 M95 h95 => ?_)
  refine rc_step h95 44 (by omega) (by decide) rfl ?_
  refine sR_step h95 44 48 (by omega) (by decide) (by omega) (fun M96 h96 => ?_)
  refine al_step h96 (by omega) (fun K97 L97 M97 h97 => ?_)
  refine rc_step h97 44 (by omega) (by decide) rfl ?_
  refine sR_step h97 44 49 (by omega) (by decide) (by omega) (fun M98 h98 => ?_)
  refine al_step h98 (by omega) (fun K99 L99 M99 h99 => ?_)
  refine rc_step h99 44 (by omega) (by decide) rfl ?_
  refine sR_step h99 44 50 (by omega) (by decide) (by omega) (fun M100 h100 => ?_)
  refine al_step h100 (by omega) (fun K101 L101 M101 h101 => ?_)
  refine rc_step h101 44 (by omega) (by decide) rfl ?_
  refine sR_step h101 44 51 (by omega) (by decide) (by omega) (fun M102 h102 => ?_)
  refine al_step h102 (by omega) (fun K103 L103 M103 h103 => ?_)
  refine rc_step h103 44 (by omega) (by decide) rfl ?_
  refine sR_step h103 44 52 (by omega) (by decide) (by omega) (fun M104 h104 => ?_)
  refine al_step h104 (by omega) (fun K105 L105 M105 h105 => ?_)
  refine rc_step h105 44 (by omega) (by decide) rfl ?_
  refine sR_step h105 44 53 (by omega) (by decide) (by omega) (fun M106 h106 => ?_)
  refine al_step h106 (by omega) (fun K107 L107 M107 h107 => ?_)
  refine rc_step h107 44 (by omega) (by decide) rfl ?_
  refine sR_step h107 44 54 (by omega) (by decide) (by omega) (fun M108 h108 => ?_)
  refine ⟨_, rfl, (h88.kl 0 (by decide)).1, ?_⟩
  exact iv_start h108 ⟨⟨(h108.kl 44 (by decide)).1, h108.R0 44 384 (by decide), h108.R0 44 385 (by decide), h108.R0 44 386 (by decide), h108.R0 44 387 (by decide), h108.R0 44 389 (by decide), h108.R0 44 390 (by decide), h108.R0 44 396 (by decide), h108.R0 44 397 (by decide), h108.R0 44 398 (by decide), h108.R0 44 399 (by decide)⟩, ⟨(h108.kl 45 (by decide)).1, (h108.kl 46 (by decide)).1, (h108.kl 47 (by decide)).1, (h108.kl 48 (by decide)).1, (h108.kl 49 (by decide)).1, (h108.kl 50 (by decide)).1, (h108.kl 51 (by decide)).1, (h108.kl 52 (by decide)).1, (h108.kl 53 (by decide)).1, (h108.kl 54 (by decide)).1⟩, ⟨(h108.kl 45 (by decide)).2, (h108.kl 46 (by decide)).2, (h108.kl 47 (by decide)).2, (h108.kl 48 (by decide)).2, (h108.kl 49 (by decide)).2, (h108.kl 50 (by decide)).2, (h108.kl 51 (by decide)).2, (h108.kl 52 (by decide)).2, (h108.kl 53 (by decide)).2, (h108.kl 54 (by decide)).2⟩⟩
    ⟨⟨(h108.kl 0 (by decide)).1, h108.R0 0 352 (by decide), h108.R0 0 353 (by decide), h108.R0 0 355 (by decide), h108.R0 0 356 (by decide), h108.R0 0 357 (by decide)⟩, ⟨(h108.kl 1 (by decide)).1, h108.R0 1 256 (by decide), (h108.kl 2 (by decide)).1, (h108.kl 2 (by decide)).2, (by
    intro p hp
    rcases (show p = 0 ∨ p = 1 ∨ p = 2 ∨ p = 3 ∨ p = 4 ∨ p = 5 ∨ p = 6 ∨ p = 7 ∨ p = 8 ∨ p = 9 ∨ p = 10 ∨ p = 11 ∨ p = 12 ∨ p = 13 ∨ p = 14 ∨ p = 15 by omega) with rfl | rfl | rfl | rfl | rfl | rfl | rfl | rfl | rfl | rfl | rfl | rfl | rfl | rfl | rfl | rfl
    · exact ⟨h108.C0 2 0 (by decide), (h108.kl 3 (by decide)).1⟩
    · exact ⟨h108.C0 2 1 (by decide), (h108.kl 4 (by decide)).1⟩
    · exact ⟨h108.C0 2 2 (by decide), (h108.kl 5 (by decide)).1⟩
    · exact ⟨h108.C0 2 3 (by decide), (h108.kl 6 (by decide)).1⟩
    · exact ⟨h108.C0 2 4 (by decide), (h108.kl 7 (by decide)).1⟩
    · exact ⟨h108.C0 2 5 (by decide), (h108.kl 8 (by decide)).1⟩
    · exact ⟨h108.C0 2 6 (by decide), (h108.kl 9 (by decide)).1⟩
    · exact ⟨h108.C0 2 7 (by decide), (h108.kl 10 (by decide)).1⟩
    · exact ⟨h108.C0 2 8 (by decide), (h108.kl 11 (by decide)).1⟩
    · exact ⟨h108.C0 2 9 (by decide), (h108.kl 12 (by decide)).1⟩
    · exact ⟨h108.C0 2 10 (by decide), (h108.kl 13 (by decide)).1⟩
    · exact ⟨h108.C0 2 11 (by decide), (h108.kl 14 (by decide)).1⟩
    · exact ⟨h108.C0 2 12 (by decide), (h108.kl 15 (by decide)).1⟩
    · exact ⟨h108.C0 2 13 (by decide), (h108.kl 16 (by decide)).1⟩
    · exact ⟨h108.C0 2 14 (by decide), (h108.kl 17 (by decide)).1⟩
    · exact ⟨h108.C0 2 15 (by decide), (h108.kl 18 (by decide)).1⟩
    )⟩, ⟨(h108.kl 19 (by decide)).1, h108.R0 19 256 (by decide), (h108.kl 20 (by decide)).1, (h108.kl 20 (by decide)).2, (by
    intro p hp
    rcases (show p = 0 ∨ p = 1 ∨ p = 2 ∨ p = 3 ∨ p = 4 ∨ p = 5 ∨ p = 6 ∨ p = 7 ∨ p = 8 ∨ p = 9 ∨ p = 10 ∨ p = 11 ∨ p = 12 ∨ p = 13 ∨ p = 14 ∨ p = 15 by omega) with rfl | rfl | rfl | rfl | rfl | rfl | rfl | rfl | rfl | rfl | rfl | rfl | rfl | rfl | rfl | rfl
    · exact ⟨h108.C0 20 0 (by decide), (h108.kl 21 (by decide)).1⟩
    · exact ⟨h108.C0 20 1 (by decide), (h108.kl 22 (by decide)).1⟩
    · exact ⟨h108.C0 20 2 (by decide), (h108.kl 23 (by decide)).1⟩
    · exact ⟨h108.C0 20 3 (by decide), (h108.kl 24 (by decide)).1⟩
    · exact ⟨h108.C0 20 4 (by decide), (h108.kl 25 (by decide)).1⟩
    · exact ⟨h108.C0 20 5 (by decide), (h108.kl 26 (by decide)).1⟩
    · exact ⟨h108.C0 20 6 (by decide), (h108.kl 27 (by decide)).1⟩
    · exact ⟨h108.C0 20 7 (by decide), (h108.kl 28 (by decide)).1⟩
    · exact ⟨h108.C0 20 8 (by decide), (h108.kl 29 (by decide)).1⟩
    · exact ⟨h108.C0 20 9 (by decide), (h108.kl 30 (by decide)).1⟩
    · exact ⟨h108.C0 20 10 (by decide), (h108.kl 31 (by decide)).1⟩
    · exact ⟨h108.C0 20 11 (by decide), (h108.kl 32 (by decide)).1⟩
    · exact ⟨h108.C0 20 12 (by decide), (h108.kl 33 (by decide)).1⟩
    · exact ⟨h108.C0 20 13 (by decide), (h108.kl 34 (by decide)).1⟩
    · exact ⟨h108.C0 20 14 (by decide), (h108.kl 35 (by decide)).1⟩
    · exact ⟨h108.C0 20 15 (by decide), (h108.kl 36 (by decide)).1⟩
    )⟩, ⟨(h108.kl 37 (by decide)).1, h108.R0 37 39 (by decide), (h108.kl 38 (by decide)).1, (h108.kl 38 (by decide)).2⟩, ⟨(h108.kl 39 (by decide)).1, h108.R0 39 160 (by decide), h108.R0 39 161 (by decide), h108.R0 39 162 (by decide), (h108.kl 40 (by decide)).1, (h108.kl 40 (by decide)).2, (h108.kl 41 (by decide)).1, (h108.kl 41 (by decide)).2, (h108.kl 42 (by decide)).1, (h108.kl 42 (by decide)).2⟩, ⟨(h108.kl 43 (by decide)).1, (h108.kl 43 (by decide)).2⟩⟩
    (by
    intro q hq
    rcases (show q = 0 ∨ q = 1 ∨ q = 2 ∨ q = 3 ∨ q = 4 ∨ q = 5 ∨ q = 6 ∨ q = 7 ∨ q = 8 ∨ q = 9 ∨ q = 10 ∨ q = 11 ∨ q = 12 ∨ q = 13 ∨ q = 14 ∨ q = 15 ∨ q = 16 ∨ q = 17 ∨ q = 18 ∨ q = 19 ∨ q = 20 ∨ q = 21 ∨ q = 22 ∨ q = 23 ∨ q = 24 ∨ q = 25 ∨ q = 26 ∨ q = 27 ∨ q = 28 ∨ q = 29 ∨ q = 30 ∨ q = 31 by omega) with rfl | rfl | rfl | rfl | rfl | rfl | rfl | rfl | rfl | rfl | rfl | rfl | rfl | rfl | rfl | rfl | rfl | rfl | rfl | rfl | rfl | rfl | rfl | rfl | rfl | rfl | rfl | rfl | rfl | rfl | rfl | rfl
    · exact ⟨h108.R0 3 128 (by decide), h108.R0 3 131 (by decide)⟩
    · exact ⟨h108.R0 4 128 (by decide), h108.R0 4 131 (by decide)⟩
    · exact ⟨h108.R0 5 128 (by decide), h108.R0 5 131 (by decide)⟩
    · exact ⟨h108.R0 6 128 (by decide), h108.R0 6 131 (by decide)⟩
    · exact ⟨h108.R0 7 128 (by decide), h108.R0 7 131 (by decide)⟩
    · exact ⟨h108.R0 8 128 (by decide), h108.R0 8 131 (by decide)⟩
    · exact ⟨h108.R0 9 128 (by decide), h108.R0 9 131 (by decide)⟩
    · exact ⟨h108.R0 10 128 (by decide), h108.R0 10 131 (by decide)⟩
    · exact ⟨h108.R0 11 128 (by decide), h108.R0 11 131 (by decide)⟩
    · exact ⟨h108.R0 12 128 (by decide), h108.R0 12 131 (by decide)⟩
    · exact ⟨h108.R0 13 128 (by decide), h108.R0 13 131 (by decide)⟩
    · exact ⟨h108.R0 14 128 (by decide), h108.R0 14 131 (by decide)⟩
    · exact ⟨h108.R0 15 128 (by decide), h108.R0 15 131 (by decide)⟩
    · exact ⟨h108.R0 16 128 (by decide), h108.R0 16 131 (by decide)⟩
    · exact ⟨h108.R0 17 128 (by decide), h108.R0 17 131 (by decide)⟩
    · exact ⟨h108.R0 18 128 (by decide), h108.R0 18 131 (by decide)⟩
    · exact ⟨h108.R0 21 128 (by decide), h108.R0 21 131 (by decide)⟩
    · exact ⟨h108.R0 22 128 (by decide), h108.R0 22 131 (by decide)⟩
    · exact ⟨h108.R0 23 128 (by decide), h108.R0 23 131 (by decide)⟩
    · exact ⟨h108.R0 24 128 (by decide), h108.R0 24 131 (by decide)⟩
    · exact ⟨h108.R0 25 128 (by decide), h108.R0 25 131 (by decide)⟩
    · exact ⟨h108.R0 26 128 (by decide), h108.R0 26 131 (by decide)⟩
    · exact ⟨h108.R0 27 128 (by decide), h108.R0 27 131 (by decide)⟩
    · exact ⟨h108.R0 28 128 (by decide), h108.R0 28 131 (by decide)⟩
    · exact ⟨h108.R0 29 128 (by decide), h108.R0 29 131 (by decide)⟩
    · exact ⟨h108.R0 30 128 (by decide), h108.R0 30 131 (by decide)⟩
    · exact ⟨h108.R0 31 128 (by decide), h108.R0 31 131 (by decide)⟩
    · exact ⟨h108.R0 32 128 (by decide), h108.R0 32 131 (by decide)⟩
    · exact ⟨h108.R0 33 128 (by decide), h108.R0 33 131 (by decide)⟩
    · exact ⟨h108.R0 34 128 (by decide), h108.R0 34 131 (by decide)⟩
    · exact ⟨h108.R0 35 128 (by decide), h108.R0 35 131 (by decide)⟩
    · exact ⟨h108.R0 36 128 (by decide), h108.R0 36 131 (by decide)⟩
    )
