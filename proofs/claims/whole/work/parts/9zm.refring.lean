/-! rings: the reference finds one, and keeps it -/
section FM
variable {A : Nat → Nat → Prop} {g m v i : Nat} {h : Nat → Nat}
theorem far_is (f : Fs A g 17 0 0 h) (hS : Sm A g (m + 1) v) (hm : 1 ≤ m) (hm2 : m ≤ 15) (hi : i < 16) (hg : g < 16) (ha : A v i) : h i = m ↔ Lp A g m i := by
  obtain ⟨f1, f2, f3⟩ := f.1 i hi
  constructor
  · intro e
    refine ⟨by rw [← e]; exact f3 (by omega), fun n hn hP => ?_⟩
    by_cases e0 : n = 0
    · subst e0
      have : i = g := hP
      subst this
      exact hS.2 1 (by omega) (by omega) ⟨i, hi, ha, rfl⟩
    · have := f.2.1 i n hi (by omega) (by omega) hP
      omega
  · intro l
    have h1 := f.2.1 i m hi hm (by omega) l.1
    by_cases e : h i < m
    · exact absurd (f3 (by omega)) (l.2 (h i) e)
    · omega
end FM
section RI
variable {B : Nat} {K L : Nat → Nat} {fu g : Nat} {S : Nat → Int32}
theorem no_loop (w : WF S) (hfu : 1000 ≤ fu) {N : Mm} {h : Nat → Nat} {m v q : Nat} (hM : MS B K L (mm_R N)) (hS : mm_A N (B + 45) = S) (hF : farR B N h) (f : Fs (asksS S) g 17 0 0 h) (hs : Sm (asksS S) g (m + 1) v) (hv : v < 16) (hg : g < 16) (hm : 1 ≤ m) (hm2 : m ≤ 15) (hq : Nx (asksS S) g m v q) : ∀ (d x i : Nat), i + d = q → d < x → f_X12_nextOn_2 K L fu N (B + 44) x (nI v) (nI m) (nI i) = some (nI q) := by
  intro d
  induction d with
  | zero =>
    intro x i h1 h2
    obtain ⟨x, rfl⟩ : ∃ x', x = x' + 1 := ⟨x - 1, by omega⟩
    have : i = q := by omega
    subst this
    have hi : i < 16 := hq.1
    have hr14 : mm_R N (32 * 12 + 14) (B + 44) = some (B + 53) := hM.1.2.2.2.2.2.2.2.2.2.1
    have hx : rx K L (some (B + 53)) 13 (nI i) = some (B + 53) := rx_ok hM.2.1.2.2.2.2.2.2.2.2.1 hM.2.2.2.2.2.2.2.2.2.2.1 hi (by decide)
    obtain ⟨r, k1, k2, k3⟩ := asks_m (fu := fu) (q := i) hM hS w hv hfu
    have e1 : r = 1 := k3.mpr hq.2.1
    have e2 : h i = m := (far_is f hs hm hm2 hi hg hq.2.1).mpr hq.2.2.1
    show f_X12_nextOn_2b K L fu (f_X12_nextOn_2 K L fu N (B + 44) x) N (B + 44) (nI v) (nI m) (nI i) = _
    unfold f_X12_nextOn_2b
    rw [if_neg (show ¬ (16 : Int32) ≤ nI i by rw [t_le, nI_toInt (by omega), show (16 : Int32).toInt = 16 from rfl]; omega), hr14, hx, nI_clamp (show i < 2 ^ 31 by omega)]
    refine (sb rfl _).trans ?_
    rw [hF i hi, e2, if_pos rfl]
    refine (sb k1 _).trans ?_
    rw [e1, if_neg (by decide)]
  | succ d ih =>
    intro x i h1 h2
    obtain ⟨x, rfl⟩ : ∃ x', x = x' + 1 := ⟨x - 1, by omega⟩
    have hi : i < 16 := by have := hq.1; omega
    have hr14 : mm_R N (32 * 12 + 14) (B + 44) = some (B + 53) := hM.1.2.2.2.2.2.2.2.2.2.1
    have hx : rx K L (some (B + 53)) 13 (nI i) = some (B + 53) := rx_ok hM.2.1.2.2.2.2.2.2.2.2.1 hM.2.2.2.2.2.2.2.2.2.2.1 hi (by decide)
    obtain ⟨r, k1, k2, k3⟩ := asks_m (fu := fu) (q := i) hM hS w hv hfu
    have hb := (f.1 i hi).2.1
    show f_X12_nextOn_2b K L fu (f_X12_nextOn_2 K L fu N (B + 44) x) N (B + 44) (nI v) (nI m) (nI i) = _
    unfold f_X12_nextOn_2b
    rw [if_neg (show ¬ (16 : Int32) ≤ nI i by rw [t_le, nI_toInt (by omega), show (16 : Int32).toInt = 16 from rfl]; omega), hr14, hx, nI_clamp (show i < 2 ^ 31 by omega), nI_1]
    refine (sb rfl _).trans ?_
    rw [hF i hi, ih x (i + 1) (by omega) (by omega)]
    by_cases y : nI (h i) = nI m
    · rw [if_pos y]
      refine (sb k1 _).trans ?_
      have e2 : h i = m := (nI_eq (by omega) (by omega)).mp y
      rw [if_pos (k2.resolve_right (fun z => ?_))]
      have ha := k3.mp z
      exact hq.2.2.2 i (by omega) ha ((far_is f hs hm hm2 hi hg ha).mp e2)
    · rw [if_neg y]
/-- the class's kept ring stays -/
def kpt (B : Nat) (N N' : Mm) : Prop := mm_A N' (B + 42) = mm_A N (B + 42) ∧ mm_I N' 163 (B + 39) = mm_I N 163 (B + 39)
theorem ri_loop (w : WF S) (hfu : 1000 ≤ fu) (hg : g < 16) {D : Nat} {h : Nat → Nat} (f : Fs (asksS S) g 17 0 0 h) (hD : D ≤ 16) (hs : Sm (asksS S) g D g) : ∀ (d x j : Nat) (v : Int32) (N : Mm), (1 ≤ d → v = nI (wlk (asksS S) g D j)) → MS B K L (mm_R N) → mm_A N (B + 45) = S → farR B N h → mm_I N 391 (B + 44) = nI j → (∀ i, i < j → mm_A N (B + 50) i = nI (wlk (asksS S) g D i)) → j + d = D → d < x → ∃ N', f_X12_isRing_41 K L fu (B + 44) x (nI g) v (nI d) N = some (1, N') ∧ scK B N N' ∧ kpt B N N' ∧ mm_I N' 391 (B + 44) = nI D ∧ ∀ i, i < D → mm_A N' (B + 50) i = nI (wlk (asksS S) g D i) := by
  intro d
  induction d with
  | zero =>
    intro x j v N hv hM hS hF hI hA h1 h2
    obtain ⟨x, rfl⟩ : ∃ x', x = x' + 1 := ⟨x - 1, by omega⟩
    have : j = D := by omega
    subst this
    refine ⟨N, ?_, scK.rf B N, ⟨rfl, rfl⟩, hI, hA⟩
    show f_X12_isRing_41b K L fu (f_X12_isRing_41 K L fu (B + 44) x) (B + 44) (nI g) v (nI 0) N = _
    unfold f_X12_isRing_41b
    rw [if_pos (by decide)]
  | succ d ih =>
    intro x j v N hv hM hS hF hI hA h1 h2
    obtain ⟨x, rfl⟩ : ∃ x', x = x' + 1 := ⟨x - 1, by omega⟩
    have ev := hv (by omega)
    subst ev
    obtain ⟨N5, hN5⟩ : ∃ X, X = ms_I (ms_A N (B + 50) (upd (mm_A N (B + 50)) j (nI (wlk (asksS S) g D j)))) (32 * 12 + 7) (B + 44) (nI (j + 1)) := ⟨_, rfl⟩
    have s5 : scK B N N5 := by rw [hN5]; exact scK.A5.tr scK.I9
    have k5 : kpt B N N5 := by
      rw [hN5]
      exact ⟨by rw [A_I, A_A, if_neg (by omega)], by rw [I_I, if_neg (by omega), I_A]⟩
    have hM5 : MS B K L (mm_R N5) := s5.MS hM
    have hS5 : mm_A N5 (B + 45) = S := s5.S.trans hS
    have hF5 : farR B N5 h := fun p hp => by rw [hN5, A_I, A_A, if_neg (by omega)]; exact hF p hp
    obtain ⟨hw, hsj⟩ := wlk_ok hg hs j (by omega)
    have E : f_X12_isRing_41 K L fu (B + 44) (x + 1) (nI g) (nI (wlk (asksS S) g D j)) (nI (d + 1)) N = if nI d = 0 then f_X12_isRing_41 K L fu (B + 44) x (nI g) (nI g) (nI d) N5 else Option.bind (f_X12_nextOn K L fu N5 (B + 44) (nI (wlk (asksS S) g D j)) (nI d)) (fun x7 => f_X12_isRing_41 K L fu (B + 44) x (nI g) x7 (nI d) N5) := by
      show f_X12_isRing_41b K L fu (f_X12_isRing_41 K L fu (B + 44) x) (B + 44) (nI g) (nI (wlk (asksS S) g D j)) (nI (d + 1)) N = _
      unfold f_X12_isRing_41b
      rw [if_neg (nI_nle (by omega) (by omega)), show mm_I N (32 * 12 + 7) (B + 44) = nI j from hI, show mm_R N (32 * 12 + 6) (B + 44) = some (B + 50) from hM.1.2.2.2.2.2.2.1, rx_ok hM.2.1.2.2.2.2.2.1 hM.2.2.2.2.2.2.2.1 (show j < 16 by omega) (by decide)]
      refine (sb rfl _).trans ?_
      rw [bn_eq, bn_eq, nI_clamp (show j < 2 ^ 31 by omega), show mm_I (ms_A N (B + 50) (upd (mm_A N (B + 50)) j (nI (wlk (asksS S) g D j)))) (32 * 12 + 7) (B + 44) = nI j from hI, nI_1, ← hN5, pk_m1]
    have go : ∀ u : Int32, (1 ≤ d → u = nI (wlk (asksS S) g D (j + 1))) → ∃ N', f_X12_isRing_41 K L fu (B + 44) x (nI g) u (nI d) N5 = some (1, N') ∧ scK B N N' ∧ kpt B N N' ∧ mm_I N' 391 (B + 44) = nI D ∧ ∀ i, i < D → mm_A N' (B + 50) i = nI (wlk (asksS S) g D i) := by
      intro u hu
      obtain ⟨N', r1, r2, r3, r4⟩ := ih x (j + 1) u N5 hu hM5 hS5 hF5 (by rw [hN5, I_I, if_pos ⟨rfl, rfl⟩]) (fun i hi => by
        rw [hN5, A_I, A_A, if_pos rfl, upd_eq]
        by_cases e : i = j
        · rw [if_pos e, e]
        · rw [if_neg e]; exact hA i (by omega)) (by omega) (by omega)
      exact ⟨N', r1, s5.tr r2, ⟨r3.1.trans k5.1, r3.2.trans k5.2⟩, r4⟩
    rw [E]
    by_cases e : d = 0
    · rw [if_pos (by rw [e]; rfl)]
      exact go (nI g) (fun y => by omega)
    · rw [if_neg (nI_ne0 (by omega) (by omega))]
      rw [show D - j = (D - 1 - j) + 1 by omega] at hsj
      obtain ⟨q, hq⟩ := nx_ex hsj
      have ew : wlk (asksS S) g D (j + 1) = q := nxf_eq hq
      have ed : D - 1 - j = d := by omega
      rw [ed] at hsj hq
      have en : f_X12_nextOn K L fu N5 (B + 44) (nI (wlk (asksS S) g D j)) (nI d) = some (nI q) := by
        unfold f_X12_nextOn
        exact no_loop w hfu hM5 hS5 hF5 f hsj hw hg (by omega) (by omega) hq q fu 0 (by omega) (by have := hq.1; omega)
      rw [sb en]
      exact go (nI q) (fun _ => by rw [ew])
/-- what a search of the reference leaves -/
def fnM (A : Nat → Nat → Prop) (B : Nat) (N : Mm) (r : Int32) (N' : Mm) : Prop := (r = 0 ∧ (∀ g, g < 16 → ¬ Cy A g) ∧ scr B N N') ∨ (r = 1 ∧ ∃ g D, Rg A g D ∧ scK B N N' ∧ kpt B N N' ∧ mm_I N' 391 (B + 44) = nI D ∧ ∀ i, i < D → mm_A N' (B + 50) i = nI (wlk A g D i))
theorem kpt.of {N N' : Mm} (h : scr B N N') : kpt B N N' := ⟨h.2.2.2.1 _ (by omega) (by omega) (by omega) (by omega) (by omega) (by omega) (by omega), h.2.2.2.2.1 _ _ (by omega) (by omega)⟩
theorem ir_loop (w : WF S) (hfu : 1000 ≤ fu) : ∀ (d x v : Nat) (N : Mm), MS B K L (mm_R N) → mm_A N (B + 45) = S → (∀ g, g < v → ¬ Cy (asksS S) g) → v + d = 16 → d < x → ∃ r N', f_X12_isRing_2 K L fu (B + 44) x (nI v) N = some (r, N') ∧ fnM (asksS S) B N r N' := by
  intro d
  induction d with
  | zero =>
    intro x v N hM hS hno h1 h2
    obtain ⟨x, rfl⟩ : ∃ x', x = x' + 1 := ⟨x - 1, by omega⟩
    have : v = 16 := by omega
    subst this
    refine ⟨0, N, ?_, Or.inl ⟨rfl, hno, scr.rf B N⟩⟩
    show f_X12_isRing_2b K L fu (f_X12_isRing_2 K L fu (B + 44) x) (B + 44) (nI 16) N = _
    unfold f_X12_isRing_2b
    rw [if_pos (by decide)]
  | succ d ih =>
    intro x v N hM hS hno h1 h2
    obtain ⟨x, rfl⟩ : ∃ x', x = x' + 1 := ⟨x - 1, by omega⟩
    have hv : v < 16 := by omega
    obtain ⟨N1, h, a1, a2, a3, a4⟩ := findFar_eq (fu := fu) (gg := v) (K := K) (L := L) (B := B) w hfu hv hM hS
    have hM1 : MS B K L (mm_R N1) := a2.MS hM
    have hr14 : mm_R N1 (32 * 12 + 14) (B + 44) = some (B + 53) := hM1.1.2.2.2.2.2.2.2.2.2.1
    have hx : rx K L (some (B + 53)) 13 (nI v) = some (B + 53) := rx_ok hM.2.1.2.2.2.2.2.2.2.2.1 hM.2.2.2.2.2.2.2.2.2.2.1 hv (by decide)
    obtain ⟨b1, b2, b3⟩ := a4.1 v hv
    have E : f_X12_isRing_2 K L fu (B + 44) (x + 1) (nI v) N = if h v ≤ 16 then f_X12_isRing_41 K L fu (B + 44) fu (nI v) (nI v) (nI (h v)) (ms_I N1 (32 * 12 + 7) (B + 44) 0) else f_X12_isRing_2 K L fu (B + 44) x (nI (v + 1)) N1 := by
      show f_X12_isRing_2b K L fu (f_X12_isRing_2 K L fu (B + 44) x) (B + 44) (nI v) N = _
      unfold f_X12_isRing_2b
      rw [if_neg (show ¬ (16 : Int32) ≤ nI v by rw [t_le, nI_toInt (by omega), show (16 : Int32).toInt = 16 from rfl]; omega), nI_1, nI_clamp (show v < 2 ^ 31 by omega)]
      refine (sb a1 _).trans ?_
      rw [hr14, hx]
      refine (sb rfl _).trans ?_
      rw [a3 v hv]
      have hle : nI (h v) ≤ (16 : Int32) ↔ h v ≤ 16 := nI_leI (b := 16) (by omega) (by omega)
      by_cases y : h v ≤ 16
      · rw [if_pos y, if_pos (hle.mpr y), bn_eq, R_I, hr14, hx]
        refine (sb rfl _).trans ?_
        rw [bn_eq, A_I, a3 v hv]
      · rw [if_neg y, if_neg (fun z => y (hle.mp z))]
    rw [E]
    by_cases y : h v ≤ 16
    · rw [if_pos y]
      have hs : Sm (asksS S) v (h v) v := ⟨b3 (by omega), fun n n1 n2 hP => by have := a4.2.1 v n hv n1 (by omega) hP; omega⟩
      obtain ⟨N', r1, r2, r3, r4⟩ := ri_loop (B := B) (K := K) (L := L) (fu := fu) w hfu hv a4 y hs (h v) fu 0 (nI v) (ms_I N1 391 (B + 44) 0) (fun _ => rfl) hM1 (a2.S.trans hS) a3 (by rw [I_I, if_pos ⟨rfl, rfl⟩]; rfl) (fun i hi => by omega) (by omega) (by omega)
      have k1 : kpt B N (ms_I N1 391 (B + 44) 0) := ⟨(kpt.of a2).1, by rw [I_I, if_neg (by omega)]; exact (kpt.of a2).2⟩
      exact ⟨1, N', r1, Or.inr ⟨rfl, v, h v, ⟨hv, b1, y, hs, hno⟩, ((scK.of a2).tr scK.I9).tr r2, ⟨r3.1.trans k1.1, r3.2.trans k1.2⟩, r4⟩⟩
    · rw [if_neg y]
      obtain ⟨r, N', r1, r2⟩ := ih x (v + 1) N1 hM1 (a2.S.trans hS) (fun g hg => by
        by_cases e : g = v
        · rw [e]
          rintro ⟨n, n1, n2, n3⟩
          have := a4.2.1 v n hv n1 (by omega) n3
          omega
        · exact hno g (by omega)) (by omega) (by omega)
      refine ⟨r, N', r1, ?_⟩
      rcases r2 with ⟨z1, z2, z3⟩ | ⟨z1, g, D, z2, z3, z4, z5⟩
      · exact Or.inl ⟨z1, z2, a2.tr z3⟩
      · exact Or.inr ⟨z1, g, D, z2, (scK.of a2).tr z3, ⟨z4.1.trans (kpt.of a2).1, z4.2.trans (kpt.of a2).2⟩, z5⟩
theorem isRing_eq (w : WF S) (hfu : 1000 ≤ fu) {N : Mm} (hM : MS B K L (mm_R N)) (hS : mm_A N (B + 45) = S) : ∃ r N', f_X12_isRing K L fu (B + 44) N = some (r, N') ∧ fnM (asksS S) B N r N' := by
  unfold f_X12_isRing
  exact ir_loop w hfu 16 fu 0 N hM hS (fun g hg => by omega) (by omega) (by omega)
end RI
