/-! rings: how far, in the reference -/
def Fs (A : Nat → Nat → Prop) (g c p0 q0 : Nat) (h : Nat → Nat) : Prop := (∀ p, p < 16 → 1 ≤ h p ∧ h p ≤ 100 ∧ (h p ≤ 99 → Pth A g (h p) p)) ∧ (∀ p n, p < 16 → 1 ≤ n → n ≤ c → Pth A g n p → h p ≤ n) ∧ ∀ p q, p < 16 → q < 16 → (p < p0 ∨ (p = p0 ∧ q < q0)) → A p q → Pth A g c q → h p ≤ c + 1
section FA
variable {A : Nat → Nat → Prop} {g c p0 q0 : Nat} {h : Nat → Nat}
theorem Fs.keep (f : Fs A g c p0 q0 h) (hx : A p0 q0 → h p0 ≤ h q0 + 1) (hc : 1 ≤ c) (hq : q0 < 16) : Fs A g c p0 (q0 + 1) h := by
  refine ⟨f.1, f.2.1, fun p q hp hq' hx' ha hP => ?_⟩
  by_cases e : p = p0 ∧ q = q0
  · have h1 := hx (by rw [← e.1, ← e.2]; exact ha)
    have h2 := f.2.1 q c hq' hc (Nat.le_refl _) hP
    rw [← e.1, ← e.2] at h1
    omega
  · exact f.2.2 p q hp hq' (by omega) ha hP
theorem Fs.less (f : Fs A g c p0 q0 h) (ha : A p0 q0) (hl : h q0 + 1 < h p0) (hc : 1 ≤ c) (hp0 : p0 < 16) (hq : q0 < 16) : Fs A g c p0 (q0 + 1) (fun p => if p = p0 then h q0 + 1 else h p) := by
  obtain ⟨f1, f2, f3⟩ := f
  have a0 := f1 p0 hp0
  have b0 := f1 q0 hq
  refine ⟨fun p hp => ?_, fun p n hp h1 h2 hP => ?_, fun p q hp hq' hx ha' hP => ?_⟩
  · dsimp only
    by_cases e : p = p0
    · rw [if_pos e]
      exact ⟨by omega, by omega, fun _ => by rw [e]; exact ⟨q0, hq, ha, b0.2.2 (by omega)⟩⟩
    · rw [if_neg e]; exact f1 p hp
  · dsimp only
    have := f2 p n hp h1 h2 hP
    by_cases e : p = p0
    · rw [if_pos e]; rw [e] at this; omega
    · rw [if_neg e]; exact this
  · dsimp only
    by_cases e : p = p0
    · rw [if_pos e]
      by_cases e2 : q = q0
      · have := f2 q c hq' hc (Nat.le_refl _) hP
        rw [e2] at this
        omega
      · have := f3 p q hp hq' (by omega) ha' hP
        rw [e] at this
        omega
    · rw [if_neg e]
      exact f3 p q hp hq' (by omega) ha' hP
theorem Fs.row (f : Fs A g c p0 16 h) : Fs A g c (p0 + 1) 0 h := ⟨f.1, f.2.1, fun p q hp hq hx => f.2.2 p q hp hq (by omega)⟩
theorem Fs.round (f : Fs A g c 16 0 h) : Fs A g (c + 1) 0 0 h := by
  refine ⟨f.1, fun p n hp h1 h2 hP => ?_, fun p q _ _ hx => by omega⟩
  by_cases e : n = c + 1
  · subst e
    obtain ⟨q, hq, ha, hP'⟩ := hP
    exact f.2.2 p q hp hq (Or.inl hp) ha hP'
  · exact f.2.1 p n hp h1 (by omega) hP
end FA
section FF
variable {B : Nat} {K L : Nat → Nat} {fu gg : Nat} {S : Nat → Int32}
def farR (B : Nat) (N : Mm) (h : Nat → Nat) : Prop := ∀ p, p < 16 → mm_A N (B + 53) p = nI (h p)
theorem far_q {k37 : Int32 → Mm → Option Mm} {k45 : Int32 → Int32 → Mm → Option Mm} (w : WF S) (hfu : 1000 ≤ fu) {c p0 : Nat} (hc : 1 ≤ c) (hp : p0 < 16) (v : Int32) : ∀ (d x q0 : Nat) (N : Mm) (h : Nat → Nat), MS B K L (mm_R N) → mm_A N (B + 45) = S → farR B N h → Fs (asksS S) gg c p0 q0 h → q0 + d = 16 → d < x → ∃ N' h', f_X12_findFar_54 K L fu k37 k45 (B + 44) x v (nI p0) (nI q0) N = k45 v (nI (p0 + 1)) N' ∧ scr B N N' ∧ farR B N' h' ∧ Fs (asksS S) gg c p0 16 h' := by
  intro d
  induction d with
  | zero =>
    intro x q0 N h hM hS hR hF h1 h2
    obtain ⟨x, rfl⟩ : ∃ x', x = x' + 1 := ⟨x - 1, by omega⟩
    have : q0 = 16 := by omega
    subst this
    refine ⟨N, h, ?_, scr.rf B N, hR, hF⟩
    show f_X12_findFar_54b K L fu k37 k45 (f_X12_findFar_54 K L fu k37 k45 (B + 44) x) (B + 44) v (nI p0) (nI 16) N = _
    unfold f_X12_findFar_54b
    rw [if_pos (by decide), nI_1]
  | succ d ih =>
    intro x q0 N h hM hS hR hF h1 h2
    obtain ⟨x, rfl⟩ : ∃ x', x = x' + 1 := ⟨x - 1, by omega⟩
    have hq : q0 < 16 := by omega
    have hr14 : mm_R N (32 * 12 + 14) (B + 44) = some (B + 53) := hM.1.2.2.2.2.2.2.2.2.2.1
    have hx : ∀ y, y < 16 → rx K L (some (B + 53)) 13 (nI y) = some (B + 53) := fun y hy => rx_ok hM.2.1.2.2.2.2.2.2.2.2.1 hM.2.2.2.2.2.2.2.2.2.2.1 hy (by decide)
    have a0 := hF.1 p0 hp
    have b0 := hF.1 q0 hq
    have hle : nI (h p0) ≤ nI (h q0) + 1 ↔ h p0 ≤ h q0 + 1 := by rw [nI_1, t_le, nI_toInt (by omega), nI_toInt (by omega)]; omega
    obtain ⟨r, k1, k2, k3⟩ := asks_m (fu := fu) (q := q0) hM hS w hp hfu
    have E : f_X12_findFar_54 K L fu k37 k45 (B + 44) (x + 1) v (nI p0) (nI q0) N = if h p0 ≤ h q0 + 1 then f_X12_findFar_54 K L fu k37 k45 (B + 44) x v (nI p0) (nI (q0 + 1)) N else if r = 0 then f_X12_findFar_54 K L fu k37 k45 (B + 44) x v (nI p0) (nI (q0 + 1)) N else f_X12_findFar_54 K L fu k37 k45 (B + 44) x v (nI p0) (nI (q0 + 1)) (ms_A N (B + 53) (upd (mm_A N (B + 53)) p0 (nI (h q0 + 1)))) := by
      show f_X12_findFar_54b K L fu k37 k45 (f_X12_findFar_54 K L fu k37 k45 (B + 44) x) (B + 44) v (nI p0) (nI q0) N = _
      unfold f_X12_findFar_54b
      rw [if_neg (show ¬ (16 : Int32) ≤ nI q0 by rw [t_le, nI_toInt (by omega), show (16 : Int32).toInt = 16 from rfl]; omega), hr14, hx p0 hp, hx q0 hq, nI_1 q0, nI_clamp (show p0 < 2 ^ 31 by omega), nI_clamp (show q0 < 2 ^ 31 by omega)]
      refine (sb rfl _).trans ?_
      refine (sb rfl _).trans ?_
      rw [hR p0 hp, hR q0 hq]
      by_cases y : h p0 ≤ h q0 + 1
      · rw [if_pos (hle.mpr y), if_pos y]
      · rw [if_neg (fun z => y (hle.mp z)), if_neg y]
        refine (sb k1 _).trans ?_
        by_cases z : r = 0
        · rw [if_pos z, if_pos z]
        · rw [if_neg z, if_neg z, bn_eq, nI_1]
    rw [E]
    by_cases y : h p0 ≤ h q0 + 1
    · rw [if_pos y]
      exact ih x (q0 + 1) N h hM hS hR (hF.keep (fun _ => y) hc hq) (by omega) (by omega)
    · rw [if_neg y]
      by_cases z : r = 0
      · rw [if_pos z]
        have hna : ¬ asksS S p0 q0 := fun u => by
          have := k3.mpr u
          rw [z] at this
          exact absurd this (by decide)
        exact ih x (q0 + 1) N h hM hS hR (hF.keep (fun u => absurd u hna) hc hq) (by omega) (by omega)
      · rw [if_neg z]
        have ha : asksS S p0 q0 := k3.mp (k2.resolve_left z)
        have sc : scr B N (ms_A N (B + 53) (upd (mm_A N (B + 53)) p0 (nI (h q0 + 1)))) := scr.Aa (by omega)
        obtain ⟨N', h', e1, e2, e3, e4⟩ := ih x (q0 + 1) (ms_A N (B + 53) (upd (mm_A N (B + 53)) p0 (nI (h q0 + 1)))) (fun p => if p = p0 then h q0 + 1 else h p) hM (by rw [A_A, if_neg (by omega)]; exact hS) (fun p hp' => by
          dsimp only
          rw [A_A, if_pos rfl, upd_eq]
          by_cases e : p = p0
          · rw [if_pos e, if_pos e]
          · rw [if_neg e, if_neg e]; exact hR p hp') (hF.less ha (by omega) hc hp hq) (by omega) (by omega)
        exact ⟨N', h', e1, sc.tr e2, e3, e4⟩
theorem far_p {k37 : Int32 → Mm → Option Mm} (w : WF S) (hfu : 1000 ≤ fu) {c : Nat} (hc : 1 ≤ c) (v : Int32) : ∀ (d x p0 : Nat) (N : Mm) (h : Nat → Nat), MS B K L (mm_R N) → mm_A N (B + 45) = S → farR B N h → Fs (asksS S) gg c p0 0 h → p0 + d = 16 → d < x → ∃ N' h', f_X12_findFar_45 K L fu k37 (B + 44) x v (nI p0) N = k37 (v + 1) N' ∧ scr B N N' ∧ farR B N' h' ∧ Fs (asksS S) gg (c + 1) 0 0 h' := by
  intro d
  induction d with
  | zero =>
    intro x p0 N h hM hS hR hF h1 h2
    obtain ⟨x, rfl⟩ : ∃ x', x = x' + 1 := ⟨x - 1, by omega⟩
    have : p0 = 16 := by omega
    subst this
    refine ⟨N, h, ?_, scr.rf B N, hR, hF.round⟩
    show f_X12_findFar_45b K L fu k37 (f_X12_findFar_45 K L fu k37 (B + 44) x) (B + 44) v (nI 16) N = _
    unfold f_X12_findFar_45b
    rw [if_pos (by decide)]
  | succ d ih =>
    intro x p0 N h hM hS hR hF h1 h2
    obtain ⟨x, rfl⟩ : ∃ x', x = x' + 1 := ⟨x - 1, by omega⟩
    obtain ⟨N1, g1, e1, e2, e3, e4⟩ := far_q (fu := fu) (k37 := k37) (k45 := f_X12_findFar_45 K L fu k37 (B + 44) x) w hfu hc (show p0 < 16 by omega) v 16 fu 0 N h hM hS hR hF (by omega) (by omega)
    obtain ⟨N2, g2, f1, f2, f3, f4⟩ := ih x (p0 + 1) N1 g1 (e2.MS hM) (e2.S.trans hS) e3 e4.row (by omega) (by omega)
    refine ⟨N2, g2, ?_, e2.tr f2, f3, f4⟩
    show f_X12_findFar_45b K L fu k37 (f_X12_findFar_45 K L fu k37 (B + 44) x) (B + 44) v (nI p0) N = _
    unfold f_X12_findFar_45b
    rw [if_neg (show ¬ (16 : Int32) ≤ nI p0 by rw [t_le, nI_toInt (by omega), show (16 : Int32).toInt = 16 from rfl]; omega)]
    exact e1.trans f1
theorem far_r (w : WF S) (hfu : 1000 ≤ fu) : ∀ (d x r : Nat) (N : Mm) (h : Nat → Nat), MS B K L (mm_R N) → mm_A N (B + 45) = S → farR B N h → Fs (asksS S) gg (r + 1) 0 0 h → r + d = 16 → d < x → ∃ N' h', f_X12_findFar_37 K L fu (B + 44) x (nI r) N = some N' ∧ scr B N N' ∧ farR B N' h' ∧ Fs (asksS S) gg 17 0 0 h' := by
  intro d
  induction d with
  | zero =>
    intro x r N h hM hS hR hF h1 h2
    obtain ⟨x, rfl⟩ : ∃ x', x = x' + 1 := ⟨x - 1, by omega⟩
    have : r = 16 := by omega
    subst this
    refine ⟨N, h, ?_, scr.rf B N, hR, hF⟩
    show f_X12_findFar_37b K L fu (f_X12_findFar_37 K L fu (B + 44) x) (B + 44) (nI 16) N = _
    unfold f_X12_findFar_37b
    rw [if_pos (by decide)]
  | succ d ih =>
    intro x r N h hM hS hR hF h1 h2
    obtain ⟨x, rfl⟩ : ∃ x', x = x' + 1 := ⟨x - 1, by omega⟩
    obtain ⟨N1, g1, e1, e2, e3, e4⟩ := far_p (fu := fu) (k37 := f_X12_findFar_37 K L fu (B + 44) x) w hfu (show 1 ≤ r + 1 by omega) (nI r) 16 fu 0 N h hM hS hR hF (by omega) (by omega)
    obtain ⟨N2, g2, f1, f2, f3, f4⟩ := ih x (r + 1) N1 g1 (e2.MS hM) (e2.S.trans hS) e3 e4 (by omega) (by omega)
    refine ⟨N2, g2, ?_, e2.tr f2, f3, f4⟩
    show f_X12_findFar_37b K L fu (f_X12_findFar_37 K L fu (B + 44) x) (B + 44) (nI r) N = _
    unfold f_X12_findFar_37b
    rw [if_neg (show ¬ (16 : Int32) ≤ nI r by rw [t_le, nI_toInt (by omega), show (16 : Int32).toInt = 16 from rfl]; omega)]
    refine (show f_X12_findFar_45 K L fu (f_X12_findFar_37 K L fu (B + 44) x) (B + 44) fu (nI r) 0 N = _ from e1).trans ?_
    rw [nI_1]
    exact f1
theorem far_0 (w : WF S) (hfu : 1000 ≤ fu) : ∀ (d x i : Nat) (N : Mm), MS B K L (mm_R N) → mm_A N (B + 45) = S → (∃ h : Nat → Nat, ∀ p, p < i → mm_A N (B + 53) p = nI (h p) ∧ ((h p = 1 ∧ asksS S p gg) ∨ (h p = 100 ∧ ¬ asksS S p gg))) → i + d = 16 → d < x → ∃ N', f_X12_findFar_2 K L fu (B + 44) x (nI gg) (nI i) N = f_X12_findFar_37 K L fu (B + 44) fu 0 N' ∧ scr B N N' ∧ ∃ h : Nat → Nat, ∀ p, p < 16 → mm_A N' (B + 53) p = nI (h p) ∧ ((h p = 1 ∧ asksS S p gg) ∨ (h p = 100 ∧ ¬ asksS S p gg)) := by
  intro d
  induction d with
  | zero =>
    intro x i N hM hS hh h1 h2
    obtain ⟨x, rfl⟩ : ∃ x', x = x' + 1 := ⟨x - 1, by omega⟩
    have : i = 16 := by omega
    subst this
    refine ⟨N, ?_, scr.rf B N, hh⟩
    show f_X12_findFar_2b K L fu (f_X12_findFar_2 K L fu (B + 44) x) (B + 44) (nI gg) (nI 16) N = _
    unfold f_X12_findFar_2b
    rw [if_pos (by decide)]
  | succ d ih =>
    intro x i N hM hS hh h1 h2
    obtain ⟨x, rfl⟩ : ∃ x', x = x' + 1 := ⟨x - 1, by omega⟩
    obtain ⟨h, hh⟩ := hh
    have hi : i < 16 := by omega
    have hr14 : mm_R N (32 * 12 + 14) (B + 44) = some (B + 53) := hM.1.2.2.2.2.2.2.2.2.2.1
    have hx : rx K L (some (B + 53)) 13 (nI i) = some (B + 53) := rx_ok hM.2.1.2.2.2.2.2.2.2.2.1 hM.2.2.2.2.2.2.2.2.2.2.1 hi (by decide)
    obtain ⟨r, k1, k2, k3⟩ := asks_m (fu := fu) (q := gg) hM hS w hi hfu
    have go : ∀ y : Nat, ((y = 1 ∧ asksS S i gg) ∨ (y = 100 ∧ ¬ asksS S i gg)) → ∃ N', f_X12_findFar_2 K L fu (B + 44) x (nI gg) (nI (i + 1)) (ms_A N (B + 53) (upd (mm_A N (B + 53)) i (nI y))) = f_X12_findFar_37 K L fu (B + 44) fu 0 N' ∧ scr B N N' ∧ ∃ h : Nat → Nat, ∀ p, p < 16 → mm_A N' (B + 53) p = nI (h p) ∧ ((h p = 1 ∧ asksS S p gg) ∨ (h p = 100 ∧ ¬ asksS S p gg)) := by
      intro y hy
      have sc : scr B N (ms_A N (B + 53) (upd (mm_A N (B + 53)) i (nI y))) := scr.Aa (by omega)
      obtain ⟨N', e1, e2, e3⟩ := ih x (i + 1) (ms_A N (B + 53) (upd (mm_A N (B + 53)) i (nI y))) hM (by rw [A_A, if_neg (by omega)]; exact hS) ⟨fun p => if p = i then y else h p, fun p hp => by
        dsimp only
        rw [A_A, if_pos rfl, upd_eq]
        by_cases e : p = i
        · rw [if_pos e, if_pos e, e]; exact ⟨rfl, hy⟩
        · rw [if_neg e, if_neg e]; exact hh p (by omega)⟩ (by omega) (by omega)
      exact ⟨N', e1, sc.tr e2, e3⟩
    have E : f_X12_findFar_2 K L fu (B + 44) (x + 1) (nI gg) (nI i) N = if r = 0 then f_X12_findFar_2 K L fu (B + 44) x (nI gg) (nI (i + 1)) (ms_A N (B + 53) (upd (mm_A N (B + 53)) i (nI 100))) else f_X12_findFar_2 K L fu (B + 44) x (nI gg) (nI (i + 1)) (ms_A N (B + 53) (upd (mm_A N (B + 53)) i (nI 1))) := by
      show f_X12_findFar_2b K L fu (f_X12_findFar_2 K L fu (B + 44) x) (B + 44) (nI gg) (nI i) N = _
      unfold f_X12_findFar_2b
      rw [if_neg (show ¬ (16 : Int32) ≤ nI i by rw [t_le, nI_toInt (by omega), show (16 : Int32).toInt = 16 from rfl]; omega), hr14, hx, nI_1, nI_clamp (show i < 2 ^ 31 by omega)]
      refine (sb k1 _).trans ?_
      by_cases z : r = 0
      · rw [if_pos z, if_pos z]
        exact (sb rfl _).trans rfl
      · rw [if_neg z, if_neg z]
        exact (sb rfl _).trans rfl
    rw [E]
    by_cases z : r = 0
    · rw [if_pos z]
      exact go 100 (Or.inr ⟨rfl, fun u => by have := k3.mpr u; rw [z] at this; exact absurd this (by decide)⟩)
    · rw [if_neg z]
      exact go 1 (Or.inl ⟨rfl, k3.mp (k2.resolve_left z)⟩)
/-- far: the length of a shortest way to the goal, of one place at least; 100: none -/
theorem findFar_eq (w : WF S) (hfu : 1000 ≤ fu) (hg : gg < 16) {N : Mm} (hM : MS B K L (mm_R N)) (hS : mm_A N (B + 45) = S) : ∃ N' h, f_X12_findFar K L fu (B + 44) (nI gg) N = some N' ∧ scr B N N' ∧ farR B N' h ∧ Fs (asksS S) gg 17 0 0 h := by
  obtain ⟨N1, e1, e2, h, e3⟩ := far_0 (fu := fu) (gg := gg) (K := K) (L := L) (B := B) w hfu 16 fu 0 N hM hS ⟨fun _ => 0, fun p hp => by omega⟩ (by omega) (by omega)
  obtain ⟨N2, h', f1, f2, f3, f4⟩ := far_r (fu := fu) (gg := gg) (K := K) (L := L) (B := B) w hfu 16 fu 0 N1 h (e2.MS hM) (e2.S.trans hS) (fun p hp => (e3 p hp).1) (by
    refine ⟨fun p hp => ?_, fun p n hp h1 h2 hP => ?_, fun p q _ _ hx => by omega⟩
    · rcases (e3 p hp).2 with x | x
      · exact ⟨by omega, by omega, fun _ => by rw [x.1]; exact ⟨gg, hg, x.2, rfl⟩⟩
      · exact ⟨by omega, by omega, fun y => by omega⟩
    · have : n = 1 := by omega
      subst this
      obtain ⟨q, -, ha, hq⟩ := hP
      rcases (e3 p hp).2 with x | x
      · omega
      · have hq' : q = gg := hq
        rw [hq'] at ha
        exact absurd ha x.2) (by omega) (by omega)
  refine ⟨N2, h', ?_, e2.tr f2, f3, f4⟩
  unfold f_X12_findFar
  exact (show f_X12_findFar_2 K L fu (B + 44) fu (nI gg) 0 N = _ from e1).trans f1
end FF
