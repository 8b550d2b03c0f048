/-! the class finds the ways -/
section CW
variable {B n : Nat} {K L : Nat → Nat} {fu : Nat} {S W : Nat → Int32} {l a s nu : Int32} {rk : Nat → Nat}
/-- what the caller's object holds while it is asked -/
def cwr (B : Nat) (S W : Nat → Int32) (l a s nu : Int32) (N : Mm) : Prop := ∃ sv kv : Nat, sv < 65536 ∧ kv < 65536 ∧ mm_I N 37 (B + 37) = nI sv ∧ (∀ t, t < 16 → (sv / 2 ^ t % 2 = 1 ↔ S (3940 * t) = 5 ∧ S (3940 * t + 47) = 1)) ∧ mm_I N 38 (B + 37) = nI kv ∧ (∀ p, p < 16 → kv / 2 ^ p % 2 = 1 → mm_A N (B + 38) p = W p) ∧ mm_I N 36 (B + 37) = nu ∧ mm_I N 33 (B + 37) = l ∧ mm_I N 34 (B + 37) = a ∧ mm_I N 35 (B + 37) = s
theorem sw_none {N : Mm} (iv : Iv B n K L N) (hS : mm_A N (B + 45) = S) {p : Nat} (hp : p < 16) (h : ¬ isw S p) : mm_R N 128 (B + 3 + p) = none := by
  obtain ⟨hh, i1, i2, i3, i4, -⟩ := iv.2.1 p hp
  rw [hS] at i2
  have hx : ¬ (1 ≤ hh ∧ hh ≤ 5) := fun y => h ((isw_h i1 i2).mpr y)
  by_cases x : hh = 0
  · exact (i3 x).1
  · exact (i4 (by omega)).1
theorem sw_some {N : Mm} (iv : Iv B n K L N) (hS : mm_A N (B + 45) = S) {p : Nat} (hp : p < 16) (h : isw S p) : ∃ b hh, Got B K L N p b hh := by
  obtain ⟨hh, i1, i2, -⟩ := id (iv.2.1 p hp)
  have e : S (3940 * p) = nI hh := by rw [← hS]; exact i2
  have := (isw_h i1 e).mp h
  obtain ⟨b, gb⟩ := got_of iv hp this.1 this.2 i2
  exact ⟨b, hh, gb⟩
/-- what asking another place gives -/
def asked (B n : Nat) (K L : Nat → Nat) (S W : Nat → Int32) (l a s nu : Int32) (wf : Nat → Option Nat → Int32 → Int32 → Mm → Option (Int32 × Mm)) (q dep : Nat) : Prop := ∀ N, Iv B n K L N → mm_A N (B + 45) = S → cwr B S W l a s nu N → ∃ N', wf (B + 37) (some (B + 1)) (nI q) (nI dep) N = some (W q, N') ∧ scr B N N' ∧ cwr B S W l a s nu N'
theorem hang_c {N : Mm} {wf : Nat → Option Nat → Int32 → Int32 → Mm → Option (Int32 × Mm)} {t b hh dep : Nat} (iv : Iv B n K L N) (hS : mm_A N (B + 45) = S) (w : WF S) (cw : cwr B S W l a s nu N) (g : Got B K L N t b hh) (hq : ∀ q, hgo S t = some q → asked B n K L S W l a s nu wf q (dep + 1)) : ∃ N', f_X1_hangHolds K L fu wf (B + 37) (some (B + 1)) (some b) (nI dep) N = some ((if hgo S t = none ∨ W ((hgo S t).getD 0) = S (3940 * t + 45) then 1 else 0), N') ∧ scr B N N' ∧ cwr B S W l a s nu N' := by
  obtain ⟨g1, g2, g3, g4, g5, g6, g7, g8, g9, g10, g11⟩ := id g
  rw [hS] at g10 g11
  have i5 : mm_I N (32 * 9 + 5) b = S (3940 * t + 44) := g11.1.2.2.2.1
  unfold f_X1_hangHolds
  rw [rc_ok g9.1.1]
  show ∃ N', Option.bind (rc K (some (B + 1)) 8) _ = _ ∧ _
  rw [i5, rc_ok iv.1.2.1.2.1.1]
  show ∃ N', Option.bind (f_X8_switchAt K L N (B + 1) (S (3940 * t + 44))) _ = _ ∧ _
  rcases g10.2.2.1 with x | ⟨v, v1, v2⟩
  · have hn : hgo S t = none := by
      unfold hgo
      rw [if_neg (fun y => by have := y.2.1; rw [x] at this; exact absurd this (by decide))]
    refine ⟨N, ?_, scr.rf B N, cw⟩
    rw [x, if_pos (Or.inl hn)]
    refine (sb (show f_X8_switchAt K L N (B + 1) (-1) = some none by unfold f_X8_switchAt; rw [placeAt_out (show ¬ (0 ≤ (-1 : Int32).toInt ∧ (-1 : Int32).toInt ≤ 15) by decide)]; rfl) _).trans ?_
    rfl
  · have e : (S (3940 * t + 44)).toNatClampNeg = v := by rw [v2, nI_clamp (by omega)]
    have n1 : ¬ S (3940 * t + 44) = -1 := by
      intro y
      rw [v2] at y
      have := congrArg Int32.toInt y
      rw [nI_toInt (by omega), show (-1 : Int32).toInt = -1 from rfl] at this
      omega
    have k45 : S (3940 * t) = 4 ∨ S (3940 * t) = 5 := by
      rcases g10.2.2.2.2.2.2 with y | y | y
      · exact Or.inl y
      · exact Or.inr y
      · exact absurd y n1
    rw [v2]
    by_cases y : isw S v
    · have hv : hgo S t = some v := by
        unfold hgo
        rw [if_pos ⟨k45, by rw [v2]; exact Int32.not_lt.mp (nI_pos (by omega)), by rw [e]; exact y⟩, e]
      obtain ⟨bv, hv', gv⟩ := sw_some iv hS v1 y
      obtain ⟨N', a1, a2, a3⟩ := hq v hv N iv hS cw
      have iv' := iv_scr iv a2
      have g' : mm_I N' (32 * 9 + 6) b = S (3940 * t + 45) := by
        rw [(a2.e (a := b) (by omega) (by omega)).1]
        exact g11.1.2.2.2.2.1 n1
      refine ⟨N', ?_, a2, a3⟩
      refine (sb (switchAt_in iv.1.2.1 v1) _).trans ?_
      rw [gv.2.2.2.2.1, if_neg (by simp), nI_1]
      refine (sb a1 _).trans ?_
      rw [g', hv, Option.getD_some]
      by_cases z : W v = S (3940 * t + 45)
      · rw [if_pos z, if_pos (Or.inr z)]
      · rw [if_neg z, if_neg (fun u => u.elim (fun u => by cases u) (fun u => z u))]
    · have hn : hgo S t = none := by
        unfold hgo
        rw [if_neg (fun z => y (by have := z.2.2; rw [e] at this; exact this))]
      refine ⟨N, ?_, scr.rf B N, cw⟩
      refine (sb (switchAt_in iv.1.2.1 v1) _).trans ?_
      rw [sw_none iv hS v1 y, if_pos rfl, if_pos (Or.inl hn)]
theorem stop_loop {wf : Nat → Option Nat → Int32 → Int32 → Mm → Option (Int32 × Mm)} {p dep : Nat} (w : WF S) (hp : p < 16) (hq : ∀ t q, t < 16 → stp S t p → hgo S t = some q → asked B n K L S W l a s nu wf q (dep + 1)) : ∀ (d g t : Nat) (N : Mm), Iv B n K L N → mm_A N (B + 45) = S → cwr B S W l a s nu N → t + d = 16 → d < g → ∃ N', f_X1_stopOf_12 K L fu wf (B + 37) g (some (B + 1)) (nI p) (nI dep) (nI t) N = some (fst' S W p d t, N') ∧ scr B N N' ∧ cwr B S W l a s nu N' := by
  intro d
  induction d with
  | zero =>
    intro g t N iv hS cw h1 h2
    obtain ⟨g, rfl⟩ : ∃ g', g = g' + 1 := ⟨g - 1, by omega⟩
    have : t = 16 := by omega
    subst this
    refine ⟨N, ?_, scr.rf B N, cw⟩
    show f_X1_stopOf_12b K L fu wf (f_X1_stopOf_12 K L fu wf (B + 37) g) (B + 37) (some (B + 1)) (nI p) (nI dep) (nI 16) N = _
    unfold f_X1_stopOf_12b
    rw [if_pos (by decide)]
    rfl
  | succ d ih =>
    intro g t N iv hS cw h1 h2
    obtain ⟨g, rfl⟩ : ∃ g', g = g' + 1 := ⟨g - 1, by omega⟩
    obtain ⟨sv, kv, c1, c2, c3, c4, c5⟩ := id cw
    have ht : t < 16 := by omega
    have ef : fst' S W p (d + 1) t = if stp S t p ∧ (hgo S t = none ∨ W ((hgo S t).getD 0) = S (3940 * t + 45)) then nI t else fst' S W p d (t + 1) := rfl
    show ∃ N', f_X1_stopOf_12b K L fu wf (f_X1_stopOf_12 K L fu wf (B + 37) g) (B + 37) (some (B + 1)) (nI p) (nI dep) (nI t) N = some (fst' S W p (d + 1) t, N') ∧ _
    rw [ef]
    unfold f_X1_stopOf_12b
    rw [if_neg (show ¬ (16 : Int32) ≤ nI t by rw [t_le, nI_toInt (by omega), show (16 : Int32).toInt = 16 from rfl]; omega), show mm_I N (32 * 1 + 5) (B + 37) = nI sv from c3, hb_c c1 ht]
    show ∃ N', (if (if sv / 2 ^ t % 2 = 1 then (1 : Int32) else 0) = 0 then _ else _) = _ ∧ _
    rw [if10]
    by_cases q1 : sv / 2 ^ t % 2 = 1
    · rw [if_pos q1]
      obtain ⟨m1, m2⟩ := (c4 t ht).mp q1
      have hi : isw S t := by unfold isw; rw [m1]; decide
      obtain ⟨b, hh, gb⟩ := sw_some iv hS ht hi
      obtain ⟨g1, g2, g3, g4, g5, g6, g7, g8, g9, g10, g11⟩ := id gb
      rw [hS] at g4 g10 g11
      have i8 : mm_I N (32 * 9 + 0) b = 4 := by rw [show mm_I N (32 * 9 + 0) b = S (3940 * t) - 1 from g11.1.1, m1]; rfl
      obtain ⟨v, v1, v2⟩ := g10.2.2.2.1
      have i7 : mm_I N (32 * 9 + 7) b = nI v := (show mm_I N (32 * 9 + 7) b = S (3940 * t + 46) from g11.1.2.2.2.2.2.1).trans v2
      have ev : (S (3940 * t + 46)).toInt.toNat = v := by rw [v2, nI_toInt (by omega)]; omega
      have hst : stp S t p ↔ v / 2 ^ p % 2 = 1 := ⟨fun x => by have := x.2.2; rw [ev] at this; exact this, fun x => ⟨m1, m2, by rw [ev]; exact x⟩⟩
      have his : f_X9_isStopOf K L N b (nI p) = some (if v / 2 ^ p % 2 = 1 then 1 else 0) := by
        unfold f_X9_isStopOf
        rw [if_pos i8, i7]
        refine (sb (hb_c v1 hp) _).trans ?_
        rw [if10]
        split <;> rfl
      rw [rc_ok iv.1.2.1.2.1.1]
      show ∃ N', Option.bind (f_X8_switchAt K L N (B + 1) (nI t)) _ = _ ∧ _
      rw [switchAt_in iv.1.2.1 ht, g5]
      show ∃ N', f_X1_stopOf_41 K L fu wf (f_X1_stopOf_12 K L fu wf (B + 37) g) (B + 37) (some (B + 1)) (nI p) (nI dep) (nI t) (some b) N = _ ∧ _
      unfold f_X1_stopOf_41
      rw [if_neg (by simp), rc_ok g9.1.1, nI_1]
      show ∃ N', Option.bind (f_X9_isStopOf K L N b (nI p)) _ = _ ∧ _
      rw [his]
      show ∃ N', (if (if v / 2 ^ p % 2 = 1 then (1 : Int32) else 0) = 0 then _ else _) = _ ∧ _
      rw [if10]
      by_cases q2 : v / 2 ^ p % 2 = 1
      · rw [if_pos q2]
        have hs := hst.mpr q2
        obtain ⟨N1, a1, a2, a3⟩ := hang_c (fu := fu) iv hS w cw gb (fun q hq' => hq t q ht hs hq')
        obtain ⟨r, hr⟩ : ∃ r, r = (if hgo S t = none ∨ W ((hgo S t).getD 0) = S (3940 * t + 45) then (1 : Int32) else 0) := ⟨_, rfl⟩
        rw [← hr] at a1
        rw [a1]
        show ∃ N', (if r = 0 then f_X1_stopOf_12 K L fu wf (B + 37) g (some (B + 1)) (nI p) (nI dep) (nI (t + 1)) N1 else some (nI t, N1)) = _ ∧ _
        by_cases q3 : hgo S t = none ∨ W ((hgo S t).getD 0) = S (3940 * t + 45)
        · rw [if_pos q3] at hr
          rw [if_neg (by rw [hr]; decide), if_pos (show stp S t p ∧ (hgo S t = none ∨ W ((hgo S t).getD 0) = S (3940 * t + 45)) from ⟨hs, q3⟩)]
          exact ⟨N1, rfl, a2, a3⟩
        · rw [if_neg q3] at hr
          rw [if_pos hr, if_neg (show ¬ (stp S t p ∧ (hgo S t = none ∨ W ((hgo S t).getD 0) = S (3940 * t + 45))) from fun x => q3 x.2)]
          obtain ⟨N2, b1, b2, b3⟩ := ih g (t + 1) N1 (iv_scr iv a2) (a2.S.trans hS) a3 (by omega) (by omega)
          exact ⟨N2, b1, a2.tr b2, b3⟩
      · rw [if_neg q2, if_neg (fun x => q2 (hst.mp x.1))]
        exact ih g (t + 1) N iv hS cw (by omega) (by omega)
    · rw [if_neg q1, if_neg (fun x => q1 ((c4 t ht).mpr ⟨x.1.1, x.1.2.1⟩))]
      unfold f_X1_stopOf_41
      rw [if_pos rfl, nI_1]
      exact ih g (t + 1) N iv hS cw (by omega) (by omega)
theorem fst_no {p : Nat} : ∀ (d t : Nat), (∀ t', t ≤ t' → t' < t + d → ¬ stp S t' p) → fst' S W p d t = -1
  | 0, _, _ => rfl
  | d + 1, t, h => by
    show (if stp S t p ∧ (hgo S t = none ∨ W ((hgo S t).getD 0) = S (3940 * t + 45)) then nI t else fst' S W p d (t + 1)) = -1
    rw [if_neg (fun x => h t (by omega) (by omega) x.1)]
    exact fst_no d (t + 1) (fun t' h1 h2 => h t' (by omega) (by omega))
theorem why_c {wf : Nat → Option Nat → Int32 → Int32 → Mm → Option (Int32 × Mm)} {p dep : Nat} {N : Mm} (w : WF S) (hp : p < 16) (hi : isw S p) (hfu : 1000 ≤ fu) (hq : ∀ q, (hgo S p = some q ∨ ∃ t, t < 16 ∧ stp S t p ∧ hgo S t = some q) → asked B n K L S W l a s nu wf q (dep + 1)) (iv : Iv B n K L N) (hS : mm_A N (B + 45) = S) (cw : cwr B S W l a s nu N) : ∃ N', f_X1_whyAt K L fu wf (B + 37) (some (B + 1)) (nI p) (nI dep) N = some (wyv S l a s W p, N') ∧ scr B N N' ∧ cwr B S W l a s nu N' := by
  obtain ⟨b, hh, gb⟩ := sw_some iv hS hp hi
  obtain ⟨sv, kv, c1, c2, c3, c4, c5⟩ := id cw
  have st : ∃ N', f_X1_stopOf K L fu wf (B + 37) (some (B + 1)) (nI p) (nI dep) N = some (fst' S W p 16 0, N') ∧ scr B N N' ∧ cwr B S W l a s nu N' := by
    unfold f_X1_stopOf
    rw [show mm_I N (32 * 1 + 5) (B + 37) = nI sv from c3]
    by_cases x : sv = 0
    · have hno : fst' S W p 16 0 = -1 := by
        refine fst_no 16 0 (fun t _ ht y => ?_)
        have h := (c4 t (by omega)).mpr ⟨y.1, y.2.1⟩
        rw [x, Nat.zero_div] at h
        exact absurd h (by decide)
      rw [if_pos (by rw [x]; rfl), hno]
      exact ⟨N, rfl, scr.rf B N, cw⟩
    · rw [if_neg (nI_ne0 (by omega) (by omega))]
      exact stop_loop (fu := fu) w hp (fun t q ht h1 h2 => hq q (Or.inr ⟨t, ht, h1, h2⟩)) 16 fu 0 N iv hS cw (by omega) (by omega)
  obtain ⟨N1, a1, a2, a3⟩ := st
  have iv1 := iv_scr iv a2
  have hS1 := a2.S.trans hS
  have gb1 : Got B K L N1 p b hh := by
    obtain ⟨b', hh', g'⟩ := sw_some iv1 hS1 hp hi
    have e1 : b' = b := by
      have h1 := g'.2.2.2.2.1
      rw [a2.1, gb.2.2.2.2.1] at h1
      cases h1; rfl
    have e2 : hh' = hh := by
      have h1 := g'.2.2.2.1
      rw [a2.S, gb.2.2.2.1] at h1
      have := gb.2.2.1
      have := g'.2.2.1
      exact ((nI_eq (by omega) (by omega)).mp h1).symm
    rw [← e1, ← e2]
    exact g'
  have E : f_X1_whyAt K L fu wf (B + 37) (some (B + 1)) (nI p) (nI dep) N = if fst' S W p 16 0 = -1 then Option.bind (f_X1_hangHolds K L fu wf (B + 37) (some (B + 1)) (some b) (nI dep) N1) (fun x9 => if (x9.1) = 0 then some ((7 : Int32), x9.2) else Option.bind (rc K (some b) 9) (fun a11 => Option.bind (rc K (mm_R x9.2 (32 * 9 + 3) a11) 6) (fun a13 => Option.bind (f_X6_firstFor K L fu x9.2 a13 (some (B + 37))) (fun x15 => some (x15, x9.2))))) else some ((8 : Int32) + fst' S W p 16 0, N1) := by
    unfold f_X1_whyAt
    refine (rcb iv.1.2.1.2.1.1 _).trans ?_
    refine (sb (show f_X8_switchAt K L N (B + 1) (nI p) = some (some b) by rw [switchAt_in iv.1.2.1 hp, gb.2.2.2.2.1]) _).trans ?_
    rw [if_neg (show ¬ some b = none by simp)]
    refine (sb a1 _).trans ?_
    rw [bn_eq]
  rw [E]
  unfold wyv
  by_cases q1 : fst' S W p 16 0 = -1
  · rw [if_pos q1, if_pos q1]
    obtain ⟨N2, b1, b2, b3⟩ := hang_c (fu := fu) iv1 hS1 w a3 gb1 (fun q h => hq q (Or.inl h))
    obtain ⟨r, hr⟩ : ∃ r, r = (if hgo S p = none ∨ W ((hgo S p).getD 0) = S (3940 * p + 45) then (1 : Int32) else 0) := ⟨_, rfl⟩
    rw [← hr] at b1
    rw [b1]
    show ∃ N', (if r = 0 then some ((7 : Int32), N2) else Option.bind (rc K (some b) 9) (fun a11 => Option.bind (rc K (mm_R N2 (32 * 9 + 3) a11) 6) (fun a13 => Option.bind (f_X6_firstFor K L fu N2 a13 (some (B + 37))) (fun x15 => some (x15, N2))))) = _ ∧ _
    by_cases q2 : hgo S p = none ∨ W ((hgo S p).getD 0) = S (3940 * p + 45)
    · rw [if_pos q2] at hr
      rw [if_neg (show ¬ r = 0 by rw [hr]; decide), if_pos q2]
      have iv2 := iv_scr iv1 b2
      have hS2 := b2.S.trans hS1
      obtain ⟨-, -, -, -, -, -, -, -, d6, d7, d8, d9⟩ := id b3
      have r2 : rRu N2 b S (3940 * p) := by
        have := gb1.2.2.2.2.2.2.2.2.2.2.2.1
        rw [hS1] at this
        exact this.fr (fun c h1 h2 => b2.e (by have := gb1.2.2.2.2.2.2.2.1; omega) (by have := gb1.2.2.2.2.2.2.2.1; omega)) (fun _ _ _ => rfl)
      have g9 : BS K L (mm_R N2) (mm_C N2) b := by rw [b2.1, b2.2.1]; exact gb1.2.2.2.2.2.2.2.2.1
      obtain ⟨k, k1, k2, k3, k4⟩ := r2
      refine ⟨N2, ?_, a2.tr b2, b3⟩
      show Option.bind (rc K (some b) 9) _ = _
      refine (rcb g9.1.1 _).trans ?_
      rw [show mm_R N2 (32 * 9 + 3) b = some (b + 1) from g9.1.2.1]
      refine (rcb g9.2.1.1 _).trans ?_
      rw [k2, nI_clamp (by omega)]
      exact (sb (show f_X6_firstFor K L fu N2 (b + 1) (some (B + 37)) = _ from first_loop (fu := fu) (S := S) (o := 3940 * p) g9 iv2.1.2.1.2.2.2.1.1 d7 d8 d9 k1 k3 (fun i hi => ⟨(k4 i hi).1, (k4 i hi).2.1, (k4 i hi).2.2.1⟩) k fu 0 (by omega) (by omega)) _).trans rfl
    · rw [if_neg q2] at hr
      rw [if_pos hr, if_neg q2]
      exact ⟨N2, rfl, a2.tr b2, b3⟩
  · rw [if_neg q1, if_neg q1]
    exact ⟨N1, rfl, a2, a3⟩
end CW
