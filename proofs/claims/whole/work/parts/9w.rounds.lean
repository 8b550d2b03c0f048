/-! the reference finds the ways: rounds -/
section RO
variable {B : Nat} {K L : Nat → Nat} {fu : Nat} {S : Nat → Int32} {l a s nu : Int32} {rk : Nat → Nat}
/-- what calls on ways read of the reference's caller -/
def cal (B : Nat) (M : Mm) (l a s nu : Int32) : Prop := mm_I M 392 (B + 44) = nu ∧ mm_I M 393 (B + 44) = l ∧ mm_I M 394 (B + 44) = a ∧ mm_I M 395 (B + 44) = s
theorem cal.scr {M M' : Mm} (h : cal B M l a s nu) (c : scr B M M') : cal B M' l a s nu := by
  have e : ∀ x, x < 400 → mm_I M' x (B + 44) = mm_I M x (B + 44) := fun x hx => c.2.2.2.2.1 x _ (by omega) (by omega)
  unfold cal
  rw [e 392 (by decide), e 393 (by decide), e 394 (by decide), e 395 (by decide)]
  exact h
theorem own_m {M : Mm} {p k : Nat} (hM : MS B K L (mm_R M)) (hS : mm_A M (B + 45) = S) (hp : p < 16) (hc : cal B M l a s nu) (hk : k ≤ 6) (s3 : S (3940 * p + 3) = nI k) (hfu : 1000 ≤ fu) : f_X12_ownWay K L fu M (B + 44) (nI p) = some (wbv S nu p (rlv S (3940 * p) l a s k 0)) := by
  obtain ⟨c1, c2, c3, c4⟩ := hc
  unfold f_X12_ownWay wbv
  refine (sb (show f_X12_ruleOf K L fu M (B + 44) (nI p) = _ from rule_loop (fu := fu) hM hp hS c2 c3 c4 hk s3 k fu 0 (by omega) (by omega)) _).trans ?_
  rcases rlv_or S (3940 * p) l a s k 0 with h | ⟨j, -, j2, h⟩
  · rw [h, if_pos (by decide), if_pos (by decide), if_pos rfl]
    have hws : f_X12_wayOfSeat K L fu M (B + 44) (nI p) = some (swv S (3940 * p) (seatV (S (3940 * p + 1)) nu (S (3940 * p + 2))) 7 1) := by
      unfold f_X12_wayOfSeat
      refine (sb (show f_X12_seatOf K L M (B + 44) (nI p) = some (seatV (S (3940 * p + 1)) nu (S (3940 * p + 2))) by rw [seatOf_m hM hp, hS, c1]) _).trans ?_
      exact seat_m (fu := fu) hM hp hS 7 fu 1 (by omega) (by omega) (by omega)
    exact (sb hws _).trans rfl
  · have e1 : nI (j + 1) - 1 = nI j := by rw [← nI_1, Int32.add_sub_cancel]
    rw [h, if_neg (show ¬ nI (j + 1) ≤ 0 by rw [t_le, nI_toInt (by omega), show (0 : Int32).toInt = 0 from rfl]; omega), if_pos (show nI (j + 1) < 7 by rw [t_lt, nI_toInt (by omega), show (7 : Int32).toInt = 7 from rfl]; omega), if_neg (nI_ne0 (by omega) (by omega)), e1, nI_clamp (by omega), show j + 1 - 1 = j from rfl]
    refine (sb (show f_X12_of K L M (B + 44) (nI p) ((4 : Int32) + (4 : Int32) * nI j + 3) = some (S (3940 * p + 7 + 4 * j)) by rw [m_of (c := (4 : Int32) + (4 : Int32) * nI j + 3) hM hp (7 + 4 * j) (by rw [show (4 : Int32) = nI 4 from rfl, pk_mul, nI_add, show (3 : Int32) = nI 3 from rfl, nI_add]; congr 1; omega) (by omega), hS, ← Nat.add_assoc]) _).trans ?_
    rfl
theorem fst_or (S : Nat → Int32) (W : Nat → Int32) (p : Nat) : ∀ d t : Nat, fst' S W p d t = -1 ∨ ∃ j : Nat, t ≤ j ∧ j < t + d ∧ fst' S W p d t = nI j
  | 0, _ => Or.inl rfl
  | d + 1, t => by
    have h := fst_or S W p d (t + 1)
    show (if stp S t p ∧ (hgo S t = none ∨ W ((hgo S t).getD 0) = S (3940 * t + 45)) then nI t else fst' S W p d (t + 1)) = -1 ∨ ∃ j : Nat, t ≤ j ∧ j < t + (d + 1) ∧ (if stp S t p ∧ (hgo S t = none ∨ W ((hgo S t).getD 0) = S (3940 * t + 45)) then nI t else fst' S W p d (t + 1)) = nI j
    by_cases q : stp S t p ∧ (hgo S t = none ∨ W ((hgo S t).getD 0) = S (3940 * t + 45))
    · rw [if_pos q]; exact Or.inr ⟨t, by omega, by omega, rfl⟩
    · rw [if_neg q]
      rcases h with h | ⟨j, h1, h2, h3⟩
      · exact Or.inl h
      · exact Or.inr ⟨j, by omega, by omega, h3⟩
/-- the state of the rounds -/
def Gw (B : Nat) (S : Nat → Int32) (W : Nat → Int32) (rk : Nat → Nat) (r p0 : Nat) (M : Mm) : Prop := ∀ p, p < 16 → (mm_A M (B + 52) p = 0 ∨ mm_A M (B + 52) p = 1) ∧ (¬ isw S p → mm_A M (B + 52) p = 1) ∧ (isw S p → mm_A M (B + 52) p = 1 → mm_A M (B + 51) p = W p) ∧ (isw S p → (rk p < r ∨ (rk p = r ∧ p < p0)) → mm_A M (B + 52) p = 1)
theorem Ww_eq (w : WF S) (h16 : ∀ p, rk p < 16) (hr : ∀ p q, p < 16 → q < 16 → ((hgo S p = some q) ∨ ∃ t, t < 16 ∧ stp S t p ∧ hgo S t = some q) → rk q < rk p) {p : Nat} (hp : p < 16) (hi : isw S p) : wbv S nu p (wyv S l a s (Ww S l a s nu) p) = Ww S l a s nu p := by
  have := Wf_st (S := S) (l := l) (a := a) (s := s) (nu := nu) (fun p q hp h => (hgo_16 w hp h).1) hr 16 p hp (h16 p)
  rw [show Wf S l a s nu (16 + 1) p = if isw S p then wbv S nu p (wyv S l a s (Wf S l a s nu 16) p) else 0 from rfl, if_pos hi] at this
  exact this
theorem inner_step {M : Mm} {r p0 g : Nat} {k35 : Int32 → Mm → Option Mm} (hM : MS B K L (mm_R M)) (hS : mm_A M (B + 45) = S) (w : WF S) (hc : cal B M l a s nu) (h16 : ∀ p, rk p < 16) (hr : ∀ p q, p < 16 → q < 16 → ((hgo S p = some q) ∨ ∃ t, t < 16 ∧ stp S t p ∧ hgo S t = some q) → rk q < rk p) (hfu : 1000 ≤ fu) (hp : p0 < 16) (v : Int32) (G : Gw B S (Ww S l a s nu) rk r p0 M) : ∃ M', f_X12_findWays_43 K L fu k35 (B + 44) (g + 1) v (nI p0) M = f_X12_findWays_43 K L fu k35 (B + 44) g v (nI (p0 + 1)) M' ∧ scr B M M' ∧ Gw B S (Ww S l a s nu) rk r (p0 + 1) M' := by
  have hr13 : mm_R M (32 * 12 + 13) (B + 44) = some (B + 52) := hM.1.2.2.2.2.2.2.2.2.1
  have hr12 : mm_R M (32 * 12 + 12) (B + 44) = some (B + 51) := hM.1.2.2.2.2.2.2.2.1
  have hx13 : rx K L (some (B + 52)) 15 (nI p0) = some (B + 52) := rx_ok hM.2.1.2.2.2.2.2.2.2.1 hM.2.2.2.2.2.2.2.2.2.1 hp (by decide)
  have hx12 : rx K L (some (B + 51)) 13 (nI p0) = some (B + 51) := rx_ok hM.2.1.2.2.2.2.2.2.1 hM.2.2.2.2.2.2.2.2.1 hp (by decide)
  have keep : (isw S p0 → rk p0 = r → mm_A M (B + 52) p0 = 1) → Gw B S (Ww S l a s nu) rk r (p0 + 1) M := by
    intro h p hp'
    obtain ⟨g1, g2, g3, g4⟩ := G p hp'
    refine ⟨g1, g2, g3, fun hi x => ?_⟩
    by_cases e : p = p0
    · subst e
      rcases x with x | x
      · exact g4 hi (Or.inl x)
      · exact h hi x.1
    · exact g4 hi (by omega)
  have E : f_X12_findWays_43 K L fu k35 (B + 44) (g + 1) v (nI p0) M = f_X12_findWays_43b K L fu k35 (f_X12_findWays_43 K L fu k35 (B + 44) g) (B + 44) v (nI p0) M := rfl
  rw [E]
  unfold f_X12_findWays_43b
  rw [if_neg (show ¬ (16 : Int32) ≤ nI p0 by rw [t_le, nI_toInt (by omega), show (16 : Int32).toInt = 16 from rfl]; omega), hr13, hr12, hx13, nI_clamp (by omega), nI_1]
  show ∃ M', (if mm_A M (B + 52) p0 = 0 then _ else _) = _ ∧ _
  by_cases q0 : mm_A M (B + 52) p0 = 0
  · rw [if_pos q0]
    obtain ⟨g1, g2, g3, g4⟩ := G p0 hp
    have hi : isw S p0 := by
      by_cases x : isw S p0
      · exact x
      · have := g2 x
        rw [q0] at this
        exact absurd this (by decide)
    obtain ⟨rr, a1, a2, a3⟩ := ready_m (fu := fu) hM hS w hp hfu
    have known : ∀ q, q < 16 → isw S q → rk q < r → ¬ mm_A M (B + 52) q = 0 := by
      intro q hq hiq hx
      rw [(G q hq).2.2.2 hiq (Or.inl hx)]
      decide
    by_cases q1 : rr = 1
    · obtain ⟨b1, b2⟩ := a3.mp q1
      have wq : ∀ q, q < 16 → isw S q → ¬ mm_A M (B + 52) q = 0 → mm_A M (B + 51) q = Ww S l a s nu q := by
        intro q hq hiq hx
        obtain ⟨k1, -, k3, -⟩ := G q hq
        exact k3 hiq (k1.resolve_left hx)
      have ey : wyv S l a s (mm_A M (B + 51)) p0 = wyv S l a s (Ww S l a s nu) p0 := by
        refine wyv_cg (fun t q ht h1 h2 => ?_) (fun q h2 => ?_)
        · obtain ⟨x1, -, x3, -⟩ := hgo_16 w ht h2
          exact wq q x1 x3 (b2 t ht h1 q h2)
        · obtain ⟨x1, -, x3, -⟩ := hgo_16 w hp h2
          exact wq q x1 x3 (b1 q h2)
      have ev := (congrArg (wbv S nu p0) ey).trans (Ww_eq (l := l) (a := a) (s := s) (nu := nu) w h16 hr hp hi)
      obtain ⟨N, hN⟩ : ∃ N, N = ms_A (ms_A M (B + 51) (upd (mm_A M (B + 51)) p0 (Ww S l a s nu p0))) (B + 52) (upd (mm_A M (B + 52)) p0 1) := ⟨_, rfl⟩
      have h99 : ∀ x : Int32, x = Ww S l a s nu p0 → f_X12_findWays_99 K L fu k35 (f_X12_findWays_43 K L fu k35 (B + 44) g) (B + 44) v (nI p0) x (nI p0) (some (B + 51)) M = f_X12_findWays_43 K L fu k35 (B + 44) g v (nI (p0 + 1)) N := by
        intro x hx
        unfold f_X12_findWays_99
        refine (sb hx12 _).trans ?_
        rw [nI_clamp (by omega), hx, bn_eq, show mm_R (ms_A M (B + 51) (upd (mm_A M (B + 51)) p0 (Ww S l a s nu p0))) (32 * 12 + 13) (B + 44) = some (B + 52) from hr13]
        refine (sb hx13 _).trans ?_
        rw [bn_eq, nI_1, A_A, if_neg (by omega), hN]
      refine ⟨N, ?_, ?_, ?_⟩
      · refine (sb a1 _).trans ?_
        rw [if_neg (by rw [q1]; decide)]
        refine (sb (show f_X12_stoppedBy K L fu M (B + 44) (nI p0) = _ from stopped_loop (fu := fu) hM hS w hp 16 fu 0 (by omega) (by omega)) _).trans ?_
        unfold f_X12_findWays_90
        unfold wyv at ev
        rcases fst_or S (mm_A M (B + 51)) p0 16 0 with y | ⟨j, -, j2, y⟩
        · rw [y] at ev ⊢
          rw [if_pos rfl] at ev
          rw [if_neg (by decide)]
          refine (sb (other_m hM hS w hp) _).trans ?_
          by_cases ho : hgo S p0 = none ∨ mm_A M (B + 51) ((hgo S p0).getD 0) = S (3940 * p0 + 45)
          · rw [if_pos ho, if_pos rfl]
            rw [if_pos ho] at ev
            obtain ⟨hh, h6, hSS, hok⟩ := w p0 hp
            have := (isw_h h6 hSS).mp hi
            obtain ⟨-, k, k1, k2⟩ := hok this.1 this.2
            rw [k2, nI_clamp (by omega)] at ev
            refine (sb (own_m hM hS hp hc k1 k2 hfu) _).trans ?_
            exact h99 _ ev
          · rw [if_neg ho, if_neg (by decide)]
            rw [if_neg ho] at ev
            exact h99 0 (by rw [← ev]; unfold wbv; rw [if_neg (by decide)])
        · rw [y] at ev ⊢
          have yn : ¬ nI j = -1 := by
            intro e
            have := congrArg Int32.toInt e
            rw [nI_toInt (by omega), show (-1 : Int32).toInt = -1 from rfl] at this
            omega
          rw [if_neg yn] at ev
          rw [if_pos (show (0 : Int32) ≤ nI j by rw [t_le, nI_toInt (by omega), show (0 : Int32).toInt = 0 from rfl]; omega)]
          refine h99 0 ?_
          rw [← ev]
          unfold wbv
          rw [show (8 : Int32) = nI 8 from rfl, nI_add, if_neg (show ¬ nI (8 + j) < 7 by rw [t_lt, nI_toInt (by omega), show (7 : Int32).toInt = 7 from rfl]; omega)]
      · rw [hN]
        exact (scr.Aa (by omega)).tr (scr.Aa (by omega))
      · intro p hp'
        obtain ⟨k1, k2, k3, k4⟩ := G p hp'
        rw [hN, A_A, if_pos rfl, A_A, if_neg (by omega), A_A, if_pos rfl, upd_eq, upd_eq]
        by_cases e : p = p0
        · subst e
          rw [if_pos rfl, if_pos rfl]
          exact ⟨Or.inr rfl, fun _ => rfl, fun _ _ => rfl, fun _ _ => rfl⟩
        · rw [if_neg e, if_neg e]
          exact ⟨k1, k2, k3, fun hi' x => k4 hi' (by omega)⟩
    · have q2 : rr = 0 := a2.resolve_right q1
      refine ⟨M, ?_, scr.rf B M, keep (fun _ hrk => ?_)⟩
      · refine (sb a1 _).trans ?_
        rw [if_pos q2]
      · exfalso
        refine q1 (a3.mpr ⟨fun q h2 => ?_, fun t ht h1 q h2 => ?_⟩)
        · obtain ⟨x1, -, x3, -⟩ := hgo_16 w hp h2
          have := hr p0 q hp x1 (Or.inl h2)
          exact known q x1 x3 (by omega)
        · obtain ⟨x1, -, x3, -⟩ := hgo_16 w ht h2
          have := hr p0 q hp x1 (Or.inr ⟨t, ht, h1, h2⟩)
          exact known q x1 x3 (by omega)
  · rw [if_neg q0]
    exact ⟨M, rfl, scr.rf B M, keep (fun _ _ => (G p0 hp).1.resolve_left q0)⟩
theorem inner_loop {k35 : Int32 → Mm → Option Mm} (w : WF S) (h16 : ∀ p, rk p < 16) (hr : ∀ p q, p < 16 → q < 16 → ((hgo S p = some q) ∨ ∃ t, t < 16 ∧ stp S t p ∧ hgo S t = some q) → rk q < rk p) (hfu : 1000 ≤ fu) {r : Nat} (v : Int32) : ∀ (d g p0 : Nat) (M : Mm), MS B K L (mm_R M) → mm_A M (B + 45) = S → cal B M l a s nu → Gw B S (Ww S l a s nu) rk r p0 M → p0 + d = 16 → d < g → ∃ M', f_X12_findWays_43 K L fu k35 (B + 44) g v (nI p0) M = k35 (v + 1) M' ∧ scr B M M' ∧ Gw B S (Ww S l a s nu) rk (r + 1) 0 M' := by
  intro d
  induction d with
  | zero =>
    intro g p0 M hM hS hc G h1 h2
    obtain ⟨g, rfl⟩ : ∃ g', g = g' + 1 := ⟨g - 1, by omega⟩
    have : p0 = 16 := by omega
    subst this
    refine ⟨M, ?_, scr.rf B M, fun p hp => ?_⟩
    · show f_X12_findWays_43b K L fu k35 (f_X12_findWays_43 K L fu k35 (B + 44) g) (B + 44) v (nI 16) M = _
      unfold f_X12_findWays_43b
      rw [if_pos (by decide)]
    · obtain ⟨g1, g2, g3, g4⟩ := G p hp
      exact ⟨g1, g2, g3, fun hi x => g4 hi (by omega)⟩
  | succ d ih =>
    intro g p0 M hM hS hc G h1 h2
    obtain ⟨g, rfl⟩ : ∃ g', g = g' + 1 := ⟨g - 1, by omega⟩
    obtain ⟨M1, e1, e2, e3⟩ := inner_step (k35 := k35) (g := g) hM hS w hc h16 hr hfu (by omega) v G
    obtain ⟨M2, f1, f2, f3⟩ := ih g (p0 + 1) M1 (e2.MS hM) (e2.S.trans hS) (hc.scr e2) e3 (by omega) (by omega)
    exact ⟨M2, e1.trans f1, e2.tr f2, f3⟩
theorem outer_loop (w : WF S) (h16 : ∀ p, rk p < 16) (hr : ∀ p q, p < 16 → q < 16 → ((hgo S p = some q) ∨ ∃ t, t < 16 ∧ stp S t p ∧ hgo S t = some q) → rk q < rk p) (hfu : 1000 ≤ fu) : ∀ (d g r : Nat) (M : Mm), MS B K L (mm_R M) → mm_A M (B + 45) = S → cal B M l a s nu → Gw B S (Ww S l a s nu) rk r 0 M → r + d = 16 → d < g → ∃ M', f_X12_findWays_35 K L fu (B + 44) g (nI r) M = some M' ∧ scr B M M' ∧ Gw B S (Ww S l a s nu) rk 16 0 M' := by
  intro d
  induction d with
  | zero =>
    intro g r M hM hS hc G h1 h2
    obtain ⟨g, rfl⟩ : ∃ g', g = g' + 1 := ⟨g - 1, by omega⟩
    have : r = 16 := by omega
    subst this
    refine ⟨M, ?_, scr.rf B M, G⟩
    show f_X12_findWays_35b K L fu (f_X12_findWays_35 K L fu (B + 44) g) (B + 44) (nI 16) M = _
    unfold f_X12_findWays_35b
    rw [if_pos (by decide)]
  | succ d ih =>
    intro g r M hM hS hc G h1 h2
    obtain ⟨g, rfl⟩ : ∃ g', g = g' + 1 := ⟨g - 1, by omega⟩
    obtain ⟨M1, e1, e2, e3⟩ := inner_loop (fu := fu) (k35 := f_X12_findWays_35 K L fu (B + 44) g) w h16 hr hfu (nI r) 16 fu 0 M hM hS hc G (by omega) (by omega)
    obtain ⟨M2, f1, f2, f3⟩ := ih g (r + 1) M1 (e2.MS hM) (e2.S.trans hS) (hc.scr e2) e3 (by omega) (by omega)
    refine ⟨M2, ?_, e2.tr f2, f3⟩
    show f_X12_findWays_35b K L fu (f_X12_findWays_35 K L fu (B + 44) g) (B + 44) (nI r) M = _
    unfold f_X12_findWays_35b
    rw [if_neg (show ¬ (16 : Int32) ≤ nI r by rw [t_le, nI_toInt (by omega), show (16 : Int32).toInt = 16 from rfl]; omega)]
    refine (show f_X12_findWays_43 K L fu (f_X12_findWays_35 K L fu (B + 44) g) (B + 44) fu (nI r) 0 M = _ from e1).trans ?_
    rw [nI_1]
    exact f1
theorem know_loop (w : WF S) : ∀ (d g i : Nat) (M : Mm), MS B K L (mm_R M) → mm_A M (B + 45) = S → (∀ p, p < i → mm_A M (B + 52) p = if isw S p then 0 else 1) → i + d = 16 → d < g → ∃ M', f_X12_findWays_2 K L fu (B + 44) g (nI i) M = f_X12_findWays_35 K L fu (B + 44) fu 0 M' ∧ scr B M M' ∧ ∀ p, p < 16 → mm_A M' (B + 52) p = if isw S p then 0 else 1 := by
  intro d
  induction d with
  | zero =>
    intro g i M hM hS hk h1 h2
    obtain ⟨g, rfl⟩ : ∃ g', g = g' + 1 := ⟨g - 1, by omega⟩
    have : i = 16 := by omega
    subst this
    refine ⟨M, ?_, scr.rf B M, hk⟩
    show f_X12_findWays_2b K L fu (f_X12_findWays_2 K L fu (B + 44) g) (B + 44) (nI 16) M = _
    unfold f_X12_findWays_2b
    rw [if_pos (by decide)]
  | succ d ih =>
    intro g i M hM hS hk h1 h2
    obtain ⟨g, rfl⟩ : ∃ g', g = g' + 1 := ⟨g - 1, by omega⟩
    have hx13 : rx K L (some (B + 52)) 15 (nI i) = some (B + 52) := rx_ok hM.2.1.2.2.2.2.2.2.2.1 hM.2.2.2.2.2.2.2.2.2.1 (show i < 16 by omega) (by decide)
    obtain ⟨M2, f1, f2, f3⟩ := ih g (i + 1) (ms_A M (B + 52) (upd (mm_A M (B + 52)) i (if isw S i then 0 else 1))) hM (by rw [A_A, if_neg (by omega)]; exact hS) (fun p hp => by
      rw [A_A, if_pos rfl, upd_eq]
      by_cases e : p = i
      · rw [if_pos e, e]
      · rw [if_neg e]; exact hk p (by omega)) (by omega) (by omega)
    refine ⟨M2, ?_, (scr.Aa (by omega)).tr f2, f3⟩
    show f_X12_findWays_2b K L fu (f_X12_findWays_2 K L fu (B + 44) g) (B + 44) (nI i) M = _
    unfold f_X12_findWays_2b
    rw [if_neg (show ¬ (16 : Int32) ≤ nI i by rw [t_le, nI_toInt (by omega), show (16 : Int32).toInt = 16 from rfl]; omega), show mm_R M (32 * 12 + 13) (B + 44) = _ from hM.1.2.2.2.2.2.2.2.2.1, hx13, nI_clamp (by omega), nI_1]
    refine (sb (isSw_m hM hS w (show i < 16 by omega)) _).trans ?_
    rw [← f1, if10]
    by_cases q : isw S i
    · rw [if_pos q, if_pos q]
      refine (sb rfl _).trans ?_
      rw [bn_eq]
    · rw [if_neg q, if_neg q]
      refine (sb rfl _).trans ?_
      rw [bn_eq]
theorem findWays_eq {M : Mm} (w : WF S) (h16 : ∀ p, rk p < 16) (hr : ∀ p q, p < 16 → q < 16 → ((hgo S p = some q) ∨ ∃ t, t < 16 ∧ stp S t p ∧ hgo S t = some q) → rk q < rk p) (hfu : 1000 ≤ fu) (hM : MS B K L (mm_R M)) (hS : mm_A M (B + 45) = S) (hc : cal B M l a s nu) : ∃ M', f_X12_findWays K L fu (B + 44) M = some M' ∧ scr B M M' ∧ ∀ p, p < 16 → isw S p → mm_A M' (B + 51) p = Ww S l a s nu p := by
  obtain ⟨M1, e1, e2, e3⟩ := know_loop (fu := fu) (K := K) (L := L) w 16 fu 0 M hM hS (fun p hp => by omega) (by omega) (by omega)
  obtain ⟨M2, f1, f2, f3⟩ := outer_loop (fu := fu) (K := K) (L := L) (l := l) (a := a) (s := s) (nu := nu) w h16 hr hfu 16 fu 0 M1 (e2.MS hM) (e2.S.trans hS) (hc.scr e2) (fun p hp => by
    rw [e3 p hp]
    by_cases q : isw S p
    · rw [if_pos q]
      exact ⟨Or.inl rfl, fun x => absurd q x, fun _ x => absurd x (by decide), fun _ x => by omega⟩
    · rw [if_neg q]
      exact ⟨Or.inr rfl, fun _ => rfl, fun x => absurd x q, fun x => absurd x q⟩) (by omega) (by omega)
  refine ⟨M2, ?_, e2.tr f2, fun p hp hi => ?_⟩
  · unfold f_X12_findWays
    exact (show f_X12_findWays_2 K L fu (B + 44) fu 0 M = _ from e1).trans f1
  · obtain ⟨-, -, g3, g4⟩ := f3 p hp
    exact g3 hi (g4 hi (Or.inl (h16 p)))
end RO
