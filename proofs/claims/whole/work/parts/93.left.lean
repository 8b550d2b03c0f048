/-! the class's window; what a budget says; left -/
section WC
variable {K L : Nat → Nat} {M : Mm} {fu b o w m : Nat} {S : Nat → Int32} {C : Nat → Nat → Option Nat}
theorem told_loop (h : BS K L (mm_R M) C b) (hw : w < 4) (r : rCt M b S o w) (hm : m < 240) {st : Nat} : ∀ (d g i : Nat), st + i + d = m + 1 → d < g → ta (fun k => S (o + 100 + 4 * (240 * w + k))) st i → f_X2_areTold_2 K L fu M (b + 14 + 4 * w) g (nI m) (nI (st + i)) = some (if ta (fun k => S (o + 100 + 4 * (240 * w + k))) st (i + d) then 1 else 0) := by
  intro d
  induction d with
  | zero =>
    intro g i h1 h2 h3
    obtain ⟨g, rfl⟩ : ∃ g', g = g' + 1 := ⟨g - 1, by omega⟩
    show f_X2_areTold_2b K L fu (f_X2_areTold_2 K L fu M (b + 14 + 4 * w) g) M (b + 14 + 4 * w) (nI m) (nI (st + i)) = _
    unfold f_X2_areTold_2b
    rw [if_pos (nI_lt (by omega) (by omega)), if_pos (show ta (fun k => S (o + 100 + 4 * (240 * w + k))) st (i + 0) from h3)]
  | succ d ih =>
    intro g i h1 h2 h3
    obtain ⟨g, rfl⟩ : ∃ g', g = g' + 1 := ⟨g - 1, by omega⟩
    show f_X2_areTold_2b K L fu (f_X2_areTold_2 K L fu M (b + 14 + 4 * w) g) M (b + 14 + 4 * w) (nI m) (nI (st + i)) = _
    unfold f_X2_areTold_2b
    rw [if_neg (nI_nlt (by omega) (by omega)), isTold_eq h hw r (show st + i < 240 by omega), nI_1]
    simp only [Option.bind_some]
    by_cases q : S (o + 100 + 4 * (240 * w + (st + i))) = 1
    · rw [if_neg (by rw [q]; decide)]
      have h4 : ta (fun k => S (o + 100 + 4 * (240 * w + k))) st (i + 1) := by
        intro j hj
        by_cases e : j = i
        · subst e; exact q
        · exact h3 j (by omega)
      have := ih g (i + 1) (by omega) (by omega) h4
      rw [show st + (i + 1) = st + i + 1 from rfl, show i + 1 + d = i + (d + 1) by omega] at this
      exact this
    · have q0 : S (o + 100 + 4 * (240 * w + (st + i))) = 0 := by
        obtain ⟨-, -, e, -, -, r5⟩ := r
        rcases r5 (st + i) (by omega) with q' | q'
        · exact q'.1
        · exact absurd q'.1 q
      rw [if_pos q0, if_neg (fun q' => q (q' i (by omega)))]
theorem calls_loop (h : BS K L (mm_R M) C b) (hw : w < 4) (r : rCt M b S o w) (hm : m < 240) {st : Nat} : ∀ (d g i : Nat), st + i + d = m + 1 → d < g → f_X2_callsIn_5 K L fu M (b + 14 + 4 * w) g (nI m) (sm (fun k => S (o + 101 + 4 * (240 * w + k))) st i) (nI (st + i)) = some (sm (fun k => S (o + 101 + 4 * (240 * w + k))) st (i + d)) := by
  intro d
  induction d with
  | zero =>
    intro g i h1 h2
    obtain ⟨g, rfl⟩ : ∃ g', g = g' + 1 := ⟨g - 1, by omega⟩
    show f_X2_callsIn_5b K L fu (f_X2_callsIn_5 K L fu M (b + 14 + 4 * w) g) M (b + 14 + 4 * w) (nI m) _ (nI (st + i)) = _
    unfold f_X2_callsIn_5b
    rw [if_pos (nI_lt (by omega) (by omega))]
    rfl
  | succ d ih =>
    intro g i h1 h2
    obtain ⟨g, rfl⟩ : ∃ g', g = g' + 1 := ⟨g - 1, by omega⟩
    show f_X2_callsIn_5b K L fu (f_X2_callsIn_5 K L fu M (b + 14 + 4 * w) g) M (b + 14 + 4 * w) (nI m) _ (nI (st + i)) = _
    unfold f_X2_callsIn_5b
    rw [if_neg (nI_nlt (by omega) (by omega)), callsAt_eq h hw r (show st + i < 240 by omega), nI_1]
    simp only [Option.bind_some, bn_eq]
    have := ih g (i + 1) (by omega) (by omega)
    rw [show i + 1 + d = i + (d + 1) by omega] at this
    exact this
theorem faults_loop (h : BS K L (mm_R M) C b) (hw : w < 4) (r : rCt M b S o w) (hm : m < 240) {st : Nat} : ∀ (d g i : Nat), st + i + d = m + 1 → d < g → f_X2_faultsIn_5 K L fu M (b + 14 + 4 * w) g (nI m) (sm (fun k => S (o + 102 + 4 * (240 * w + k))) st i) (nI (st + i)) = some (sm (fun k => S (o + 102 + 4 * (240 * w + k))) st (i + d)) := by
  intro d
  induction d with
  | zero =>
    intro g i h1 h2
    obtain ⟨g, rfl⟩ : ∃ g', g = g' + 1 := ⟨g - 1, by omega⟩
    show f_X2_faultsIn_5b K L fu (f_X2_faultsIn_5 K L fu M (b + 14 + 4 * w) g) M (b + 14 + 4 * w) (nI m) _ (nI (st + i)) = _
    unfold f_X2_faultsIn_5b
    rw [if_pos (nI_lt (by omega) (by omega))]
    rfl
  | succ d ih =>
    intro g i h1 h2
    obtain ⟨g, rfl⟩ : ∃ g', g = g' + 1 := ⟨g - 1, by omega⟩
    show f_X2_faultsIn_5b K L fu (f_X2_faultsIn_5 K L fu M (b + 14 + 4 * w) g) M (b + 14 + 4 * w) (nI m) _ (nI (st + i)) = _
    unfold f_X2_faultsIn_5b
    rw [if_neg (nI_nlt (by omega) (by omega)), faultsAt_eq h hw r (show st + i < 240 by omega), nI_1]
    simp only [Option.bind_some, bn_eq]
    have := ih g (i + 1) (by omega) (by omega)
    rw [show i + 1 + d = i + (d + 1) by omega] at this
    exact this
end WC
abbrev wT (S : Nat → Int32) (o m win : Nat) : Prop := S (o + 91) = 1 ∧ ta (fun k => S (o + 100 + 4 * (240 * 1 + k))) (m + 1 - win) (m + 1 - (m + 1 - win))
def wC (S : Nat → Int32) (o m win : Nat) : Int64 := sm (fun k => S (o + 101 + 4 * (240 * 1 + k))) (m + 1 - win) (m + 1 - (m + 1 - win))
def wF (S : Nat → Int32) (o m win : Nat) : Int64 := sm (fun k => S (o + 102 + 4 * (240 * 1 + k))) (m + 1 - win) (m + 1 - (m + 1 - win))
/-- what the budget says: UNTOLD, FEW, OVER, or 0 -/
def vd (S : Nat → Int32) (o m win : Nat) : Int32 := if wT S o m win then (if 0 ≤ lg_cmp (wC S o m win) (S (o + 71)).toInt64 then (if lg_cmp (wC S o m win) 0 ≤ 0 then 0 else if lg_cmp (wF S o m win * 10000) ((S (o + 72)).toInt64 * wC S o m win) ≤ 0 then 0 else -10) else -9) else -8
theorem vd_or (S : Nat → Int32) (o m win : Nat) : vd S o m win = 0 ∨ vd S o m win = -(nI 8) ∨ vd S o m win = -(nI 9) ∨ vd S o m win = -(nI 10) := by
  unfold vd
  repeat' split
  all_goals first | exact Or.inl rfl | exact Or.inr (Or.inl rfl) | exact Or.inr (Or.inr (Or.inl rfl)) | exact Or.inr (Or.inr (Or.inr rfl))
section WD
variable {K L : Nat → Nat} {M : Mm} {fu b o m win : Nat} {S : Nat → Int32} {C : Nat → Nat → Option Nat}
theorem wstart_eq (hw : mm_I M 0 (b + 11) = nI win) (h1 : 1 ≤ win) (h2 : win ≤ 60) (hm : m < 240) : f_X0_windowStart K L M (b + 11) (nI m) = some (nI (m + 1 - win)) := by
  unfold f_X0_windowStart
  rw [show mm_I M (32 * 0 + 0) (b + 11) = nI win from hw]
  have e1 : (nI m - nI win).toInt = (m : Int) - win := pk_sub_toInt (a := m) (b := win) (by omega) (by omega)
  have e2 : (nI m - nI win + 1).toInt = (m : Int) - win + 1 := by
    rw [Int32.toInt_add, e1, show (1 : Int32).toInt = 1 from rfl]
    apply Int.bmod_eq_of_le <;> omega
  congr 1
  apply Int32.toInt_inj.mp
  rw [nI_toInt (by omega)]
  by_cases q : (0 : Int32) < nI m - nI win + 1
  · rw [if_pos q, e2]
    rw [t_lt, e2, show (0 : Int32).toInt = 0 from rfl] at q
    omega
  · rw [if_neg q]
    rw [t_lt, e2, show (0 : Int32).toInt = 0 from rfl] at q
    rw [show (0 : Int32).toInt = 0 from rfl]
    omega
theorem fault_eq (h : BS K L (mm_R M) C b) (r : rCt M b S o 1) (bu : rBu M b S o) (hw : S (o + 70) = nI win) (h1 : 1 ≤ win) (h2 : win ≤ 60) (hm : m < 240) (hfu : 1000 ≤ fu) : f_X0_faultOf K L fu M (b + 11) (if S (o + 90 + 1) = 0 then none else some (b + 14 + 4 * 1)) (nI m) = some (vd S o m win) := by
  have hst := wstart_eq (K := K) (L := L) (bu.1.trans hw) h1 h2 hm
  have hc : rc K (some (b + 14 + 4 * 1)) 2 = some (b + 14 + 4 * 1) := rc_ok (h.2.2.2.2.2.2.2.2 1 (by decide)).2.1
  have ht : f_X2_areTold K L fu M (b + 14 + 4 * 1) (nI (m + 1 - win)) (nI m) = _ := told_loop (fu := fu) h (by decide) r hm (st := m + 1 - win) (m + 1 - (m + 1 - win)) fu 0 (by omega) (by omega) (fun i hi => by omega)
  have hcl : f_X2_callsIn K L fu M (b + 14 + 4 * 1) (nI (m + 1 - win)) (nI m) = _ := calls_loop (fu := fu) h (by decide) r hm (st := m + 1 - win) (m + 1 - (m + 1 - win)) fu 0 (by omega) (by omega)
  have hfl : f_X2_faultsIn K L fu M (b + 14 + 4 * 1) (nI (m + 1 - win)) (nI m) = _ := faults_loop (fu := fu) h (by decide) r hm (st := m + 1 - win) (m + 1 - (m + 1 - win)) fu 0 (by omega) (by omega)
  rw [Nat.zero_add] at ht hcl hfl
  unfold f_X0_faultOf vd
  rw [hst]
  simp only [Option.bind_some]
  rcases r.2.1 with q | q
  · rw [if_pos q, if_pos rfl, if_neg]
    intro q'
    have q2 : S (o + 90 + 1) = 1 := q'.1
    rw [q] at q2
    exact absurd q2 (by decide)
  · rw [if_neg (show ¬ S (o + 90 + 1) = 0 by rw [q]; decide), if_neg (by simp), hc]
    simp only [Option.bind_some, ht, hcl, hfl]
    have q91 : S (o + 91) = 1 := q
    rw [show mm_I M (32 * 0 + 1) (b + 11) = S (o + 71) from bu.2.1, show mm_I M (32 * 0 + 2) (b + 11) = S (o + 72) from bu.2.2.1]
    by_cases t : ta (fun k => S (o + 100 + 4 * (240 * 1 + k))) (m + 1 - win) (m + 1 - (m + 1 - win))
    · rw [if_pos t, if_neg (by decide), if_pos (show wT S o m win from ⟨q91, t⟩)]
      show (if 0 ≤ lg_cmp (wC S o m win) _ then if lg_cmp (wC S o m win) 0 ≤ 0 then _ else if lg_cmp (wF S o m win * 10000) (_ * wC S o m win) ≤ 0 then _ else _ else _) = _
      repeat' split
      all_goals rfl
    · rw [if_neg t, if_pos rfl, if_neg (fun q' => t q'.2)]
theorem fleft_eq (h : BS K L (mm_R M) C b) (r : rCt M b S o 1) (bu : rBu M b S o) (hw : S (o + 70) = nI win) (h1 : 1 ≤ win) (h2 : win ≤ 60) (hm : m < 240) (hfu : 1000 ≤ fu) : f_X0_faultsLeft K L fu M (b + 11) (some (b + 14 + 4 * 1)) (nI m) = some (((S (o + 72)).toInt64 * wC S o m win / 10000 - wF S o m win).toInt32) := by
  have hst := wstart_eq (K := K) (L := L) (bu.1.trans hw) h1 h2 hm
  have hc : rc K (some (b + 14 + 4 * 1)) 2 = some (b + 14 + 4 * 1) := rc_ok (h.2.2.2.2.2.2.2.2 1 (by decide)).2.1
  have hcl : f_X2_callsIn K L fu M (b + 14 + 4 * 1) (nI (m + 1 - win)) (nI m) = _ := calls_loop (fu := fu) h (by decide) r hm (st := m + 1 - win) (m + 1 - (m + 1 - win)) fu 0 (by omega) (by omega)
  have hfl : f_X2_faultsIn K L fu M (b + 14 + 4 * 1) (nI (m + 1 - win)) (nI m) = _ := faults_loop (fu := fu) h (by decide) r hm (st := m + 1 - win) (m + 1 - (m + 1 - win)) fu 0 (by omega) (by omega)
  rw [Nat.zero_add] at hcl hfl
  unfold f_X0_faultsLeft
  rw [hst]
  simp only [Option.bind_some, hc, hcl, hfl, bn_eq]
  rw [show mm_I M (32 * 0 + 2) (b + 11) = S (o + 72) from bu.2.2.1]
  rfl
end WD
theorem rCt.t01 {M : Mm} {b o w : Nat} {S : Nat → Int32} (r : rCt M b S o w) (k : Nat) (hk : k < 240) : S (o + 100 + 4 * (240 * w + k)) = 0 ∨ S (o + 100 + 4 * (240 * w + k)) = 1 := by
  obtain ⟨-, -, e, -, -, r5⟩ := r
  rcases r5 k hk with q | q
  · exact Or.inl q.1
  · exact Or.inr q.1
theorem mi_t {m : Nat} (h : m < 240) : 0 ≤ (nI m).toInt ∧ (nI m).toInt ≤ 239 := by rw [nI_toInt (by omega)]; omega
/-- left -/
theorem st_29 {fu : Nat} (hfu : 1000 ≤ fu) : so_29 Iv fu := by
  intro B n K L M w1 w2 iv
  by_cases hw : 0 ≤ w2.toInt ∧ w2.toInt ≤ 239
  · obtain ⟨m, m1, rfl⟩ := n_of (v := w2) (m := 239) hw.1 hw.2 (by decide)
    have hm : m < 240 := by omega
    have e2 : ∀ m', f_X12_left K L fu (B + 44) w1 (nI m) m' = Option.bind (f_X12_why K L m' (B + 44) w1 (nI 1)) (fun x5 => f_X12_left_25 K L fu (B + 44) w1 (nI m) x5 m') := by
      intro m'
      unfold f_X12_left
      rw [isPlace_eq, isMinute_eq, if_pos hw]
      simp only [Option.bind_some]
      by_cases h : 0 ≤ w1.toInt ∧ w1.toInt ≤ 15
      · rw [if_pos h, if_neg (by decide), if_neg (by decide)]
        rfl
      · rw [if_neg h, if_pos rfl, why_out h]
        rfl
    refine gated2 iv w1 (kinds := 6) (kind := 1) (by unfold kb; simp) (F2 := fun m' => f_X12_left K L fu (B + 44) w1 (nI m) m') ?_ ?_ ?_
    · intro k _ _ h1 h2
      unfold f_X11_left
      rw [within_eq, show (239 : Int32).toInt = 239 from rfl, if_pos hw]
      simp only [Option.bind_some, (shelf_at iv).1, (shelf_at iv).2, h1, h2, if_true]
      rw [if_neg (by decide)]
      exact bind_eta _
    · intro k m' hk hy
      show f_X12_left K L fu (B + 44) w1 (nI m) m' = _
      rw [e2, hy]
      simp only [Option.bind_some, f_X12_left_25, f_X12_left_43]
      rw [if_neg hk, if_neg hk]
      exact bind_eta _
    · intro p b hh hv hk g hf hy
      subst hv
      obtain ⟨g1, g2, g3, g4, g5, g6, g7, g8, g9, g10, g11⟩ := id g
      have hc1 : rc K (some b) 9 = some b := rc_ok g9.1.1
      have hr2 : mm_R M (32 * 9 + 10) b = some (b + 11) := g9.1.2.2.2.2.1
      have hc3 : rc K (some (b + 11)) 0 = some (b + 11) := rc_ok g9.2.2.2.2.1
      have hct := g11.ct (w := 1) (by decide)
      have hbu := g11.2.2.2.2.1
      obtain ⟨win, win1, win2, ew⟩ := hbu.2.2.2.2.2.2.2.1
      have hrow := rowOf_eq g9 (w := 1) (by decide) hct
      have hst := wstart_eq (K := K) (L := L) (hbu.1.trans ew) win1 win2 hm
      have hc : rc K (some (b + 14 + 4 * 1)) 2 = some (b + 14 + 4 * 1) := rc_ok (g9.2.2.2.2.2.2.2.2 1 (by decide)).2.1
      have ht : f_X2_areTold K L fu M (b + 14 + 4 * 1) (nI (m + 1 - win)) (nI m) = _ := told_loop (fu := fu) g9 (by decide) hct hm (st := m + 1 - win) (m + 1 - (m + 1 - win)) fu 0 (by omega) (by omega) (fun i hi => by omega)
      rw [Nat.zero_add] at ht
      have E1 : f_X11_left K L fu B (nI p) (nI m) M = if mm_A M (B + 45) (3940 * p + 91) = 0 then f_X11_refuse K L B (-(nI 2)) M else if ta (fun k => mm_A M (B + 45) (3940 * p + 100 + 4 * (240 * 1 + k))) (m + 1 - win) (m + 1 - (m + 1 - win)) then some ((((mm_A M (B + 45) (3940 * p + 72)).toInt64 * wC (mm_A M (B + 45)) (3940 * p) m win / 10000 - wF (mm_A M (B + 45)) (3940 * p) m win).toInt32), M) else f_X11_refuse K L B (-(nI 8)) M := by
        unfold f_X11_left
        rw [within_eq, show (239 : Int32).toInt = 239 from rfl, if_pos hw]
        simp only [Option.bind_some, (shelf_at iv).1, (shelf_at iv).2, hf, hc1, show f_X9_rowOf K L M b 1 = _ from hrow]
        rw [if_neg (by decide), if_neg (by simp)]
        by_cases q : mm_A M (B + 45) (3940 * p + 90 + 1) = 0
        · rw [if_pos q, if_pos rfl, if_pos (show mm_A M (B + 45) (3940 * p + 91) = 0 from q), bind_eta]
          rfl
        · rw [if_neg q, if_neg (by simp), if_neg (show ¬ mm_A M (B + 45) (3940 * p + 91) = 0 from q)]
          simp only [Option.bind_some, hr2, hc3, hst, hc, ht, fleft_eq g9 hct hbu ew win1 win2 hm hfu]
          by_cases t : ta (fun k => mm_A M (B + 45) (3940 * p + 100 + 4 * (240 * 1 + k))) (m + 1 - win) (m + 1 - (m + 1 - win))
          · rw [if_pos t, if_neg (by decide), if_pos t]
          · rw [if_neg t, if_pos rfl, if_neg t, bind_eta]
            rfl
      have E2 : ∀ m', sameS B M m' → ∃ M', scr B m' M' ∧ f_X12_left K L fu (B + 44) (nI p) (nI m) m' = if mm_A M (B + 45) (3940 * p + 91) = 0 then f_X12_no K L (B + 44) (-(nI 2)) m' else if ta (fun k => mm_A M (B + 45) (3940 * p + 100 + 4 * (240 * 1 + k))) (m + 1 - win) (m + 1 - (m + 1 - win)) then some ((((mm_A M (B + 45) (3940 * p + 72)).toInt64 * wC (mm_A M (B + 45)) (3940 * p) m win / 10000 - wF (mm_A M (B + 45)) (3940 * p) m win).toInt32), M') else f_X12_no K L (B + 44) (-(nI 8)) M' := by
        intro m' hm'
        have hms : MS B K L (mm_R m') := by rw [hm'.1]; exact iv.1.1
        obtain ⟨M', i1, i2, i3, i4, i5⟩ := window_eq (fu := fu) g1 hm ew win2 win1 (fun k hk => hct.t01 k hk) hfu hms hm'.2
        refine ⟨M', i2, ?_⟩
        rw [e2, hy m' hm']
        simp only [Option.bind_some, f_X12_left_25, if_true, m_of (c := 91) hms g1 91 rfl (by decide), hm'.2]
        by_cases q : mm_A M (B + 45) (3940 * p + 91) = 0
        · rw [if_pos q, if_pos q]
          unfold f_X12_left_43
          rw [if_neg (by decide)]
          exact bind_eta _
        · rw [if_neg q, if_neg q]
          unfold f_X12_left_43
          rw [if_pos rfl, i1]
          have q1 : mm_A M (B + 45) (3940 * p + 91) = 1 := by
            rcases hct.2.1 with q' | q'
            · exact absurd q' q
            · exact q'
          simp only [Option.bind_some]
          rw [show mm_J M' (32 * 12 + 17) (B + 44) = _ from i4, show mm_J M' (32 * 12 + 18) (B + 44) = _ from i5]
          by_cases t : ta (fun k => mm_A M (B + 45) (3940 * p + 100 + 4 * (240 * 1 + k))) (m + 1 - win) (m + 1 - (m + 1 - win))
          · rw [show mm_I M' (32 * 12 + 16) (B + 44) = 1 from i3.trans (if_pos ⟨q1, t⟩), if_neg (by decide), if_pos t, m_of (c := 72) (i2.MS hms) g1 72 rfl (by decide), i2.S, hm'.2]
            rfl
          · rw [show mm_I M' (32 * 12 + 16) (B + 44) = 0 from i3.trans (if_neg (fun q' => t q'.2)), if_pos rfl, if_neg t]
            exact bind_eta _
      by_cases q : mm_A M (B + 45) (3940 * p + 91) = 0
      · refine Or.inl ⟨2, by decide, by decide, by rw [E1, if_pos q], fun m' hm' => ?_⟩
        obtain ⟨M', -, i2⟩ := E2 m' hm'
        show f_X12_left K L fu (B + 44) (nI p) (nI m) m' = _
        rw [i2, if_pos q]
      · by_cases t : ta (fun k => mm_A M (B + 45) (3940 * p + 100 + 4 * (240 * 1 + k))) (m + 1 - win) (m + 1 - (m + 1 - win))
        · obtain ⟨M', i1, i2⟩ := E2 M sameS_rf
          right
          refine ⟨((((mm_A M (B + 45) (3940 * p + 72)).toInt64 * wC (mm_A M (B + 45)) (3940 * p) m win / 10000 - wF (mm_A M (B + 45)) (3940 * p) m win).toInt32), M), ((((mm_A M (B + 45) (3940 * p + 72)).toInt64 * wC (mm_A M (B + 45)) (3940 * p) m win / 10000 - wF (mm_A M (B + 45)) (3940 * p) m win).toInt32), M'), by rw [E1, if_neg q, if_pos t], ?_, rfl, iv_scr iv i1⟩
          show f_X12_left K L fu (B + 44) (nI p) (nI m) M = _
          rw [i2, if_neg q, if_pos t]
        · right
          obtain ⟨a1, -, -⟩ := both_no iv (k := 8) (by decide) (by decide)
          obtain ⟨M', i1, i2⟩ := E2 (bump M (B + 43) 8) sameS_bump
          rw [if_neg q, if_neg t] at i2
          have hms : MS B K L (mm_R (bump M (B + 43) 8)) := iv.1.1
          refine ⟨(-(nI 8), bump M (B + 43) 8), (-(nI 8), bump M' (B + 49) 8), by rw [E1, if_neg q, if_neg t, a1], ?_, rfl, ?_⟩
          · show f_X12_left K L fu (B + 44) (nI p) (nI m) (bump M (B + 43) 8) = _
            rw [i2, no_eq (i1.MS hms) (by decide)]
          · refine iv_scr (iv_bump iv 8) ?_
            refine ⟨i1.1, i1.2.1, i1.2.2.1, fun a h1 h2 h3 h4 h5 h6 h7 => ?_, i1.2.2.2.2.1, i1.2.2.2.2.2⟩
            have e := i1.2.2.2.1
            unfold bump at e ⊢
            rw [A_A, A_A, e a h1 h2 h3 h4 h5 h6 h7, e (B + 49) (by omega) (by omega) (by omega) (by omega) (by omega) (by omega) (by omega)]
  · refine fin_no iv 3 (by decide) (by decide) (F2 := fun m => f_X12_left K L fu (B + 44) w1 w2 m) ?_ ?_
    · unfold f_X11_left
      rw [within_eq, show (239 : Int32).toInt = 239 from rfl, if_neg hw]
      exact bind_eta _
    · show f_X12_left K L fu (B + 44) w1 w2 (bump M (B + 43) 3) = _
      unfold f_X12_left
      rw [isPlace_eq, isMinute_eq, if_neg hw]
      simp only [Option.bind_some, f_X12_left_14, f_X12_left_25, f_X12_left_43]
      have n3 : ¬ (-3 : Int32) = 0 := by decide
      simp only [if_neg n3, bind_eta, if_true]
      split <;> rfl
