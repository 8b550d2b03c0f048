/-! grow -/
theorem if10 {α : Type} {c : Prop} [Decidable c] (x y : α) : (if (if c then (1 : Int32) else 0) = 0 then x else y) = if c then y else x := by
  by_cases h : c
  · rw [if_pos h, if_pos h, if_neg (by decide)]
  · rw [if_neg h, if_neg h, if_pos rfl]
section FS
variable {B n : Nat} {K L : Nat → Nat} {M : Mm}
theorem scr.bmp {M' : Mm} {k : Nat} (h : scr B M M') : scr B (bump M (B + 49) k) (bump M' (B + 49) k) := by
  refine ⟨h.1, h.2.1, h.2.2.1, fun a h1 h2 h3 h4 h5 h6 h7 => ?_, h.2.2.2.2.1, h.2.2.2.2.2⟩
  have e := h.2.2.2.1
  unfold bump
  rw [A_A, A_A, e a h1 h2 h3 h4 h5 h6 h7, e (B + 49) (by omega) (by omega) (by omega) (by omega) (by omega) (by omega) (by omega)]
theorem scr.ms {M' : Mm} {g : Nat → Int32} (h : scr B M M') : scr B (ms_A M (B + 45) g) (ms_A M' (B + 45) g) := by
  refine ⟨h.1, h.2.1, h.2.2.1, fun a h1 h2 h3 h4 h5 h6 h7 => ?_, h.2.2.2.2.1, h.2.2.2.2.2⟩
  rw [A_A, A_A, h.2.2.2.1 a h1 h2 h3 h4 h5 h6 h7]
theorem fin_scr (iv : Iv B n K L M) (k : Nat) (h1 : 2 ≤ k) (h2 : k ≤ 13) {F1 : Option (Int32 × Mm)} {F2 : Mm → Option (Int32 × Mm)} (e1 : F1 = f_X11_refuse K L B (-(nI k)) M) (e2 : ∃ M', scr B (bump M (B + 43) k) M' ∧ F2 (bump M (B + 43) k) = f_X12_no K L (B + 44) (-(nI k)) M') : ∃ x1 x2, F1 = some x1 ∧ F2 x1.2 = some x2 ∧ x1.1 = x2.1 ∧ Iv B n K L x2.2 := by
  obtain ⟨a1, -, a3⟩ := both_no iv h1 h2
  obtain ⟨M', i1, i2⟩ := e2
  have hms : MS B K L (mm_R (bump M (B + 43) k)) := iv.1.1
  exact ⟨_, (-(nI k), bump M' (B + 49) k), e1.trans a1, i2.trans (no_eq (i1.MS hms) h2), rfl, iv_scr a3 i1.bmp⟩
end FS
theorem ng_inj {v : Int32} : (v = 0 ∨ v = -(nI 2) ∨ v = -(nI 3) ∨ v = -(nI 8) ∨ v = -(nI 9) ∨ v = -(nI 10) ∨ v = -(nI 11) ∨ v = -(nI 12)) → v = 0 ∨ ∃ k, 2 ≤ k ∧ k ≤ 13 ∧ v = -(nI k) := by
  rintro (h | h | h | h | h | h | h | h)
  · exact Or.inl h
  · exact Or.inr ⟨2, by decide, by decide, h⟩
  · exact Or.inr ⟨3, by decide, by decide, h⟩
  · exact Or.inr ⟨8, by decide, by decide, h⟩
  · exact Or.inr ⟨9, by decide, by decide, h⟩
  · exact Or.inr ⟨10, by decide, by decide, h⟩
  · exact Or.inr ⟨11, by decide, by decide, h⟩
  · exact Or.inr ⟨12, by decide, by decide, h⟩
/-- why no growth, once the step is there -/
def gw (S : Nat → Int32) (o m z : Nat) : Int32 := if S (o + 75) ≤ nI m then (if S (o + 49 + z) < S (o + 37) then -12 else if 10000 < S (o + 29) + S (o + 49 + z) then -12 else if ov (fun w => S (o + 28 + w)) (fun w => S (o + 36 + w)) 1 (S (o + 29)) (S (o + 49 + z)) 7 = 0 then 0 else -12) else -11
def gv (S : Nat → Int32) (o m win k z : Nat) : Int32 := if k = 0 then -2 else if z < k then (if z = 0 then gw S o m z else if vd S o m win = 0 then gw S o m z else vd S o m win) else -3
theorem gw_or (S : Nat → Int32) (o m z : Nat) : gw S o m z = 0 ∨ gw S o m z = -(nI 11) ∨ gw S o m z = -(nI 12) := by
  unfold gw
  repeat' split
  all_goals first | exact Or.inl rfl | exact Or.inr (Or.inl rfl) | exact Or.inr (Or.inr rfl)
theorem gv_or (S : Nat → Int32) (o m win k z : Nat) : gv S o m win k z = 0 ∨ ∃ k', 2 ≤ k' ∧ k' ≤ 13 ∧ gv S o m win k z = -(nI k') := by
  apply ng_inj
  have h1 := gw_or S o m z
  have h2 := vd_or S o m win
  unfold gv
  repeat' split
  all_goals first | (rcases h1 with h | h | h <;> simp [h]; done) | (rcases h2 with h | h | h | h <;> simp [h]; done) | exact Or.inr (Or.inl rfl) | exact Or.inr (Or.inr (Or.inl rfl))
section GR
variable {B n : Nat} {K L : Nat → Nat} {M : Mm} {fu p b hh m win : Nat}
theorem spent_eq {S : Nat → Int32} {T : Nat → Int32} (hp : p < 16) (hm : m < 240) (hw : S (3940 * p + 70) = nI win) (hw1 : win ≤ 60) (hw0 : 1 ≤ win) (hT : ∀ k, k < 240 → S (3940 * p + 100 + 4 * (240 * 1 + k)) = 0 ∨ S (3940 * p + 100 + 4 * (240 * 1 + k)) = 1) (hfu : 1000 ≤ fu) {M : Mm} (hM : MS B K L (mm_R M)) (hS : mm_A M (B + 45) = S) : ∃ M', f_X12_isSpent K L fu (B + 44) (nI p) (nI m) M = some ((if vd S (3940 * p) m win = -10 then 1 else 0), M') ∧ scr B M M' := by
  obtain ⟨M', i1, i2, i3, i4, i5⟩ := window_eq (fu := fu) hp hm hw hw1 hw0 hT hfu hM hS
  refine ⟨M', ?_, i2⟩
  unfold f_X12_isSpent
  rw [i1]
  simp only [Option.bind_some]
  rw [m_of (c := 71) (i2.MS hM) hp 71 rfl (by decide), m_of (c := 72) (i2.MS hM) hp 72 rfl (by decide), i2.S, hS, show mm_J M' (32 * 12 + 17) (B + 44) = wC S (3940 * p) m win from i4, show mm_J M' (32 * 12 + 18) (B + 44) = wF S (3940 * p) m win from i5]
  simp only [Option.bind_some]
  unfold vd
  by_cases t : wT S (3940 * p) m win
  · rw [show mm_I M' (32 * 12 + 16) (B + 44) = 1 from i3.trans (if_pos t), if_neg (by decide), if_pos t]
    by_cases q1 : 0 ≤ lg_cmp (wC S (3940 * p) m win) (S (3940 * p + 71)).toInt64
    · rw [if_neg (Int32.not_lt.mpr q1), if_pos q1]
      by_cases q2 : lg_cmp (wC S (3940 * p) m win) 0 ≤ 0
      · rw [if_pos q2, if_pos q2, if_neg (by decide)]
      · rw [if_neg q2, if_neg q2]
        by_cases q3 : lg_cmp (wF S (3940 * p) m win * 10000) ((S (3940 * p + 72)).toInt64 * wC S (3940 * p) m win) ≤ 0
        · rw [if_pos q3, if_pos q3, if_neg (by decide)]
        · rw [if_neg q3, if_neg q3, if_pos rfl]
    · rw [if_pos (Int32.not_le.mp q1), if_neg q1, if_neg (by decide)]
  · rw [show mm_I M' (32 * 12 + 16) (B + 44) = 0 from i3.trans (if_neg t), if_pos rfl, if_neg t, if_neg (by decide)]
theorem why67 {S : Nat → Int32} (hp : p < 16) (hfu : 1000 ≤ fu) {z : Nat} (hz : z < 20) {M : Mm} (hM : MS B K L (mm_R M)) (hS : mm_A M (B + 45) = S) : f_X12_whyNoGrowth_67 K L fu (B + 44) (nI p) (nI m) (nI z - 1) M = some (gw S (3940 * p) m z, M) := by
  unfold f_X12_whyNoGrowth_67
  rw [m_of (c := 75) hM hp 75 rfl (by decide), m_of (c := 49 + (nI z - 1) + 1) hM hp (49 + z) (by rw [Int32.add_assoc, Int32.sub_add_cancel]; exact nI_add 49 z) (by omega), m_of (c := 29) hM hp 29 rfl (by decide), m_of (c := 37) hM hp 37 rfl (by decide), hS, ← Nat.add_assoc]
  simp only [Option.bind_some]
  rw [goesOver_m (way := 1) (fr := S (3940 * p + 29)) (n := S (3940 * p + 49 + z)) hM hp hS hfu]
  simp only [Option.bind_some]
  unfold gw
  repeat' split
  all_goals rfl
theorem whyN {S : Nat → Int32} (hp : p < 16) (hm : m < 240) (hw : S (3940 * p + 70) = nI win) (hw1 : win ≤ 60) (hw0 : 1 ≤ win) (hT : ∀ k, k < 240 → S (3940 * p + 100 + 4 * (240 * 1 + k)) = 0 ∨ S (3940 * p + 100 + 4 * (240 * 1 + k)) = 1) (hfu : 1000 ≤ fu) {z : Nat} (hz : z < 20) (h69 : S (3940 * p + 69) = nI z - 1) {M : Mm} (hM : MS B K L (mm_R M)) (hS : mm_A M (B + 45) = S) : ∃ M', f_X12_whyNoGrowth K L fu (B + 44) (nI p) (nI m) M = some ((if z = 0 then gw S (3940 * p) m z else if vd S (3940 * p) m win = 0 then gw S (3940 * p) m z else vd S (3940 * p) m win), M') ∧ scr B M M' := by
  obtain ⟨M1, i1, i2, i3, i4, i5⟩ := window_eq (fu := fu) hp hm hw hw1 hw0 hT hfu hM hS
  have hz0 : nI z - 1 < 0 ↔ z = 0 := by rw [t_lt, z_toInt (by omega), show (0 : Int32).toInt = 0 from rfl]; omega
  unfold f_X12_whyNoGrowth
  rw [m_of (c := 69) hM hp 69 rfl (by decide), hS, h69, i1]
  simp only [Option.bind_some]
  by_cases h : z = 0
  · refine ⟨M1, ?_, i2⟩
    rw [if_pos (hz0.mpr h), if_pos h]
    unfold f_X12_whyNoGrowth_28
    rw [if_pos (hz0.mpr h)]
    unfold f_X12_whyNoGrowth_51
    rw [if_pos (hz0.mpr h)]
    exact why67 hp hfu hz (i2.MS hM) (i2.S.trans hS)
  · have hn : ¬ nI z - 1 < 0 := fun q => h (hz0.mp q)
    rw [if_neg hn, if_neg h]
    by_cases t : wT S (3940 * p) m win
    · rw [show mm_I M1 (32 * 12 + 16) (B + 44) = 1 from i3.trans (if_pos t), if_neg (by decide)]
      unfold f_X12_whyNoGrowth_28
      rw [if_neg hn, m_of (c := 71) (i2.MS hM) hp 71 rfl (by decide), i2.S, hS, show mm_J M1 (32 * 12 + 17) (B + 44) = wC S (3940 * p) m win from i4]
      simp only [Option.bind_some]
      by_cases q1 : 0 ≤ lg_cmp (wC S (3940 * p) m win) (S (3940 * p + 71)).toInt64
      · rw [if_pos q1]
        unfold f_X12_whyNoGrowth_51
        obtain ⟨M2, j1, j2⟩ := spent_eq (T := S) (fu := fu) hp hm hw hw1 hw0 hT hfu (i2.MS hM) (i2.S.trans hS)
        rw [if_neg hn, j1]
        simp only [Option.bind_some]
        refine ⟨M2, ?_, i2.tr j2⟩
        by_cases q2 : vd S (3940 * p) m win = -10
        · rw [if_pos q2, if_neg (by decide), if_neg (by rw [q2]; decide), q2]
        · have q0 : vd S (3940 * p) m win = 0 := by
            unfold vd at q2 ⊢
            rw [if_pos t, if_pos q1] at q2 ⊢
            by_cases q3 : lg_cmp (wC S (3940 * p) m win) 0 ≤ 0
            · rw [if_pos q3]
            · rw [if_neg q3] at q2 ⊢
              by_cases q4 : lg_cmp (wF S (3940 * p) m win * 10000) ((S (3940 * p + 72)).toInt64 * wC S (3940 * p) m win) ≤ 0
              · rw [if_pos q4]
              · rw [if_neg q4] at q2
                exact absurd rfl q2
          rw [if_neg q2, if_pos rfl, if_pos q0]
          exact why67 hp hfu hz ((i2.tr j2).MS hM) ((i2.tr j2).S.trans hS)
      · rw [if_neg q1]
        refine ⟨M1, ?_, i2⟩
        have e : vd S (3940 * p) m win = -9 := by unfold vd; rw [if_pos t, if_neg q1]
        rw [e, if_neg (by decide)]
    · refine ⟨M1, ?_, i2⟩
      have e : vd S (3940 * p) m win = -8 := by unfold vd; rw [if_neg t]
      rw [show mm_I M1 (32 * 12 + 16) (B + 44) = 0 from i3.trans (if_neg t), if_pos rfl, e, if_neg (by decide)]
theorem growFault_eq {S : Nat → Int32} {o k z : Nat} {C : Nat → Nat → Option Nat} (h : BS K L (mm_R M) (mm_C M) b) (r : rAll M b S o) (hw : S (o + 70) = nI win) (h1 : 1 ≤ win) (h2 : win ≤ 60) (hm : m < 240) (hfu : 1000 ≤ fu) (l1 : k ≤ 20) (l2 : z ≤ 20) (l3 : 0 < k → z ≤ k) (l6 : mm_I M 97 (b + 9) = if k = 0 then -1 else nI k) (l7 : mm_I M 98 (b + 9) = nI z - 1) (l8 : ∀ i, i < k → mm_A M (b + 10) i = S (o + 49 + i) ∧ ∃ v : Nat, v ≤ 10000 ∧ S (o + 49 + i) = nI v) : f_X9_growFault K L fu M b (nI m) = some (gv S o m win k z) := by
  have hc1 : rc K (some b) 9 = some b := rc_ok h.1.1
  have hr9 : mm_R M (32 * 9 + 9) b = some (b + 9) := h.1.2.2.2.1
  have hc9 : rc K (some (b + 9)) 3 = some (b + 9) := rc_ok h.2.2.2.1.1
  have hr4 : mm_R M (32 * 9 + 4) b = some (b + 6) := h.1.2.2.1
  have hc4 : rc K (some (b + 6)) 7 = some (b + 6) := rc_ok h.2.2.1.1
  have hr10 : mm_R M (32 * 9 + 10) b = some (b + 11) := h.1.2.2.2.2.1
  have hc10 : rc K (some (b + 11)) 0 = some (b + 11) := rc_ok h.2.2.2.2.1
  have hct := r.ct (w := 1) (by decide)
  have hbu := r.2.2.2.2.1
  have ez : nI z - 1 + 1 = nI z := by rw [Int32.sub_add_cancel]
  have ez1 : nI z = nI (z + 1) - 1 := by rw [← nI_1, Int32.add_sub_cancel]
  have key : ∀ s0 : Int32, z < k → f_X9_growFault_64 K L fu M b (nI m) (nI z) s0 = some (if s0 = 0 then gw S o m z else s0) := by
    intro s0 hzk
    unfold f_X9_growFault_64
    by_cases q : s0 = 0
    · rw [if_pos q, if_pos q, hr10, hc10]
      obtain ⟨a1, v, v1, v2⟩ := l8 z hzk
      obtain ⟨s1, s2, f, s', f1, f2, f3, f4⟩ := r.2.2.1 1 (by decide) (by decide)
      simp only [Option.bind_some, hr9, hc9, hr4, hc4]
      rw [show mm_I M (32 * 0 + 5) (b + 11) = S (o + 75) from hbu.2.2.2.2.2.1, ez1, stepAt_eq h l6 l1 (z := z + 1) (by omega), if_pos (show 1 ≤ z + 1 ∧ z + 1 ≤ k by omega), show z + 1 - 1 = z from rfl, a1]
      simp only [Option.bind_some]
      rw [show f_X7_sizeOf K L M (b + 6) 1 = some (S (o + 37)) from (sizeOf_eq h (w := 1) (by decide) (by decide)).trans (by rw [s2])]
      simp only [Option.bind_some, f_X9_growFault_113, hr4, hc4]
      rw [show f_X7_firstOf K L M (b + 6) 1 = some (S (o + 29)) from (firstOf_eq h (w := 1) (by decide) (by decide)).trans (by rw [s1])]
      simp only [Option.bind_some]
      rw [fits_eq (way := 1) (fr := S (o + 29)) (n := S (o + 49 + z)) h r.2.2.1 hfu]
      have f3' : S (o + 29) = nI f := f3
      simp only [Option.bind_some]
      unfold gw
      by_cases c1 : S (o + 75) ≤ nI m
      · rw [if_pos c1, if_pos c1]
        by_cases c2 : S (o + 49 + z) < S (o + 37)
        · rw [if_neg (Int32.not_le.mpr c2), if_pos c2, if_neg (by decide)]
        · rw [if_pos (Int32.not_lt.mp c2), if_neg c2, if_pos trivial, if10]
          have e10 : (10000 : Int32) < S (o + 29) + S (o + 49 + z) ↔ 10000 < f + v := by
            rw [f3', v2, nI_add, t_lt, nI_toInt (by omega), show (10000 : Int32).toInt = 10000 from rfl]
            omega
          have eF : (S (o + 29)).toInt = f := by rw [f3', nI_toInt (by omega)]
          have eV : (S (o + 49 + z)).toInt = v := by rw [v2, nI_toInt (by omega)]
          by_cases c3 : 10000 < f + v
          · rw [if_pos (e10.mpr c3), if_neg (fun q => by have := q.2.1.2; omega)]
          · rw [if_neg (fun q => c3 (e10.mp q))]
            by_cases c4 : ov (fun w => S (o + 28 + w)) (fun w => S (o + 36 + w)) 1 (S (o + 29)) (S (o + 49 + z)) 7 = 0
            · rw [if_pos c4, if_pos ⟨⟨by omega, by omega⟩, ⟨by omega, by omega⟩, c4⟩]
            · rw [if_neg c4, if_neg (fun q => c4 q.2.2)]
      · rw [if_neg c1, if_neg c1]
    · rw [if_neg q, if_neg q]
  unfold f_X9_growFault
  simp only [hr9, hc9, Option.bind_some, hasRow_eq l6 l1, bn_eq, show mm_I M (32 * 3 + 2) (b + 9) = _ from l7, ez, hasStep_eq l6 l1, stood_eq l7 l2, nI_toInt (show z < 2 ^ 31 by omega), hr10, hc10]
  unfold gv
  by_cases h0 : k = 0
  · rw [if_pos h0, if_pos rfl, if_pos h0]
  · rw [if_neg h0, if_neg (by decide), if_neg h0]
    by_cases hzk : z < k
    · rw [if_pos (show 0 ≤ (z : Int) ∧ (z : Int) < k by omega), if_neg (by decide), if_pos hzk]
      by_cases hz0 : z = 0
      · rw [if_pos hz0, if_pos rfl, if_pos hz0, key 0 hzk, if_pos rfl]
      · rw [if_neg hz0, if_neg (by decide), if_neg hz0, show f_X9_rowOf K L M b 1 = _ from rowOf_eq h (w := 1) (by decide) hct]
        simp only [Option.bind_some]
        rw [fault_eq h hct hbu hw h1 h2 hm hfu]
        simp only [Option.bind_some]
        rw [key _ hzk]
    · rw [if_neg (show ¬ (0 ≤ (z : Int) ∧ (z : Int) < k) by omega), if_pos rfl, if_neg hzk]
end GR
