/-! hang: the gate -/
theorem ff0 (f : Int32) : f_X11_firstFault f 0 = some f := by
  unfold f_X11_firstFault
  by_cases h1 : f = -3
  · rw [if_pos h1, h1]
  · rw [if_neg h1, if_neg (by decide)]
    by_cases h2 : f = -2
    · rw [if_pos h2, h2]
    · rw [if_neg h2, if_neg (by decide)]
      by_cases h3 : f = 0
      · rw [if_pos h3, h3]
      · rw [if_neg h3]
section HG
variable {B n : Nat} {K L : Nat → Nat} {M : Mm} {fu : Nat}
theorem hangs_eq {m : Mm} {p hh : Nat} (hM : MS B K L (mm_R m)) (hp : p < 16) (h6 : hh ≤ 6) (hS : mm_A m (B + 45) (3940 * p) = nI hh) : f_X12_hangs K L m (B + 44) (nI p) = some (if hh = 4 ∨ hh = 5 then 1 else 0) := by
  unfold f_X12_hangs
  rw [m_of0 hM hp, hS]
  simp only [Option.bind_some]
  rcases six h6 with rfl | rfl | rfl | rfl | rfl | rfl | rfl <;> decide
theorem hgate (iv : Iv B n K L M) (w1 w2 w3 : Int32) :
    (∃ k, 2 ≤ k ∧ k ≤ 13 ∧ f_X11_hang K L fu B w1 w2 w3 M = f_X11_refuse K L B (-(nI k)) M ∧ ∀ m, sameS B M m → f_X12_hang K L fu (B + 44) w1 w2 w3 m = f_X12_no K L (B + 44) (-(nI k)) m) ∨
    (∃ p b hh, w1 = nI p ∧ okk hh 2 ∧ Got B K L M p b hh ∧ (w2 = -1 ∨ ∃ q, q < 16 ∧ w2 = nI q) ∧ f_X11_hang K L fu B w1 w2 w3 M = f_X11_hang_97 K L fu B (some b) (mm_I M 293 b) (mm_I M 294 b) (if w2 = -1 then 0 else w3) w2 (some b) M ∧ ∀ m, sameS B M m → f_X12_hang K L fu (B + 44) w1 w2 w3 m = f_X12_hang_97 K L fu (B + 44) w1 w2 w3 m) := by
  obtain ⟨g, c1, -⟩ := id iv
  have hr : mm_R M (32 * 11 + 0) B = some (B + 1) := g.2.1.1.2.1
  have k24 : kb 24 2 := by unfold kb; simp
  have k31 : kb 31 0 := by unfold kb; simp
  have hms : ∀ m, sameS B M m → MS B K L (mm_R m) := fun m h => by rw [h.1]; exact g.1
  have find_some : ∃ x, f_X8_find K L M (B + 1) w1 24 = some x := by
    rcases gate iv w1 k24 with ⟨-, -, -, h, -⟩ | ⟨-, b, -, -, -, -, h, -⟩
    · exact ⟨none, h⟩
    · exact ⟨some b, h⟩
  have hft : ∀ f1 f2 f, f_X8_faultAt K L M (B + 1) w1 24 = some f1 → (w2 = -1 → f2 = 0) → (¬ w2 = -1 → f_X8_faultAt K L M (B + 1) w2 31 = some f2) → f_X11_firstFault f1 f2 = some f → f_X11_hangFault K L M B w1 w2 = some f := by
    intro f1 f2 f h1 h2 h3 h4
    unfold f_X11_hangFault
    rw [hr]
    refine (rcb g.2.1.2.1.1 _).trans ?_
    refine (sb h1 _).trans ?_
    by_cases y : w2 = -1
    · rw [if_pos y]
      unfold f_X11_hangFault_30
      rw [h2 y] at h4
      exact (sb h4 _).trans rfl
    · rw [if_neg y]
      refine (sb (h3 y) _).trans ?_
      unfold f_X11_hangFault_30
      exact (sb h4 _).trans rfl
  have cno : ∀ f1 f2 f v4, f_X8_faultAt K L M (B + 1) w1 24 = some f1 → (w2 = -1 → f2 = 0) → (¬ w2 = -1 → f_X8_faultAt K L M (B + 1) w2 31 = some f2) → f_X11_firstFault f1 f2 = some f → ¬ f = 0 → f_X11_hang_33 K L fu B w1 w2 w3 v4 M = f_X11_refuse K L B f M := by
    intro f1 f2 f v4 h1 h2 h3 h4 h5
    obtain ⟨x, hx⟩ := find_some
    unfold f_X11_hang_33
    refine (sb (hft f1 f2 f h1 h2 h3 h4) _).trans ?_
    rw [hr]
    refine (rcb g.2.1.2.1.1 _).trans ?_
    refine (sb hx _).trans ?_
    rw [if_neg h5]
    exact bind_eta _
  have cls : f_X11_hang K L fu B w1 w2 w3 M = if w2 = -1 then f_X11_hang_33 K L fu B w1 w2 w3 1 M else if 0 ≤ w3.toInt ∧ w3.toInt ≤ 7 then f_X11_hang_33 K L fu B w1 w2 w3 0 M else f_X11_refuse K L B (-(nI 3)) M := by
    unfold f_X11_hang f_X11_hang_10
    by_cases y : w2 = -1
    · rw [if_pos y, if_pos y, if_neg (by decide)]
    · rw [if_neg y, if_neg y, if_pos rfl, within_eq, show (7 : Int32).toInt = 7 from rfl]
      refine (sb rfl _).trans ?_
      rw [if10]
      by_cases z : 0 ≤ w3.toInt ∧ w3.toInt ≤ 7
      · rw [if_pos z, if_pos z]
      · rw [if_neg z, if_neg z]
        exact bind_eta _
  have ref : ∀ m, f_X12_hang K L fu (B + 44) w1 w2 w3 m = if 0 ≤ w1.toInt ∧ w1.toInt ≤ 15 then (if w2 = -1 then f_X12_hang_38 K L fu (B + 44) w1 w2 w3 m else if 0 ≤ w2.toInt ∧ w2.toInt ≤ 15 then (if 0 ≤ w3.toInt ∧ w3.toInt ≤ 7 then f_X12_hang_38 K L fu (B + 44) w1 w2 w3 m else f_X12_no K L (B + 44) (-(nI 3)) m) else f_X12_no K L (B + 44) (-(nI 3)) m) else f_X12_no K L (B + 44) (-(nI 3)) m := by
    intro m
    unfold f_X12_hang
    rw [isPlace_eq]
    refine (sb rfl _).trans ?_
    rw [if10]
    by_cases x : 0 ≤ w1.toInt ∧ w1.toInt ≤ 15
    · rw [if_pos x, if_pos x]
      by_cases y : w2 = -1
      · rw [if_pos y, if_pos y]
      · rw [if_neg y, if_neg y, isPlace_eq]
        refine (sb rfl _).trans ?_
        rw [if10]
        by_cases z : 0 ≤ w2.toInt ∧ w2.toInt ≤ 15
        · rw [if_pos z, if_pos z, isIn_l w3 (a := 0) (c := 7) rfl rfl]
          refine (sb rfl _).trans ?_
          rw [if10]
          by_cases t : 0 ≤ w3.toInt ∧ w3.toInt ≤ 7
          · rw [if_pos t, if_pos t]
          · rw [if_neg t, if_neg t]
            exact bind_eta _
        · rw [if_neg z, if_neg z]
          exact bind_eta _
    · rw [if_neg x, if_neg x]
      exact bind_eta _
  -- the reference behind its numbers
  have r38 : ∀ p hh m, w1 = nI p → p < 16 → hh ≤ 6 → mm_A M (B + 45) (3940 * p) = nI hh → sameS B M m → w2 = -1 → f_X12_hang_38 K L fu (B + 44) w1 w2 w3 m = if hh = 0 then f_X12_no K L (B + 44) (-(nI 2)) m else if hh = 4 ∨ hh = 5 then f_X12_hang_97 K L fu (B + 44) w1 w2 w3 m else f_X12_no K L (B + 44) (-(nI 5)) m := by
    intro p hh m e hp h6 hS hm y
    subst e
    have hS' : mm_A m (B + 45) (3940 * p) = nI hh := by rw [hm.2]; exact hS
    have z0 : nI hh = 0 ↔ hh = 0 := nI_eq (b := 0) (by omega) (by omega)
    have yl : w2 < 0 := by rw [y]; decide
    unfold f_X12_hang_38
    refine (sb ((m_of0 (hms m hm) hp).trans (congrArg some hS')) _).trans ?_
    by_cases x : hh = 0
    · rw [if_pos (z0.mpr x), if_pos x]
      exact bind_eta _
    · rw [if_neg (fun q => x (z0.mp q)), if_neg x, if_pos yl]
      unfold f_X12_hang_67
      refine (sb (hangs_eq (hms m hm) hp h6 hS') _).trans ?_
      rw [if10]
      by_cases t : hh = 4 ∨ hh = 5
      · rw [if_pos t, if_pos t, if_pos yl]
      · rw [if_neg t, if_neg t]
        exact bind_eta _
  have r38' : ∀ p hh q hq m, w1 = nI p → p < 16 → hh ≤ 6 → mm_A M (B + 45) (3940 * p) = nI hh → w2 = nI q → q < 16 → hq ≤ 6 → mm_A M (B + 45) (3940 * q) = nI hq → sameS B M m → f_X12_hang_38 K L fu (B + 44) w1 w2 w3 m = if hh = 0 ∨ hq = 0 then f_X12_no K L (B + 44) (-(nI 2)) m else if (hh = 4 ∨ hh = 5) ∧ ¬ hq = 6 then f_X12_hang_97 K L fu (B + 44) w1 w2 w3 m else f_X12_no K L (B + 44) (-(nI 5)) m := by
    intro p hh q hq m e hp h6 hS e' hp' h6' hS2 hm
    subst e e'
    have hS' : mm_A m (B + 45) (3940 * p) = nI hh := by rw [hm.2]; exact hS
    have hS2' : mm_A m (B + 45) (3940 * q) = nI hq := by rw [hm.2]; exact hS2
    have z0 : nI hh = 0 ↔ hh = 0 := nI_eq (b := 0) (by omega) (by omega)
    have z0' : nI hq = 0 ↔ hq = 0 := nI_eq (b := 0) (by omega) (by omega)
    have z6' : nI hq = 6 ↔ hq = 6 := nI_eq (b := 6) (by omega) (by omega)
    have yl : ¬ nI q < 0 := nI_pos (by omega)
    unfold f_X12_hang_38
    refine (sb ((m_of0 (hms m hm) hp).trans (congrArg some hS')) _).trans ?_
    by_cases x : hh = 0
    · rw [if_pos (z0.mpr x), if_pos (Or.inl x)]
      exact bind_eta _
    · rw [if_neg (fun q => x (z0.mp q)), if_neg yl]
      refine (sb ((m_of0 (hms m hm) hp').trans (congrArg some hS2')) _).trans ?_
      by_cases x' : hq = 0
      · rw [if_pos (z0'.mpr x'), if_pos (Or.inr x')]
        exact bind_eta _
      · rw [if_neg (fun q => x' (z0'.mp q)), if_neg (show ¬ (hh = 0 ∨ hq = 0) by omega)]
        unfold f_X12_hang_67
        refine (sb (hangs_eq (hms m hm) hp h6 hS') _).trans ?_
        rw [if10]
        by_cases t : hh = 4 ∨ hh = 5
        · rw [if_pos t, if_neg yl]
          refine (sb ((m_of0 (hms m hm) hp').trans (congrArg some hS2')) _).trans ?_
          by_cases t' : hq = 6
          · rw [if_pos (z6'.mpr t'), if_neg (fun q => q.2 t')]
            exact bind_eta _
          · rw [if_neg (fun q => t' (z6'.mp q)), if_pos ⟨t, t'⟩]
        · rw [if_neg t, if_neg (fun q => t q.1)]
          exact bind_eta _
  have go : ∀ p hh v4, w1 = nI p → p < 16 → (hh = 4 ∨ hh = 5) → mm_A M (B + 45) (3940 * p) = nI hh → (¬ w2 = -1 → f_X8_faultAt K L M (B + 1) w2 31 = some 0) → ∃ b, Got B K L M p b hh ∧ f_X11_hang_33 K L fu B w1 w2 w3 v4 M = f_X11_hang_97 K L fu B (some b) (mm_I M 293 b) (mm_I M 294 b) (if v4 = 0 then w3 else 0) w2 (some b) M := by
    intro p hh v4 e hp h45 hS h2
    subst e
    obtain ⟨b, gb⟩ := got_of iv hp (show 1 ≤ hh by omega) (by omega) hS
    have e1 : f_X8_faultAt K L M (B + 1) (nI p) 24 = some 0 := by
      rw [fault_in iv hp k24 (by omega) hS]
      rcases h45 with rfl | rfl <;> rfl
    refine ⟨b, gb, ?_⟩
    unfold f_X11_hang_33
    refine (sb (hft 0 0 0 e1 (fun _ => rfl) h2 (ff0 0)) _).trans ?_
    rw [hr]
    refine (rcb g.2.1.2.1.1 _).trans ?_
    refine (sb (show f_X8_find K L M (B + 1) (nI p) 24 = some (some b) by
      unfold f_X8_find
      refine (sb e1 _).trans ?_
      rw [if_pos rfl]
      refine (sb (switchAt_in g.2.1 hp) _).trans ?_
      rw [gb.2.2.2.2.1]) _).trans ?_
    rw [if_pos rfl, if_neg (by simp)]
    refine (rcb gb.2.2.2.2.2.2.2.2.1.1.1 _).trans ?_
    rw [bn_eq, bn_eq]
    by_cases y : v4 = 0
    · rw [if_pos y, if_pos y]
    · rw [if_neg y, if_neg y]
  by_cases hv : 0 ≤ w1.toInt ∧ w1.toInt ≤ 15
  · obtain ⟨p, hp, e1⟩ := n_of (v := w1) (m := 15) hv.1 hv.2 (by decide)
    have hp : p < 16 := by omega
    obtain ⟨hh, i1, i2, -⟩ := c1 p hp
    have fp : f_X8_faultAt K L M (B + 1) w1 24 = some (wy hh 2) := by rw [e1]; exact fault_in iv hp k24 i1 i2
    have w45 : wy hh 2 = if hh = 0 then -2 else if hh = 4 ∨ hh = 5 then 0 else -5 := by
      rcases six i1 with rfl | rfl | rfl | rfl | rfl | rfl | rfl <;> rfl
    by_cases y : w2 = -1
    · by_cases x : hh = 0
      · refine Or.inl ⟨2, by decide, by decide, ?_, fun m hm => ?_⟩
        · rw [cls, if_pos y, cno _ 0 _ _ fp (fun _ => rfl) (fun q => absurd y q) (ff0 _) (by rw [w45, if_pos x]; decide), w45, if_pos x]
          rfl
        · rw [ref, if_pos hv, if_pos y, r38 p hh m e1 hp i1 i2 hm y, if_pos x]
      · by_cases t : hh = 4 ∨ hh = 5
        · obtain ⟨b, gb, eb⟩ := go p hh 1 e1 hp t i2 (fun q => absurd y q)
          refine Or.inr ⟨p, b, hh, e1, ?_, gb, Or.inl y, ?_, fun m hm => ?_⟩
          · unfold okk; omega
          · rw [cls, if_pos y, eb, if_neg (by decide), if_pos y]
          · rw [ref, if_pos hv, if_pos y, r38 p hh m e1 hp i1 i2 hm y, if_neg x, if_pos t]
        · refine Or.inl ⟨5, by decide, by decide, ?_, fun m hm => ?_⟩
          · rw [cls, if_pos y, cno _ 0 _ _ fp (fun _ => rfl) (fun q => absurd y q) (ff0 _) (by rw [w45, if_neg x, if_neg t]; decide), w45, if_neg x, if_neg t]
            rfl
          · rw [ref, if_pos hv, if_pos y, r38 p hh m e1 hp i1 i2 hm y, if_neg x, if_neg t]
    · by_cases hw : 0 ≤ w3.toInt ∧ w3.toInt ≤ 7
      · by_cases hu : 0 ≤ w2.toInt ∧ w2.toInt ≤ 15
        · obtain ⟨q, hq, e2⟩ := n_of (v := w2) (m := 15) hu.1 hu.2 (by decide)
          have hq : q < 16 := by omega
          obtain ⟨hh', j1, j2, -⟩ := c1 q hq
          have fq : f_X8_faultAt K L M (B + 1) w2 31 = some (wy hh' 0) := by rw [e2]; exact fault_in iv hq k31 j1 j2
          have w05 : wy hh' 0 = if hh' = 0 then -2 else if hh' = 6 then -5 else 0 := by
            rcases six j1 with rfl | rfl | rfl | rfl | rfl | rfl | rfl <;> rfl
          have rr := fun m hm => r38' p hh q hh' m e1 hp i1 i2 e2 hq j1 j2 hm
          have ff : f_X11_firstFault (wy hh 2) (wy hh' 0) = some (if hh = 0 ∨ hh' = 0 then -2 else if (hh = 4 ∨ hh = 5) ∧ ¬ hh' = 6 then 0 else -5) := by
            unfold f_X11_firstFault
            rw [if_neg wy_3, if_neg wy_3]
            by_cases x : hh = 0
            · rw [if_pos (wy_2.mpr x), if_pos (Or.inl x)]
            · rw [if_neg (fun q => x (wy_2.mp q))]
              by_cases x' : hh' = 0
              · rw [if_pos (wy_2.mpr x'), if_pos (Or.inr x')]
              · rw [if_neg (fun q => x' (wy_2.mp q)), if_neg (show ¬ (hh = 0 ∨ hh' = 0) by omega), w45, if_neg x, w05, if_neg x']
                by_cases t : hh = 4 ∨ hh = 5
                · rw [if_pos t, if_pos rfl]
                  by_cases t' : hh' = 6
                  · rw [if_pos t', if_neg (fun q => q.2 t')]
                  · rw [if_neg t', if_pos ⟨t, t'⟩]
                · rw [if_neg t, if_neg (by decide), if_neg (fun q => t q.1)]
          by_cases x : hh = 0 ∨ hh' = 0
          · rw [if_pos x] at ff
            refine Or.inl ⟨2, by decide, by decide, ?_, fun m hm => ?_⟩
            · rw [cls, if_neg y, if_pos hw, cno _ _ _ _ fp (fun q => absurd q y) (fun _ => fq) ff (by decide)]
              rfl
            · rw [ref, if_pos hv, if_neg y, if_pos hu, if_pos hw, rr m hm, if_pos x]
          · by_cases t : (hh = 4 ∨ hh = 5) ∧ ¬ hh' = 6
            · obtain ⟨b, gb, eb⟩ := go p hh 0 e1 hp t.1 i2 (fun _ => by rw [fq, w05, if_neg (fun q => x (Or.inr q)), if_neg t.2])
              refine Or.inr ⟨p, b, hh, e1, ?_, gb, Or.inr ⟨q, hq, e2⟩, ?_, fun m hm => ?_⟩
              · have := t.1
                unfold okk; omega
              · rw [cls, if_neg y, if_pos hw, eb, if_pos rfl, if_neg y]
              · rw [ref, if_pos hv, if_neg y, if_pos hu, if_pos hw, rr m hm, if_neg x, if_pos t]
            · rw [if_neg x, if_neg t] at ff
              refine Or.inl ⟨5, by decide, by decide, ?_, fun m hm => ?_⟩
              · rw [cls, if_neg y, if_pos hw, cno _ _ _ _ fp (fun q => absurd q y) (fun _ => fq) ff (by decide)]
                rfl
              · rw [ref, if_pos hv, if_neg y, if_pos hu, if_pos hw, rr m hm, if_neg x, if_neg t]
        · refine Or.inl ⟨3, by decide, by decide, ?_, fun m hm => ?_⟩
          · rw [cls, if_neg y, if_pos hw, cno _ (-3) (-3) _ fp (fun q => absurd q y) (fun _ => fault_out hu) (by unfold f_X11_firstFault; rw [if_neg wy_3, if_pos rfl]) (by decide)]
            rfl
          · rw [ref, if_pos hv, if_neg y, if_neg hu]
      · refine Or.inl ⟨3, by decide, by decide, by rw [cls, if_neg y, if_neg hw], fun m hm => ?_⟩
        rw [ref, if_pos hv, if_neg y, if_neg hw]
        by_cases hu : 0 ≤ w2.toInt ∧ w2.toInt ≤ 15
        · rw [if_pos hu]
        · rw [if_neg hu]
  · have f1 := fault_out (K := K) (L := L) (M := M) (a := B + 1) (c := 24) hv
    refine Or.inl ⟨3, by decide, by decide, ?_, fun m hm => by rw [ref, if_neg hv]⟩
    have f3 : ∀ f, f_X11_firstFault (-3) f = some (-3) := fun f => by unfold f_X11_firstFault; rw [if_pos rfl]
    rw [cls]
    by_cases y : w2 = -1
    · rw [if_pos y, cno _ 0 _ _ f1 (fun _ => rfl) (fun q => absurd y q) (f3 0) (by decide)]
      rfl
    · rw [if_neg y]
      by_cases hw : 0 ≤ w3.toInt ∧ w3.toInt ≤ 7
      · have f2 : ∃ f, f_X8_faultAt K L M (B + 1) w2 31 = some f := by
          by_cases hu : 0 ≤ w2.toInt ∧ w2.toInt ≤ 15
          · obtain ⟨q, hq, e2⟩ := n_of (v := w2) (m := 15) hu.1 hu.2 (by decide)
            obtain ⟨hh', j1, j2, -⟩ := c1 q (by omega)
            exact ⟨_, by rw [e2]; exact fault_in iv (by omega) k31 j1 j2⟩
          · exact ⟨_, fault_out hu⟩
        obtain ⟨f, hf⟩ := f2
        rw [if_pos hw, cno _ f _ _ f1 (fun q => absurd q y) (fun _ => hf) (f3 f) (by decide)]
        rfl
      · rw [if_neg hw]
end HG
