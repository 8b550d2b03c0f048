/-- the rows of all 32 place cells -/
def T32 (B : Nat) (M : Mm) (q : Nat) : (Nat → Int32) × Nat × Int64 := if q < 16 then (mm_A M (B + 45), 3940 * q, mm_B M (B + 47) q) else (mm_A M (B + 46), 3940 * (q - 16), mm_B M (B + 48) (q - 16))
theorem T32_pr {B n : Nat} {K L : Nat → Nat} {M : Mm} (iv : Iv B n K L M) : ∀ q, q < 32 → PR M (qA B q) (T32 B M q).1 (T32 B M q).2.1 (T32 B M q).2.2 := by
  obtain ⟨g, c1, c2, -⟩ := id iv
  intro q hq
  unfold T32
  by_cases x : q < 16
  · rw [if_pos x, qA_lo x]; exact c1 q x
  · rw [if_neg x]
    obtain ⟨p, rfl⟩ : ∃ p, q = 16 + p := ⟨q - 16, by omega⟩
    rw [qA_hi (by omega), show 16 + p - 16 = p by omega]
    exact c2 p (by omega)
/-- image -/
theorem st_36 {fu : Nat} (hfu : 70000 ≤ fu) : so_36 Iv fu := by
  intro B n K L M iv
  obtain ⟨g, c1, c2, c3, c4, c5, c6, c7, c8⟩ := id iv
  obtain ⟨y, hy, z⟩ := take_all (fu := fu) (D := B + 19) (d := 16) (Sr := B + 1) (s := 0) shf2 shf1 (Or.inr ⟨rfl, rfl⟩) (by omega) g (T32_pr iv)
  obtain ⟨n', K', L', M'⟩ := y
  obtain ⟨g', hn, lo, pr⟩ := z
  dsimp only at g' hn lo pr
  have hlo : ∀ a, a < B + 55 → (a < B + 21 ∨ B + 37 ≤ a) → eqAt M M' a := fun a h1 h2 => lo a h1 (fun p hp => by rw [qA_hi hp]; omega)
  have prS : ∀ p, p < 16 → PR M' (B + 3 + p) (mm_A M (B + 45)) (3940 * p) (mm_B M (B + 47) p) := by
    intro p hp
    have := pr p (by omega)
    unfold tq T32 at this
    rw [if_neg (by omega), if_pos hp, qA_lo hp] at this
    exact this
  have prI : ∀ p, p < 16 → PR M' (qA B (16 + p)) (mm_A M (B + 45)) (3940 * p) (mm_B M (B + 47) p) := by
    intro p hp
    have := pr (16 + p) (by omega)
    unfold tq T32 at this
    rw [if_pos (by omega), if_pos (by omega), show 16 + p - 16 + 0 = p by omega] at this
    exact this
  have eS : mm_A M' (B + 45) = mm_A M (B + 45) := (hlo (B + 45) (by omega) (by omega)).2.2.2.1
  have eS2 : mm_A M' (B + 46) = mm_A M (B + 46) := (hlo (B + 46) (by omega) (by omega)).2.2.2.1
  have eN : mm_B M' (B + 47) = mm_B M (B + 47) := (hlo (B + 47) (by omega) (by omega)).2.2.2.2.1
  have eN2 : mm_B M' (B + 48) = mm_B M (B + 48) := (hlo (B + 48) (by omega) (by omega)).2.2.2.2.1
  obtain ⟨M9, hM9⟩ : ∃ N, N = ms_I M' 354 B 1 := ⟨_, rfl⟩
  have r9 : mm_R M9 = mm_R M' := by rw [hM9]; rfl
  have k9 : mm_C M9 = mm_C M' := by rw [hM9]; rfl
  have a9 : mm_A M9 = mm_A M' := by rw [hM9]; rfl
  have b9 : mm_B M9 = mm_B M' := by rw [hM9]; rfl
  have e9 : ∀ a, a ≠ B → eqAt M' M9 a := fun a ha => by rw [hM9]; exact eqAt.I ha
  have prI9 : ∀ p, p < 16 → PR M9 (qA B (16 + p)) (mm_A M (B + 45)) (3940 * p) (mm_B M (B + 47) p) := fun p hp => (prI p hp).fr (e9 _ (by rw [qA_hi hp]; omega)) (fun b hb c h1 h2 => e9 c (by have := (g'.blk (q := 16 + p) (by omega) hb).1; omega)) (fun _ _ => rfl) rfl
  have hms : MS B K' L' (mm_R M9) := by rw [r9]; exact g'.1
  have hcnt : f_X8_switchCount K' L' fu M9 (B + 19) = some (nI (swc (mm_A M (B + 45)) 16)) := scount_c (fu := fu) (by rw [r9, k9]; exact shf2 g'.2.1) prI9 16 fu 0 (by omega) (by omega)
  have hE1 : f_X11_image B fu n B K L M = some (nI (swc (mm_A M (B + 45)) 16), n', K', L', M9) := by
    unfold f_X11_image
    rw [show mm_R M (32 * 11 + 1) B = some (B + 19) from g.2.1.1.2.2.1, show mm_R M (32 * 11 + 0) B = some (B + 1) from g.2.1.1.2.1]
    refine (rcb g.2.1.2.2.1.1 _).trans ?_
    refine (sb hy _).trans ?_
    refine (ub (show mon n n' = some () by unfold mon; rw [if_pos hn]) _).trans ?_
    refine (rcb g'.2.1.1.1 _).trans ?_
    rw [bn_eq]
    show Option.bind (rc K' (mm_R (ms_I M' (32 * 11 + 2) B 1) (32 * 11 + 1) B) 8) _ = _
    rw [show mm_R (ms_I M' (32 * 11 + 2) B 1) (32 * 11 + 1) B = some (B + 19) from g'.2.1.1.2.2.1]
    refine (rcb g'.2.1.2.2.1.1 _).trans ?_
    rw [show ms_I M' (32 * 11 + 2) B 1 = M9 from hM9.symm]
    exact (sb hcnt _).trans rfl
  obtain ⟨N1, hN1⟩ : ∃ N, N = ms_A M9 (B + 46) (fun j => if 0 ≤ j ∧ j < 63040 then mm_A M9 (B + 45) j else mm_A M9 (B + 46) j) := ⟨_, rfl⟩
  obtain ⟨N2, hN2⟩ : ∃ N, N = ms_I (ms_B N1 (B + 48) (fun j => if 0 ≤ j ∧ j < 16 then mm_B N1 (B + 47) j else mm_B N1 (B + 48) j)) 388 (B + 44) 1 := ⟨_, rfl⟩
  have hms1 : MS B K' L' (mm_R N1) := by rw [hN1]; exact hms
  have hms2 : MS B K' L' (mm_R N2) := by rw [hN2]; exact hms1
  have s45 : mm_A N2 (B + 45) = mm_A M (B + 45) := by rw [hN2, A_I, A_B, hN1, A_A, if_neg (by omega), a9, eS]
  have s46 : mm_A N2 (B + 46) = fun j => if 0 ≤ j ∧ j < 63040 then mm_A M (B + 45) j else mm_A M (B + 46) j := by rw [hN2, A_I, A_B, hN1, A_A, if_pos rfl, a9, eS, eS2]
  have b1 : mm_B N1 = mm_B M9 := by rw [hN1]; rfl
  have n47 : mm_B N2 (B + 47) = mm_B M (B + 47) := by rw [hN2, B_I, B_B, if_neg (by omega), b1, b9, eN]
  have n48 : mm_B N2 (B + 48) = fun j => if 0 ≤ j ∧ j < 16 then mm_B M (B + 47) j else mm_B M (B + 48) j := by rw [hN2, B_I, B_B, if_pos rfl, b1, b9, eN, eN2]
  have e2 : ∀ a, a ≠ B + 44 → a ≠ B + 46 → a ≠ B + 48 → eqAt M9 N2 a := fun a h1 h2 h3 => by rw [hN2, hN1]; exact ((eqAt.A h2).tr (eqAt.B h3)).tr (eqAt.I h1)
  have e2' : ∀ a, a ≠ B → a ≠ B + 44 → a ≠ B + 46 → a ≠ B + 48 → eqAt M' N2 a := fun a h0 h1 h2 h3 => (e9 a h0).tr (e2 a h1 h2 h3)
  have i44 : ∀ x, x ≠ 388 → mm_I N2 x (B + 44) = mm_I M x (B + 44) := fun x hx => by
    rw [hN2, I_I, if_neg (fun q => hx q.1), I_B, hN1, I_A, (e9 _ (by omega)).1, (hlo _ (by omega) (by omega)).1]
  refine ⟨(nI (swc (mm_A M (B + 45)) 16), n', K', L', M9), (nI (swc (mm_A M (B + 45)) 16), N2), hE1, ?_, rfl, hn, ?_⟩
  · show f_X12_image K' L' fu (B + 44) M9 = _
    unfold f_X12_image
    rw [show f_X12_image_2 K' L' fu (B + 44) fu 0 M9 = _ from img_loop 63040 fu 0 M9 hms (by omega) (by omega), ← hN1, show f_X12_image_28 K' L' fu (B + 44) fu 0 N1 = _ from img_loop2 16 fu 0 N1 hms1 (by omega) (by omega), ← hN2]
    refine (sb (show f_X12_switches K' L' fu N2 (B + 44) = some (nI (swc (mm_A M (B + 45)) 16)) from scount_m (fu := fu) hms2 s45 (fun p hp => ?_) 16 fu 0 (by omega) (by omega)) _).trans rfl
    obtain ⟨hh, i1, i2, -⟩ := c1 p hp
    exact ⟨hh, i1, i2⟩
  · have rN : mm_R N2 = mm_R M' := by rw [← r9, hN2, hN1]; rfl
    have cN : mm_C N2 = mm_C M' := by rw [← k9, hN2, hN1]; rfl
    refine ⟨by rw [rN, cN]; exact g', fun p hp => ?_, fun p hp => ?_, by rw [s45]; exact c3, ?_, ?_, ?_, ?_, ?_⟩
    · rw [s45, n47]
      exact (prS p hp).fr (e2' _ (by omega) (by omega) (by omega) (by omega)) (fun b hb c h1 h2 => by
        have := (g'.blk (q := p) (by omega) (by rw [qA_lo hp]; exact hb)).1
        exact e2' c (by omega) (by omega) (by omega) (by omega)) (fun _ _ => rfl) rfl
    · rw [s46, n48]
      have := prI p hp
      rw [qA_hi hp] at this
      refine this.fr (e2' _ (by omega) (by omega) (by omega) (by omega)) (fun b hb c h1 h2 => ?_) (fun k hk => ?_) ?_
      · have := (g'.blk (q := 16 + p) (by omega) (by rw [qA_hi hp]; exact hb)).1
        exact e2' c (by omega) (by omega) (by omega) (by omega)
      · rw [if_pos (by omega)]
      · dsimp only
        rw [if_pos (by omega)]
    · rw [s46]
      refine c3.fr (fun p hp => ?_)
      rw [if_pos (by omega), if_pos (by omega), if_pos (by omega)]
      exact ⟨rfl, rfl, rfl⟩
    · intro i hi
      rw [(e2' (B + 43) (by omega) (by omega) (by omega) (by omega)).2.2.2.1, (e2' (B + 49) (by omega) (by omega) (by omega) (by omega)).2.2.2.1, (hlo (B + 43) (by omega) (by omega)).2.2.2.1, (hlo (B + 49) (by omega) (by omega)).2.2.2.1]
      exact c5 i hi
    · simp only [(e2' (B + 37) (by omega) (by omega) (by omega) (by omega)).1, (hlo (B + 37) (by omega) (by omega)).1, i44 392 (by decide), i44 393 (by decide), i44 394 (by decide), i44 395 (by decide)]
      exact c6
    · have h1 : mm_I N2 354 B = 1 := by rw [(e2 B (by omega) (by omega) (by omega)).1, hM9, I_I, if_pos ⟨rfl, rfl⟩]
      have h2 : mm_I N2 388 (B + 44) = 1 := by rw [hN2, I_I, if_pos ⟨rfl, rfl⟩]
      rw [h1, h2]
      exact ⟨rfl, Or.inr rfl⟩
    · obtain ⟨z, z1, z2, z3, z4⟩ := c8
      refine ⟨z, z1, by rw [(e2' (B + 39) (by omega) (by omega) (by omega) (by omega)).1, (hlo (B + 39) (by omega) (by omega)).1]; exact z2, by rw [i44 391 (by decide)]; exact z3, fun i hi => ?_⟩
      rw [(e2' (B + 42) (by omega) (by omega) (by omega) (by omega)).2.2.2.1, (e2' (B + 50) (by omega) (by omega) (by omega) (by omega)).2.2.2.1, (hlo (B + 42) (by omega) (by omega)).2.2.2.1, (hlo (B + 50) (by omega) (by omega)).2.2.2.1]
      exact z4 i hi
/-- restore -/
theorem st_37 {fu : Nat} (hfu : 70000 ≤ fu) : so_37 Iv fu := by
  intro B n K L M iv
  obtain ⟨g, c1, c2, c3, c4, c5, c6, c7, c8⟩ := id iv
  by_cases hk : mm_I M 354 B = 0
  · obtain ⟨a1, a2, a3⟩ := both_no iv (k := 2) (by decide) (by decide)
    refine ⟨(-(nI 2), n, K, L, bump M (B + 43) 2), (-(nI 2), bump (bump M (B + 43) 2) (B + 49) 2), ?_, ?_, rfl, Nat.le_refl _, a3⟩
    · unfold f_X11_restore
      rw [if_pos (show mm_I M (32 * 11 + 2) B = 0 from hk)]
      exact (sb a1 _).trans rfl
    · show f_X12_restore K L fu (B + 44) (bump M (B + 43) 2) = _
      unfold f_X12_restore
      rw [if_pos (show mm_I (bump M (B + 43) 2) (32 * 12 + 4) (B + 44) = 0 from c7.1.symm.trans hk)]
      exact (bind_eta _).trans a2
  have hk2 : ¬ mm_I M 388 (B + 44) = 0 := fun h => hk (c7.1.trans h)
  obtain ⟨y, hy, z⟩ := take_all (fu := fu) (D := B + 1) (d := 0) (Sr := B + 19) (s := 16) shf1 shf2 (Or.inl ⟨rfl, rfl⟩) (by omega) g (T32_pr iv)
  obtain ⟨n', K', L', M'⟩ := y
  obtain ⟨g', hn, lo, pr⟩ := z
  dsimp only at g' hn lo pr
  have hlo : ∀ a, a < B + 55 → (a < B + 3 ∨ B + 19 ≤ a) → eqAt M M' a := fun a h1 h2 => lo a h1 (fun p hp => by rw [Nat.zero_add, qA_lo hp]; omega)
  have prS : ∀ p, p < 16 → PR M' (B + 3 + p) (mm_A M (B + 46)) (3940 * p) (mm_B M (B + 48) p) := by
    intro p hp
    have := pr p (by omega)
    unfold tq T32 at this
    rw [if_pos (by omega), if_neg (by omega), show p - 0 + 16 - 16 = p by omega, qA_lo hp] at this
    exact this
  have prI : ∀ p, p < 16 → PR M' (B + 21 + p) (mm_A M (B + 46)) (3940 * p) (mm_B M (B + 48) p) := by
    intro p hp
    have := pr (16 + p) (by omega)
    unfold tq T32 at this
    rw [if_neg (by omega), if_neg (by omega), show 16 + p - 16 = p by omega, qA_hi hp] at this
    exact this
  have eS : mm_A M' (B + 45) = mm_A M (B + 45) := (hlo (B + 45) (by omega) (by omega)).2.2.2.1
  have eS2 : mm_A M' (B + 46) = mm_A M (B + 46) := (hlo (B + 46) (by omega) (by omega)).2.2.2.1
  have eN : mm_B M' (B + 47) = mm_B M (B + 47) := (hlo (B + 47) (by omega) (by omega)).2.2.2.2.1
  have eN2 : mm_B M' (B + 48) = mm_B M (B + 48) := (hlo (B + 48) (by omega) (by omega)).2.2.2.2.1
  have hms : MS B K' L' (mm_R M') := g'.1
  have hcnt : f_X8_switchCount K' L' fu M' (B + 1) = some (nI (swc (mm_A M (B + 46)) 16)) := scount_c (fu := fu) (shf1 g'.2.1) (fun p hp => by rw [Nat.zero_add, qA_lo hp]; exact prS p hp) 16 fu 0 (by omega) (by omega)
  have hE1 : f_X11_restore B fu n B K L M = some (nI (swc (mm_A M (B + 46)) 16), n', K', L', M') := by
    unfold f_X11_restore
    rw [if_neg (show ¬ mm_I M (32 * 11 + 2) B = 0 from hk), show mm_R M (32 * 11 + 1) B = some (B + 19) from g.2.1.1.2.2.1, show mm_R M (32 * 11 + 0) B = some (B + 1) from g.2.1.1.2.1]
    refine (rcb g.2.1.2.1.1 _).trans ?_
    refine (sb hy _).trans ?_
    refine (ub (show mon n n' = some () by unfold mon; rw [if_pos hn]) _).trans ?_
    refine (rcb g'.2.1.1.1 _).trans ?_
    show Option.bind (rc K' (mm_R M' (32 * 11 + 0) B) 8) _ = _
    rw [show mm_R M' (32 * 11 + 0) B = some (B + 1) from g'.2.1.1.2.1]
    refine (rcb g'.2.1.2.1.1 _).trans ?_
    exact (sb hcnt _).trans rfl
  obtain ⟨N1, hN1⟩ : ∃ N, N = ms_A M' (B + 45) (fun j => if 0 ≤ j ∧ j < 63040 then mm_A M' (B + 46) j else mm_A M' (B + 45) j) := ⟨_, rfl⟩
  obtain ⟨N2, hN2⟩ : ∃ N, N = ms_B N1 (B + 47) (fun j => if 0 ≤ j ∧ j < 16 then mm_B N1 (B + 48) j else mm_B N1 (B + 47) j) := ⟨_, rfl⟩
  have hms1 : MS B K' L' (mm_R N1) := by rw [hN1]; exact hms
  have hms2 : MS B K' L' (mm_R N2) := by rw [hN2]; exact hms1
  have s45 : mm_A N2 (B + 45) = fun j => if 0 ≤ j ∧ j < 63040 then mm_A M (B + 46) j else mm_A M (B + 45) j := by rw [hN2, A_B, hN1, A_A, if_pos rfl, eS, eS2]
  have s46 : mm_A N2 (B + 46) = mm_A M (B + 46) := by rw [hN2, A_B, hN1, A_A, if_neg (by omega), eS2]
  have b1 : mm_B N1 = mm_B M' := by rw [hN1]; rfl
  have n48 : mm_B N2 (B + 48) = mm_B M (B + 48) := by rw [hN2, B_B, if_neg (by omega), b1, eN2]
  have n47 : mm_B N2 (B + 47) = fun j => if 0 ≤ j ∧ j < 16 then mm_B M (B + 48) j else mm_B M (B + 47) j := by rw [hN2, B_B, if_pos rfl, b1, eN, eN2]
  have e2 : ∀ a, a ≠ B + 45 → a ≠ B + 47 → eqAt M' N2 a := fun a h2 h3 => by rw [hN2, hN1]; exact (eqAt.A h2).tr (eqAt.B h3)
  have row : ∀ j, j < 63040 → mm_A N2 (B + 45) j = mm_A M (B + 46) j := fun j hj => by
    rw [s45]
    dsimp only
    rw [if_pos ⟨by omega, hj⟩]
  refine ⟨(nI (swc (mm_A M (B + 46)) 16), n', K', L', M'), (nI (swc (mm_A M (B + 46)) 16), N2), hE1, ?_, rfl, hn, ?_⟩
  · show f_X12_restore K' L' fu (B + 44) M' = _
    unfold f_X12_restore
    rw [if_neg (show ¬ mm_I M' (32 * 12 + 4) (B + 44) = 0 by rw [(hlo (B + 44) (by omega) (by omega)).1]; exact hk2), show f_X12_restore_16 K' L' fu (B + 44) fu 0 M' = _ from res_loop 63040 fu 0 M' hms (by omega) (by omega), ← hN1, show f_X12_restore_42 K' L' fu (B + 44) fu 0 N1 = _ from res_loop2 16 fu 0 N1 hms1 (by omega) (by omega), ← hN2]
    have hc := scount_m (fu := fu) (B := B) (K := K') (L := L') (M := N2) hms2 rfl (fun p hp => by
      obtain ⟨hh, i1, i2, -⟩ := c2 p hp
      exact ⟨hh, i1, by rw [row _ (by omega)]; exact i2⟩) 16 fu 0 (by omega) (by omega)
    rw [swc_cg 16 (fun q hq => row _ (by omega))] at hc
    exact (sb (show f_X12_switches K' L' fu N2 (B + 44) = _ from hc) _).trans rfl
  · have rN : mm_R N2 = mm_R M' := by rw [hN2, hN1]; rfl
    have cN : mm_C N2 = mm_C M' := by rw [hN2, hN1]; rfl
    refine ⟨by rw [rN, cN]; exact g', fun p hp => ?_, fun p hp => ?_, ?_, by rw [s46]; exact c4, ?_, ?_, ?_, ?_⟩
    · refine (prS p hp).fr (e2 _ (by omega) (by omega)) (fun b hb c h1 h2 => ?_) (fun k hk => row _ (by omega)) ?_
      · have := (g'.blk (q := p) (by omega) (by rw [qA_lo hp]; exact hb)).1
        exact e2 c (by omega) (by omega)
      · rw [n47]
        dsimp only
        rw [if_pos (by omega)]
    · rw [s46, n48]
      exact (prI p hp).fr (e2 _ (by omega) (by omega)) (fun b hb c h1 h2 => by
        have := (g'.blk (q := 16 + p) (by omega) (by rw [qA_hi hp]; exact hb)).1
        exact e2 c (by omega) (by omega)) (fun _ _ => rfl) rfl
    · exact c4.fr (fun p hp => ⟨row _ (by omega), row _ (by omega), row _ (by omega)⟩)
    · intro i hi
      rw [(e2 (B + 43) (by omega) (by omega)).2.2.2.1, (e2 (B + 49) (by omega) (by omega)).2.2.2.1, (hlo (B + 43) (by omega) (by omega)).2.2.2.1, (hlo (B + 49) (by omega) (by omega)).2.2.2.1]
      exact c5 i hi
    · simp only [(e2 (B + 37) (by omega) (by omega)).1, (hlo (B + 37) (by omega) (by omega)).1, (e2 (B + 44) (by omega) (by omega)).1, (hlo (B + 44) (by omega) (by omega)).1]
      exact c6
    · simp only [(e2 B (by omega) (by omega)).1, (hlo B (by omega) (by omega)).1, (e2 (B + 44) (by omega) (by omega)).1, (hlo (B + 44) (by omega) (by omega)).1]
      exact c7
    · obtain ⟨z, z1, z2, z3, z4⟩ := c8
      refine ⟨z, z1, by rw [(e2 (B + 39) (by omega) (by omega)).1, (hlo (B + 39) (by omega) (by omega)).1]; exact z2, by rw [(e2 (B + 44) (by omega) (by omega)).1, (hlo (B + 44) (by omega) (by omega)).1]; exact z3, fun i hi => ?_⟩
      rw [(e2 (B + 42) (by omega) (by omega)).2.2.2.1, (e2 (B + 50) (by omega) (by omega)).2.2.2.1, (hlo (B + 42) (by omega) (by omega)).2.2.2.1, (hlo (B + 50) (by omega) (by omega)).2.2.2.1]
      exact z4 i hi
