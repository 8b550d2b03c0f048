/-! make -/
section MK
variable {B n q0 : Nat} {K L : Nat → Nat} {M : Mm} {fu : Nat}
theorem qK {R C : Nat → Nat → Option Nat} (h : CS B K L R C) (hq : q0 < 32) : K (qA B q0) = 4 := by
  by_cases x : q0 < 16
  · rw [qA_lo x]; exact (h.2.1.2.2.2.2 q0 x).2
  · obtain ⟨p, rfl⟩ : ∃ p, q0 = 16 + p := ⟨q0 - 16, by omega⟩
    rw [qA_hi (by omega)]; exact (h.2.2.1.2.2.2.2 p (by omega)).2
theorem spare_spec (g : Sg B n K L (mm_R M) (mm_C M)) (hq : q0 < 32) : ∃ b n' K' L' M', f_X4_spareSwitch B fu n (qA B q0) K L M = some (some b, n', K', L', M') ∧ n ≤ n' ∧ Sg B n' K' L' (mm_R M') (mm_C M') ∧ mm_R M' 131 (qA B q0) = some b ∧ (∀ a, a < B + n → K' a = K a ∧ L' a = L a ∧ (a ≠ qA B q0 → eqAt M M' a)) ∧ (∀ x, mm_I M' x (qA B q0) = mm_I M x (qA B q0)) ∧ (∀ x, mm_J M' x (qA B q0) = mm_J M x (qA B q0)) ∧ (∀ x, x ≠ 131 → mm_R M' x (qA B q0) = mm_R M x (qA B q0)) ∧ (∀ q b', q < 32 → q ≠ q0 → mm_R M 131 (qA B q) = some b' → b' + 30 ≤ B + n ∧ (b' + 30 ≤ b ∨ b + 30 ≤ b')) := by
  have hqa := qA_lt (B := B) hq
  have hn : 55 ≤ n := by have := g.2.2.1; omega
  by_cases h : mm_R M 131 (qA B q0) = none
  · obtain ⟨y, e, lo, bs⟩ := X9_spec (B := B) (n := n) (K := K) (L := L) (M := M)
    have hk4 : y.1 (qA B q0) = 4 := by rw [(lo _ (by omega)).1]; exact qK g.2.1 hq
    have hR : ∀ x a, a < B + n → (x ≠ 131 ∨ a ≠ qA B q0) → mm_R (ms_R y.2.2 131 (qA B q0) (some (B + n))) x a = mm_R M x a := by
      intro x a ha hx
      rw [R_R, if_neg (by omega)]
      exact (lo a ha).2.2.2.2.1 x
    have hb : BS y.1 y.2.1 (mm_R (ms_R y.2.2 131 (qA B q0) (some (B + n)))) (mm_C (ms_R y.2.2 131 (qA B q0) (some (B + n)))) (B + n) := bs.cg (fun _ _ _ => ⟨rfl, rfl⟩) (fun x a _ _ _ h => by rw [R_R, if_neg (fun q => h q.1)]) (fun _ _ _ => rfl)
    refine ⟨B + n, n + 30, y.1, y.2.1, ms_R y.2.2 131 (qA B q0) (some (B + n)), ?_, by omega, g.new hq h (fun a ha => ⟨(lo a ha).1, (lo a ha).2.1⟩) (fun x a ha _ hx => hR x a ha hx) (by rw [R_R, if_pos ⟨rfl, rfl⟩]) (fun a ha => (lo a ha).2.2.2.2.2.2.2) hb, by rw [R_R, if_pos ⟨rfl, rfl⟩], fun a ha => ⟨(lo a ha).1, (lo a ha).2.1, fun hne => (lo a ha).2.2.tr (eqAt.R hne)⟩, fun x => (lo _ (by omega)).2.2.1 x, fun x => (lo _ (by omega)).2.2.2.1 x, fun x hx => hR x _ (by omega) (Or.inl hx), fun q b' hq' _ hb' => ?_⟩
    · unfold f_X4_spareSwitch
      rw [if_pos h]
      simp only [bn_eq]
      rw [rc_ok (show va_up K (B + n) 9 (B + n) = 9 by show (if B + n = B + n then 9 else _) = 9; rw [if_pos rfl])]
      simp only [Option.bind_some]
      rw [e]
      simp only [Option.bind_some, rc_ok hk4]
      rw [R_R, if_pos ⟨rfl, rfl⟩]
    · have := (g.blk hq' hb').2.1
      omega
  · obtain ⟨b, hb⟩ : ∃ b, mm_R M 131 (qA B q0) = some b := by
      cases hx : mm_R M 131 (qA B q0) with
      | none => exact absurd hx h
      | some b => exact ⟨b, rfl⟩
    refine ⟨b, n, K, L, M, ?_, Nat.le_refl _, g, hb, fun a ha => ⟨rfl, rfl, fun _ => eqAt.rf M a⟩, fun _ => rfl, fun _ => rfl, fun _ _ => rfl, fun q b' hq' hne hb' => ⟨(g.blk hq' hb').2.1, ?_⟩⟩
    · unfold f_X4_spareSwitch
      rw [if_neg h]
      rw [show mm_R M (32 * 4 + 3) (qA B q0) = _ from hb]
    · have := g.apart hq' hq hb' hb hne
      omega
end MK
theorem isFactor_eq (v : Int32) : f_X11_isFactor v = some (if (1 ≤ v.toInt ∧ v.toInt ≤ 9999) ∧ ¬ (v - v / (2 : Int32) * (2 : Int32)) = 0 ∧ ¬ (v - v / (5 : Int32) * (5 : Int32)) = 0 then 1 else 0) := by
  unfold f_X11_isFactor
  have e1 : v < 1 ↔ ¬ 1 ≤ v.toInt := by rw [t_lt, show (1 : Int32).toInt = 1 from rfl]; omega
  have e2 : (10000 : Int32) ≤ v ↔ ¬ v.toInt ≤ 9999 := by rw [t_le, show (10000 : Int32).toInt = 10000 from rfl]; omega
  by_cases h1 : 1 ≤ v.toInt
  · rw [if_neg (fun q => e1.mp q h1)]
    by_cases h2 : v.toInt ≤ 9999
    · rw [if_neg (fun q => e2.mp q h2)]
      by_cases h3 : (v - v / (2 : Int32) * (2 : Int32)) = 0
      · rw [if_pos h3, if_neg (fun q => q.2.1 h3)]
      · rw [if_neg h3]
        by_cases h4 : (v - v / (5 : Int32) * (5 : Int32)) = 0
        · rw [if_pos h4, if_neg (fun q => q.2.2 h4)]
        · rw [if_neg h4, if_pos ⟨⟨h1, h2⟩, h3, h4⟩]
    · rw [if_pos (e2.mpr h2), if_neg (fun q => h2 q.1.2)]
  · rw [if_pos (e1.mpr h1), if_neg (fun q => h1 q.1.1)]
/-- make -/
theorem st_4 {fu : Nat} (hfu : 5000 ≤ fu) : so_4 Iv fu := by
  intro B n K L M w1 w2 w3 w4 iv
  obtain ⟨g, c1, -⟩ := id iv
  have refuse : ∀ k, 2 ≤ k → k ≤ 13 → f_X11_make B fu n B w1 w2 w3 w4 K L M = Option.bind (f_X11_refuse K L B (-(nI k)) M) (fun x => some (x.1, n, K, L, x.2)) → f_X12_make K L fu (B + 44) w1 w2 w3 w4 (bump M (B + 43) k) = f_X12_no K L (B + 44) (-(nI k)) (bump M (B + 43) k) → ∃ (x1 : (Int32 × Nat × (Nat → Nat) × (Nat → Nat) × Mm)) (x2 : (Int32 × Mm)), f_X11_make B fu n B w1 w2 w3 w4 K L M = some x1 ∧ f_X12_make (x1.2.2.1) (x1.2.2.2.1) fu (B + 44) w1 w2 w3 w4 (x1.2.2.2.2) = some x2 ∧ (x1.1) = (x2.1) ∧ n ≤ x1.2.1 ∧ Iv B (x1.2.1) (x1.2.2.1) (x1.2.2.2.1) (x2.2) := by
    intro k k1 k2 e1 e2
    obtain ⟨a1, a2, a3⟩ := both_no iv k1 k2
    refine ⟨(-(nI k), n, K, L, bump M (B + 43) k), (-(nI k), bump (bump M (B + 43) k) (B + 49) k), ?_, e2.trans a2, rfl, Nat.le_refl _, a3⟩
    rw [e1, a1]
    rfl
  by_cases hv : 0 ≤ w1.toInt ∧ w1.toInt ≤ 15
  · obtain ⟨p, hp, rfl⟩ := n_of (v := w1) (m := 15) hv.1 hv.2 (by decide)
    have hp : p < 16 := by omega
    obtain ⟨hh, i1, i2, -⟩ := c1 p hp
    have E2 : ∀ K' L' m, f_X12_make K' L' fu (B + 44) (nI p) w2 w3 w4 m = if (0 ≤ w2.toInt ∧ w2.toInt ≤ 4) ∧ ((1 ≤ w3.toInt ∧ w3.toInt ≤ 9999) ∧ ¬ (w3 - w3 / (2 : Int32) * (2 : Int32)) = 0 ∧ ¬ (w3 - w3 / (5 : Int32) * (5 : Int32)) = 0) ∧ (0 ≤ w4.toInt ∧ w4.toInt ≤ 9999) then Option.bind (f_X12_clears K' L' fu (B + 44) (nI p) m) (fun x9 => Option.bind (f_X12_to K' L' (B + 44) (nI p) (0 : Int32) (w2 + (1 : Int32)) x9) (fun x11 => Option.bind (f_X12_to K' L' (B + 44) (nI p) (1 : Int32) w3 x11) (fun x13 => Option.bind (f_X12_to K' L' (B + 44) (nI p) (2 : Int32) w4 x13) (fun x15 => some ((1 : Int32), x15))))) else f_X12_no K' L' (B + 44) (-(nI 12)) m := by
      intro K' L' m
      unfold f_X12_make f_X12_make_63
      simp only [isPlace_eq, if_pos hv, Option.bind_some, isIn_l w2 (A := 0) (C := 4) (a := 0) (c := 4) rfl rfl, isIn_l w3 (A := 1) (C := 9999) (a := 1) (c := 9999) rfl rfl, isIn_l w4 (A := 0) (C := 9999) (a := 0) (c := 9999) rfl rfl, bind_eta]
      rw [if_neg (by decide)]
      by_cases h2 : 0 ≤ w2.toInt ∧ w2.toInt ≤ 4
      · rw [if_pos h2, if_neg (by decide)]
        by_cases h3 : 1 ≤ w3.toInt ∧ w3.toInt ≤ 9999
        · rw [if_pos h3, if_neg (by decide)]
          by_cases h5 : (w3 - w3 / (2 : Int32) * (2 : Int32)) = 0
          · rw [if_pos h5, if_neg (fun q => q.2.1.2.1 h5)]
            rfl
          · rw [if_neg h5]
            by_cases h6 : (w3 - w3 / (5 : Int32) * (5 : Int32)) = 0
            · rw [if_pos h6, if_neg (fun q => q.2.1.2.2 h6)]
              rfl
            · rw [if_neg h6]
              by_cases h4 : 0 ≤ w4.toInt ∧ w4.toInt ≤ 9999
              · rw [if_pos h4, if_neg (by decide), if_pos ⟨h2, ⟨h3, h5, h6⟩, h4⟩]
              · rw [if_neg h4, if_pos rfl, if_neg (fun q => h4 q.2.2)]
                rfl
        · rw [if_neg h3, if_pos rfl, if_neg (fun q => h3 q.2.1.1)]
          rfl
      · rw [if_neg h2, if_pos rfl, if_neg (fun q => h2 q.1)]
        rfl
    have E1 : f_X11_make B fu n B (nI p) w2 w3 w4 K L M = if (0 ≤ w2.toInt ∧ w2.toInt ≤ 4) ∧ ((1 ≤ w3.toInt ∧ w3.toInt ≤ 9999) ∧ ¬ (w3 - w3 / (2 : Int32) * (2 : Int32)) = 0 ∧ ¬ (w3 - w3 / (5 : Int32) * (5 : Int32)) = 0) ∧ (0 ≤ w4.toInt ∧ w4.toInt ≤ 9999) then Option.bind (f_X4_putSwitch B fu n (B + 3 + p) w2 w3 w4 K L M) (fun x25 => Option.bind (mon n x25.1) (fun u27 => some ((1 : Int32), x25.1, x25.2.1, x25.2.2.1, x25.2.2.2))) else Option.bind (f_X11_refuse K L B (-(nI 12)) M) (fun x => some (x.1, n, K, L, x.2)) := by
      unfold f_X11_make
      simp only [(shelf_at iv).1, (shelf_at iv).2, Option.bind_some, placeAt_in g.2.1 hp, rc_ok (g.2.1.2.1.2.2.2.2 p hp).2, within_eq, show (4 : Int32).toInt = 4 from rfl, show (9999 : Int32).toInt = 9999 from rfl, isFactor_eq]
      rw [if_neg (by simp)]
      by_cases h2 : 0 ≤ w2.toInt ∧ w2.toInt ≤ 4
      · rw [if_pos h2, if_neg (by decide)]
        by_cases h3 : (1 ≤ w3.toInt ∧ w3.toInt ≤ 9999) ∧ ¬ (w3 - w3 / (2 : Int32) * (2 : Int32)) = 0 ∧ ¬ (w3 - w3 / (5 : Int32) * (5 : Int32)) = 0
        · rw [if_pos h3, if_neg (by decide)]
          by_cases h4 : 0 ≤ w4.toInt ∧ w4.toInt ≤ 9999
          · rw [if_pos h4, if_neg (by decide), if_pos ⟨h2, h3, h4⟩]
          · rw [if_neg h4, if_pos rfl, if_neg (fun q => h4 q.2.2)]
            rfl
        · rw [if_neg h3, if_pos rfl, if_neg (fun q => h3 q.2.1)]
          rfl
      · rw [if_neg h2, if_pos rfl, if_neg (fun q => h2 q.1)]
        rfl
    by_cases Q : (0 ≤ w2.toInt ∧ w2.toInt ≤ 4) ∧ ((1 ≤ w3.toInt ∧ w3.toInt ≤ 9999) ∧ ¬ (w3 - w3 / (2 : Int32) * (2 : Int32)) = 0 ∧ ¬ (w3 - w3 / (5 : Int32) * (5 : Int32)) = 0) ∧ (0 ≤ w4.toInt ∧ w4.toInt ≤ 9999)
    · obtain ⟨k, k1, ek⟩ := n_of (v := w2) (m := 4) Q.1.1 Q.1.2 (by decide)
      obtain ⟨x3, x31, ex3⟩ := n_of (v := w3) (m := 9999) (by omega) Q.2.1.1.2 (by decide)
      obtain ⟨x4, x41, ex4⟩ := n_of (v := w4) (m := 9999) Q.2.2.1 Q.2.2.2 (by decide)
      rw [if_pos Q] at E1
      have hce := clear_eq (K := K) (L := L) (c1 p hp) i2 i1
      have hqa : qA B p = B + 3 + p := qA_lo hp
      have g' : Sg B n K L (mm_R (ckM M (B + 3 + p))) (mm_C (ckM M (B + 3 + p))) := g.cg (fun x a h => ckM_R h)
      obtain ⟨b, n', K', L', M', s1, s2, s3, s4, s5, s6, s7, s8, s9⟩ := spare_spec (fu := fu) g' (q0 := p) (by omega)
      rw [hqa] at s1 s4 s5 s6 s7 s8
      have hb := s3.blk (q := p) (by omega) (by rw [hqa]; exact s4)
      obtain ⟨M2, b1, b2, b3, b4, b5⟩ := begin_spec hb.2.2 hfu w2 w3 w4
      have hk4 : K' (B + 3 + p) = 4 := by rw [← hqa]; exact qK s3.2.1 (by omega)
      have hput : f_X4_putSwitch B fu n (B + 3 + p) w2 w3 w4 K L M = some (n', K', L', ms_R M2 128 (B + 3 + p) (some b)) := by
        unfold f_X4_putSwitch
        rw [hce]
        simp only [Option.bind_some]
        rw [s1]
        simp only [Option.bind_some, mon, if_pos s2, bn_eq, rc_ok hb.2.2.1.1, b1, rc_ok hk4]
      have hn : 55 ≤ n := by have := g.2.2.1; omega
      have eq3 : ∀ a, a < B + n → a ≠ B + 3 + p → (a < b ∨ b + 30 ≤ a) → eqAt M (ms_R M2 128 (B + 3 + p) (some b)) a := fun a h1 h2 h3 => (((ckM_e h2).tr ((s5 a h1).2.2 h2)).tr (b4 a h3)).tr (eqAt.R h2)
      have hR3 : ∀ x a, x ≠ 128 → mm_R (ms_R M2 128 (B + 3 + p) (some b)) x a = mm_R M' x a := by
        intro x a hx
        rw [R_R, if_neg (fun q => hx q.1), b2]
      have sg3 : Sg B n' K' L' (mm_R (ms_R M2 128 (B + 3 + p) (some b))) (mm_C (ms_R M2 128 (B + 3 + p) (some b))) := by
        rw [C_R, b3]
        exact s3.cg hR3
      have hms : MS B K' L' (mm_R (ms_R M2 128 (B + 3 + p) (some b))) := sg3.1
      have hms2 : ∀ T, MS B K' L' (mm_R (ms_A (ms_R M2 128 (B + 3 + p) (some b)) (B + 45) T)) := fun _ => hms
      have eS : mm_A (ms_R M2 128 (B + 3 + p) (some b)) (B + 45) = mm_A M (B + 45) := (eq3 (B + 45) (by omega) (by omega) (by omega)).2.2.2.1
      refine ⟨(1, n', K', L', ms_R M2 128 (B + 3 + p) (some b)), (1, ms_A (ms_R M2 128 (B + 3 + p) (some b)) (B + 45) (upd (upd (upd (clS (mm_A M (B + 45)) (3940 * p)) (3940 * p + 0) (w2 + 1)) (3940 * p + 1) w3) (3940 * p + 2) w4)), ?_, ?_, rfl, s2, ?_⟩
      · rw [E1, hput]
        simp only [Option.bind_some, mon, if_pos s2]
      · show f_X12_make K' L' fu (B + 44) (nI p) w2 w3 w4 _ = _
        rw [E2, if_pos Q]
        simp only [clears_eq hp hfu hms, eS, Option.bind_some]
        rw [m_to' (c := 0) (hms2 _) hp 0 rfl (by decide), mp_m]
        simp only [Option.bind_some]
        rw [m_to' (c := 1) (hms2 _) hp 1 rfl (by decide), mp_m]
        simp only [Option.bind_some]
        rw [m_to' (c := 2) (hms2 _) hp 2 rfl (by decide), mp_m]
        rfl
      · have hSo : ∀ i, (i < 3940 * p ∨ 3940 * p + 3940 ≤ i) → upd (upd (upd (clS (mm_A M (B + 45)) (3940 * p)) (3940 * p + 0) (w2 + 1)) (3940 * p + 1) w3) (3940 * p + 2) w4 i = mm_A M (B + 45) i := by
          intro i hi
          rw [upd_eq, if_neg (by omega), upd_eq, if_neg (by omega), upd_eq, if_neg (by omega)]
          exact clS_o hi
        have hSj : ∀ j, 3 ≤ j → j < 3940 → upd (upd (upd (clS (mm_A M (B + 45)) (3940 * p)) (3940 * p + 0) (w2 + 1)) (3940 * p + 1) w3) (3940 * p + 2) w4 (3940 * p + j) = clr j := by
          intro j h1 h2
          rw [upd_eq, if_neg (by omega), upd_eq, if_neg (by omega), upd_eq, if_neg (by omega)]
          exact clS_at h2
        have hS0 : upd (upd (upd (clS (mm_A M (B + 45)) (3940 * p)) (3940 * p + 0) (w2 + 1)) (3940 * p + 1) w3) (3940 * p + 2) w4 (3940 * p) = w2 + 1 := by
          rw [upd_eq, if_neg (by omega), upd_eq, if_neg (by omega), upd_eq, if_pos (by omega)]
        have hS1 : upd (upd (upd (clS (mm_A M (B + 45)) (3940 * p)) (3940 * p + 0) (w2 + 1)) (3940 * p + 1) w3) (3940 * p + 2) w4 (3940 * p + 1) = w3 := by
          rw [upd_eq, if_neg (by omega), upd_eq, if_pos (by omega)]
        have hS2 : upd (upd (upd (clS (mm_A M (B + 45)) (3940 * p)) (3940 * p + 0) (w2 + 1)) (3940 * p + 1) w3) (3940 * p + 2) w4 (3940 * p + 2) = w4 := by
          rw [upd_eq, if_pos (by omega)]
        have ra := b5 _ (3940 * p) hS0 hS1 hS2 hSj
        generalize upd (upd (upd (clS (mm_A M (B + 45)) (3940 * p)) (3940 * p + 0) (w2 + 1)) (3940 * p + 1) w3) (3940 * p + 2) w4 = S3 at *
        have hA3 : mm_A (ms_A (ms_R M2 128 (B + 3 + p) (some b)) (B + 45) S3) (B + 45) = S3 := by rw [A_A, if_pos rfl]
        refine iv_pl iv hp (K' := K') (L' := L') (n' := n') sg3 (fun a h1 h2 h3 h4 => (eq3 a (by omega) h2 (by omega)).tr (eqAt.A h3)) (fun q b' hq hne hb' c h1 h2 => ?_) (fun i hi => ?_) (fun q _ => ?_) ?_ ?_
        · have hb1 := s9 q b' hq hne (by rw [ckM_R (by decide)]; exact hb')
          have hb2 := (g.blk hq hb').1
          exact (eq3 c (by omega) (by omega) (by omega)).tr (eqAt.A (by omega))
        · rw [hA3]; exact hSo i hi
        · rw [B_A, (eq3 (B + 47) (by omega) (by omega) (by omega)).2.2.2.2.1]
        · rw [hA3]; exact hSj 44 (by decide) (by decide)
        · rw [hA3]
          refine ⟨k + 1, by omega, by rw [hS0, ek, nI_1], fun e => by omega, fun e => by omega, fun _ _ => ⟨?_, ?_, b, ?_, ?_, ?_⟩⟩
          · rw [I_A, I_R, (b4 (B + 3 + p) (by omega)).1, s6]
            show (if 129 = 129 ∧ B + 3 + p = B + 3 + p then (0 : Int32) else _) = 0
            rw [if_pos ⟨rfl, rfl⟩]
          · exact ⟨⟨x3, x31, hS1.trans ex3⟩, ⟨x4, x41, hS2.trans ex4⟩, Or.inl (hSj 44 (by decide) (by decide)), ⟨0, by omega, hSj 46 (by decide) (by decide)⟩, Or.inl (hSj 47 (by decide) (by decide)), Or.inr (Or.inr (hSj 69 (by decide) (by decide))), Or.inr (Or.inr (hSj 44 (by decide) (by decide)))⟩
          · rw [R_A, R_R, if_pos ⟨rfl, rfl⟩]
          · rw [R_A, hR3 _ _ (by decide)]; exact s4
          · exact ra.fr (fun c h1 h2 => (eqAt.R (by omega)).tr (eqAt.A (by omega))) (fun _ _ => rfl)
    · rw [if_neg Q] at E1
      exact refuse 12 (by decide) (by decide) E1 (by rw [E2, if_neg Q])
  · refine refuse 3 (by decide) (by decide) ?_ ?_
    · unfold f_X11_make
      simp only [(shelf_at iv).1, (shelf_at iv).2, Option.bind_some, placeAt_out hv, if_true]
      rfl
    · unfold f_X12_make
      rw [isPlace_eq, if_neg hv]
      simp only [Option.bind_some, if_true]
      exact bind_eta _
