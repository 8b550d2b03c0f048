/-! empty, note -/
section PL
variable {B n n' : Nat} {K L K' L' : Nat → Nat} {M M' : Mm} {p : Nat}
theorem nr_drop {S S' : Nat → Int32} (hS : ∀ i, (i < 3940 * p ∨ 3940 * p + 3940 ≤ i) → S' i = S i) (h44 : S' (3940 * p + 44) = -1) (r : noRing S) : noRing S' := by
  obtain ⟨rk, h16, hr⟩ := r
  have ne : ∀ q, q < 16 → ¬ S' (3940 * p + 44) = nI q := by
    intro q hq e
    rw [h44] at e
    have := congrArg Int32.toInt e
    rw [nI_toInt (by omega), show (-1 : Int32).toInt = -1 from rfl] at this
    omega
  refine ⟨rk, h16, fun p' q hp' hq ha => hr p' q hp' hq ?_⟩
  rcases ha with ⟨h1, h2⟩ | ⟨t, ht, h1, h2, h3⟩
  · by_cases e : p' = p
    · subst e
      exact absurd h2 (ne q hq)
    · rw [hS _ (by omega)] at h1 h2
      exact Or.inl ⟨h1, h2⟩
  · by_cases e : t = p
    · subst e
      exact absurd h3 (ne q hq)
    · rw [hS _ (by omega)] at h1 h2 h3
      exact Or.inr ⟨t, ht, h1, h2, h3⟩
theorem iv_pl (iv : Iv B n K L M) (hp : p < 16) (sg : Sg B n' K' L' (mm_R M') (mm_C M')) (hlow : ∀ a, a < B + 55 → a ≠ B + 3 + p → a ≠ B + 45 → a ≠ B + 47 → eqAt M M' a) (hblk : ∀ q b', q < 32 → q ≠ p → mm_R M 131 (qA B q) = some b' → ∀ c, b' ≤ c → c < b' + 30 → eqAt M M' c) (hS : ∀ i, (i < 3940 * p ∨ 3940 * p + 3940 ≤ i) → mm_A M' (B + 45) i = mm_A M (B + 45) i) (hN : ∀ q, q ≠ p → mm_B M' (B + 47) q = mm_B M (B + 47) q) (h44 : mm_A M' (B + 45) (3940 * p + 44) = -1) (pr : PR M' (B + 3 + p) (mm_A M' (B + 45)) (3940 * p) (mm_B M' (B + 47) p)) : Iv B n' K' L' M' := by
  obtain ⟨g, c1, c2, c3, c4, c5, c6, c7, c8⟩ := id iv
  refine ⟨sg, fun p' hp' => ?_, fun p' hp' => ?_, nr_drop hS h44 c3, ?_, ?_, ?_, ?_, ?_⟩
  · by_cases e : p' = p
    · subst e
      exact pr
    · exact (c1 p' hp').fr (hlow _ (by omega) (by omega) (by omega) (by omega)) (fun b' hb' => hblk p' b' (by omega) e (by rw [qA_lo hp']; exact hb')) (fun k hk => hS _ (by omega)) (hN p' e)
  · rw [(hlow (B + 46) (by omega) (by omega) (by omega) (by omega)).2.2.2.1, (hlow (B + 48) (by omega) (by omega) (by omega) (by omega)).2.2.2.2.1]
    exact (c2 p' hp').fr (hlow _ (by omega) (by omega) (by omega) (by omega)) (fun b' hb' => hblk (16 + p') b' (by omega) (by omega) (by rw [qA_hi hp']; exact hb')) (fun _ _ => rfl) rfl
  · rw [(hlow (B + 46) (by omega) (by omega) (by omega) (by omega)).2.2.2.1]
    exact c4
  · intro i hi
    rw [(hlow (B + 43) (by omega) (by omega) (by omega) (by omega)).2.2.2.1, (hlow (B + 49) (by omega) (by omega) (by omega) (by omega)).2.2.2.1]
    exact c5 i hi
  · simp only [(hlow (B + 37) (by omega) (by omega) (by omega) (by omega)).1, (hlow (B + 44) (by omega) (by omega) (by omega) (by omega)).1]
    exact c6
  · simp only [(hlow B (by omega) (by omega) (by omega) (by omega)).1, (hlow (B + 44) (by omega) (by omega) (by omega) (by omega)).1]
    exact c7
  · obtain ⟨z, z1, z2, z3, z4⟩ := c8
    refine ⟨z, z1, by rw [(hlow (B + 39) (by omega) (by omega) (by omega) (by omega)).1]; exact z2, by rw [(hlow (B + 44) (by omega) (by omega) (by omega) (by omega)).1]; exact z3, fun i hi => ?_⟩
    rw [(hlow (B + 42) (by omega) (by omega) (by omega) (by omega)).2.2.2.1, (hlow (B + 50) (by omega) (by omega) (by omega) (by omega)).2.2.2.1]
    exact z4 i hi
def ckM (M : Mm) (a : Nat) : Mm := ms_J (ms_I (ms_R M 128 a none) 129 a 0) 130 a 0
theorem ckM_e {a c : Nat} (h : c ≠ a) : eqAt M (ckM M a) c := ((eqAt.R h).tr (eqAt.I h)).tr (eqAt.J h)
theorem ckM_R {a x c : Nat} (h : x ≠ 128) : mm_R (ckM M a) x c = mm_R M x c := by
  show (if x = 128 ∧ c = a then none else mm_R M x c) = _
  rw [if_neg (fun q => h q.1)]
theorem clear_eq {nt : Int64} {S : Nat → Int32} {o hh a : Nat} (pr : PR M a S o nt) (hS : S o = nI hh) (h6 : hh ≤ 6) : f_X4_clear K L a M = some ((if hh = 0 then 0 else 1), ckM M a) := by
  obtain ⟨h', i1, i2, i3, i4, i5⟩ := pr
  have e : h' = hh := (nI_eq (by omega) (by omega)).mp (i2.symm.trans hS)
  subst e
  have z0 : zb 0 = some () := zb_ok (Or.inl rfl)
  have z1 : zb 1 = some () := zb_ok (Or.inr rfl)
  unfold f_X4_clear f_X4_clear_14 f_X4_clear_19
  simp only [bn_eq, z0, z1, Option.bind_some]
  by_cases h0 : h' = 0
  · rw [if_pos (i3 h0).1, if_pos (show mm_I M (32 * 4 + 1) a = 0 from (i3 h0).2), if_pos h0]
    rfl
  · rw [if_neg h0]
    by_cases h7 : h' = 6
    · rw [if_pos (i4 h7).1, if_neg (show ¬ mm_I M (32 * 4 + 1) a = 0 by rw [show mm_I M (32 * 4 + 1) a = 1 from (i4 h7).2.1]; decide)]
      rfl
    · obtain ⟨-, -, b, j3, -⟩ := i5 (by omega) (by omega)
      rw [if_neg (show ¬ mm_R M (32 * 4 + 0) a = none by rw [show mm_R M (32 * 4 + 0) a = some b from j3]; simp)]
      rfl
end PL
/-- a call on any place: the place cell, or BEYOND -/
theorem pgated {B n : Nat} {K L : Nat → Nat} {M : Mm} (iv : Iv B n K L M) (v : Int32) {F1 : Option (Int32 × Mm)} {F2 : Mm → Option (Int32 × Mm)} {G1 : Nat → Option (Int32 × Mm)} {G2 : Mm → Option (Int32 × Mm)}
    (e1 : F1 = Option.bind (rc K (mm_R M (32 * 11 + 0) B) 8) (fun a1 => Option.bind (f_X8_placeAt K L M a1 v) (fun x3 => if x3 = none then Option.bind (f_X11_refuse K L B (-3 : Int32) M) (fun x9 => some (x9.1, x9.2)) else Option.bind (rc K x3 4) (fun a5 => G1 a5))))
    (e2 : ∀ m, F2 m = Option.bind (f_X12_isPlace v) (fun x1 => if x1 = 0 then Option.bind (f_X12_no K L (B + 44) (-3 : Int32) m) (fun x5 => some (x5.1, x5.2)) else G2 m))
    (hG : ∀ p hh, v = nI p → p < 16 → hh ≤ 6 → mm_A M (B + 45) (3940 * p) = nI hh → ∃ x1 x2, G1 (B + 3 + p) = some x1 ∧ G2 x1.2 = some x2 ∧ x1.1 = x2.1 ∧ Iv B n K L x2.2) :
    ∃ x1 x2, F1 = some x1 ∧ F2 x1.2 = some x2 ∧ x1.1 = x2.1 ∧ Iv B n K L x2.2 := by
  obtain ⟨g, c1, -⟩ := id iv
  by_cases hv : 0 ≤ v.toInt ∧ v.toInt ≤ 15
  · obtain ⟨p, hp, rfl⟩ := n_of (v := v) (m := 15) hv.1 hv.2 (by decide)
    have hp : p < 16 := by omega
    obtain ⟨hh, i1, i2, -⟩ := c1 p hp
    obtain ⟨x1, x2, a1, a2, a3, a4⟩ := hG p hh rfl hp i1 i2
    refine ⟨x1, x2, ?_, ?_, a3, a4⟩
    · rw [e1, (shelf_at iv).1, (shelf_at iv).2]
      simp only [Option.bind_some, placeAt_in g.2.1 hp, rc_ok (g.2.1.2.1.2.2.2.2 p hp).2]
      rw [if_neg (by simp)]
      exact a1
    · rw [e2, isPlace_eq, if_pos hv]
      simp only [Option.bind_some]
      rw [if_neg (by decide)]
      exact a2
  · refine fin_no iv 3 (by decide) (by decide) ?_ ?_
    · rw [e1, (shelf_at iv).1, (shelf_at iv).2]
      simp only [Option.bind_some, placeAt_out hv, if_true]
      exact bind_eta _
    · rw [e2, isPlace_eq, if_neg hv]
      simp only [Option.bind_some, if_true]
      exact bind_eta _
/-- empty -/
theorem st_6 {fu : Nat} (hfu : 5000 ≤ fu) : so_6 Iv fu := by
  intro B n K L M w1 iv
  refine pgated iv w1 (F2 := fun m => f_X12_empty K L fu (B + 44) w1 m) rfl (fun m => rfl) ?_
  intro p hh hv hp h6 hS
  subst hv
  obtain ⟨g, c1, -⟩ := id iv
  have hce := clear_eq (K := K) (L := L) (c1 p hp) hS h6
  have hms : MS B K L (mm_R (ckM M (B + 3 + p))) := g.1.cg (fun _ _ => ⟨rfl, rfl⟩) (fun x a _ h _ => ckM_R h)
  have eS : mm_A (ckM M (B + 3 + p)) (B + 45) = mm_A M (B + 45) := (ckM_e (by omega)).2.2.2.1
  have hle : nI hh ≤ 0 ↔ hh = 0 := by rw [t_le, nI_toInt (by omega), show (0 : Int32).toInt = 0 from rfl]; omega
  refine ⟨((if hh = 0 then 0 else 1), ckM M (B + 3 + p)), ((if hh = 0 then 0 else 1), ms_A (ckM M (B + 3 + p)) (B + 45) (clS (mm_A M (B + 45)) (3940 * p))), ?_, ?_, rfl, ?_⟩
  · rw [hce]
    simp only [Option.bind_some]
    by_cases h0 : hh = 0
    · rw [if_pos h0, if_pos rfl]
    · rw [if_neg h0, if_neg (by decide)]
  · simp only [m_of0 hms hp, eS, hS, Option.bind_some, f_X12_empty_28, clears_eq hp hfu hms]
    by_cases h0 : hh = 0
    · rw [if_pos (hle.mpr h0), if_pos h0]
    · rw [if_neg (fun q => h0 (hle.mp q)), if_neg h0]
  · have e : ∀ a, a ≠ B + 3 + p → a ≠ B + 45 → eqAt M (ms_A (ckM M (B + 3 + p)) (B + 45) (clS (mm_A M (B + 45)) (3940 * p))) a := fun a h1 h2 => (ckM_e h1).tr (eqAt.A h2)
    refine iv_pl iv hp (g.cg (fun x a h => ckM_R h)) (fun a _ h1 h2 _ => e a h1 h2) (fun q b' hq _ hb c h1 h2 => ?_) (fun i hi => ?_) (fun q _ => rfl) ?_ ?_
    · have := (g.blk hq hb).1
      exact e c (by omega) (by omega)
    · rw [A_A, if_pos rfl]
      exact clS_o hi
    · rw [A_A, if_pos rfl]
      exact clS_at (by decide)
    · rw [A_A, if_pos rfl]
      refine ⟨0, by decide, clS_at (k := 0) (by decide), fun _ => ⟨?_, ?_⟩, fun e => by omega, fun e => by omega⟩
      · show (if 128 = 128 ∧ B + 3 + p = B + 3 + p then none else _) = none
        rw [if_pos ⟨rfl, rfl⟩]
      · show (if 129 = 129 ∧ B + 3 + p = B + 3 + p then (0 : Int32) else _) = 0
        rw [if_pos ⟨rfl, rfl⟩]
/-- note -/
theorem st_5 {fu : Nat} (hfu : 5000 ≤ fu) : so_5 Iv fu := by
  intro B n K L M w1 w2 w3 iv
  generalize ((w2.toInt64) <<< ((32 : Int32).toInt64 &&& 63)) ||| ((w3.toInt64) &&& (4294967295 : Int64)) = v
  refine pgated iv w1 (F2 := fun m => f_X12_note K L fu (B + 44) w1 v m) rfl (fun m => rfl) ?_
  intro p hh hv hp h6 hS
  subst hv
  obtain ⟨g, c1, -⟩ := id iv
  have hce := clear_eq (K := K) (L := L) (c1 p hp) hS h6
  have hR : ∀ x a, x ≠ 128 → mm_R (ms_J (ms_I (ckM M (B + 3 + p)) 129 (B + 3 + p) 1) 130 (B + 3 + p) v) x a = mm_R M x a := fun x a h => ckM_R h
  have hms : MS B K L (mm_R (ms_J (ms_I (ckM M (B + 3 + p)) 129 (B + 3 + p) 1) 130 (B + 3 + p) v)) := g.1.cg (fun _ _ => ⟨rfl, rfl⟩) (fun x a _ h _ => hR x a h)
  have eS : mm_A (ms_J (ms_I (ckM M (B + 3 + p)) 129 (B + 3 + p) 1) 130 (B + 3 + p) v) (B + 45) = mm_A M (B + 45) := (ckM_e (by omega)).2.2.2.1
  have hms2 : ∀ T, MS B K L (mm_R (ms_A (ms_J (ms_I (ckM M (B + 3 + p)) 129 (B + 3 + p) 1) 130 (B + 3 + p) v) (B + 45) T)) := fun _ => hms
  refine ⟨(1, ms_J (ms_I (ckM M (B + 3 + p)) 129 (B + 3 + p) 1) 130 (B + 3 + p) v), (1, ms_B (ms_A (ms_J (ms_I (ckM M (B + 3 + p)) 129 (B + 3 + p) 1) 130 (B + 3 + p) v) (B + 45) (upd (clS (mm_A M (B + 45)) (3940 * p)) (3940 * p + 0) 6)) (B + 47) (vp_updL (mm_B M (B + 47)) p v)), ?_, ?_, rfl, ?_⟩
  · unfold f_X4_putNote
    rw [hce]
    rfl
  · simp only [clears_eq hp hfu hms, eS, Option.bind_some]
    rw [m_to' (c := 0) (hms2 _) hp 0 rfl (by decide), mp_m]
    simp only [Option.bind_some]
    rw [show mm_R (ms_A (ms_J (ms_I (ckM M (B + 3 + p)) 129 (B + 3 + p) 1) 130 (B + 3 + p) v) (B + 45) (upd (clS (mm_A M (B + 45)) (3940 * p)) (3940 * p + 0) 6)) (32 * 12 + 2) (B + 44) = some (B + 47) from hms.1.2.2.2.1, rx_ok (hms.2.1.2.2.1) hms.2.2.2.2.1 hp (by decide)]
    simp only [Option.bind_some, bn_eq]
    rw [nI_clamp (by omega)]
    rfl
  · have e : ∀ a, a ≠ B + 3 + p → a ≠ B + 45 → a ≠ B + 47 → eqAt M (ms_B (ms_A (ms_J (ms_I (ckM M (B + 3 + p)) 129 (B + 3 + p) 1) 130 (B + 3 + p) v) (B + 45) (upd (clS (mm_A M (B + 45)) (3940 * p)) (3940 * p + 0) 6)) (B + 47) (vp_updL (mm_B M (B + 47)) p v)) a := fun a h1 h2 h3 => ((((ckM_e h1).tr (eqAt.I h1)).tr (eqAt.J h1)).tr (eqAt.A h2)).tr (eqAt.B h3)
    refine iv_pl iv hp (g.cg (fun x a h => hR x a h)) (fun a _ h1 h2 h3 => e a h1 h2 h3) (fun q b' hq _ hb c h1 h2 => ?_) (fun i hi => ?_) (fun q hq => ?_) ?_ ?_
    · have := (g.blk hq hb).1
      exact e c (by omega) (by omega) (by omega)
    · rw [A_B, A_A, if_pos rfl, upd_eq, if_neg (by omega)]
      exact clS_o hi
    · rw [B_B, if_pos rfl]
      show (if q = p then v else _) = _
      rw [if_neg hq]
    · rw [A_B, A_A, if_pos rfl, upd_eq, if_neg (by omega)]
      exact clS_at (by decide)
    · rw [A_B, A_A, if_pos rfl, B_B, if_pos rfl]
      refine ⟨6, by decide, by rw [upd_eq, if_pos (by omega)]; rfl, fun e => by omega, fun _ => ⟨?_, ?_, ?_⟩, fun e => by omega⟩
      · show (if 128 = 128 ∧ B + 3 + p = B + 3 + p then none else _) = none
        rw [if_pos ⟨rfl, rfl⟩]
      · show (if 129 = 129 ∧ B + 3 + p = B + 3 + p then (1 : Int32) else _) = 1
        rw [if_pos ⟨rfl, rfl⟩]
      · show (if 130 = 130 ∧ B + 3 + p = B + 3 + p then v else _) = (if p = p then v else _)
        rw [if_pos ⟨rfl, rfl⟩, if_pos rfl]
