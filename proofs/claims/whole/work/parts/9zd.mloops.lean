/-! moves -/
section MM
variable {B n : Nat} {K L : Nat → Nat} {fu : Nat} {M : Mm} {rk : Nat → Nat}
abbrev mvd (B : Nat) (M : Mm) (x p : Nat) (z : Int32) : Prop := wyv (mm_A M (B + 45)) (mm_I M 393 (B + 44)) (mm_I M 394 (B + 44)) (mm_I M 395 (B + 44)) (wn B M x) p = 0 ∧ ¬ (inn (mm_A M (B + 45) (3940 * p + 29)) (mm_A M (B + 45) (3940 * p + 37)) (seatV (mm_A M (B + 45) (3940 * p + 1)) (nI x) (mm_A M (B + 45) (3940 * p + 2))) ↔ inn (mm_A M (B + 45) (3940 * p + 29)) z (seatV (mm_A M (B + 45) (3940 * p + 1)) (nI x) (mm_A M (B + 45) (3940 * p + 2))))
def moc (B : Nat) (M : Mm) (f p : Nat) (z : Int32) : Nat → Int32
  | 0 => 0
  | i + 1 => if mvd B M (f + i) p z then moc B M f p z i + 1 else moc B M f p z i
theorem would_c {N : Mm} {b : Nat} {F Z t z : Int32} (h : BS K L (mm_R N) (mm_C N) b) (h7 : mm_A N (b + 7) 1 = F) (h8 : mm_A N (b + 8) 1 = Z) : f_X7_wouldMove K L N (b + 6) t z = some (if (inn F Z t ↔ inn F z t) then 0 else 1) := by
  obtain ⟨a1, a2, a3, a4, a5, a6, a7⟩ := h.2.2.1
  have x7 : rx K L (some (b + 7)) 13 1 = some (b + 7) := rx_ok (k := 1) a4 a5 (by decide) (by decide)
  have x8 : rx K L (some (b + 8)) 13 1 = some (b + 8) := rx_ok (k := 1) a6 a7 (by decide) (by decide)
  have h48 : ∀ u v : Int32, (u = 0 ∨ u = 1) → (v = 0 ∨ v = 1) → f_X7_wouldMove_48 K L N (b + 6) u v = some (if u = v then 0 else 1) := by
    intro u v _ _
    unfold f_X7_wouldMove_48
    split <;> rfl
  have h29 : ∀ u : Int32, f_X7_wouldMove_29 K L N (b + 6) t z F u = some (if u = (if inn F z t then 1 else 0) then 0 else 1) := by
    intro u
    unfold f_X7_wouldMove_29 f_X7_wouldMove_47 f_X7_wouldMove_48
    by_cases q1 : t < F
    · rw [if_pos q1, if_neg (show ¬ inn F z t from fun x => x.1 q1)]
      split <;> rfl
    · rw [if_neg q1]
      by_cases q2 : F + z ≤ t
      · rw [if_pos q2, if_neg (show ¬ inn F z t from fun x => x.2 q2)]
        split <;> rfl
      · rw [if_neg q2, if_pos (show inn F z t from ⟨q1, q2⟩)]
        split <;> rfl
  have fin : f_X7_wouldMove K L N (b + 6) t z = f_X7_wouldMove_29 K L N (b + 6) t z F (if inn F Z t then 1 else 0) := by
    unfold f_X7_wouldMove f_X7_wouldMove_28
    rw [show mm_R N (32 * 7 + 0) (b + 6) = _ from a2, show mm_R N (32 * 7 + 1) (b + 6) = _ from a3]
    refine (sb x7 _).trans ?_
    rw [show mm_A N (b + 7) (1 : Int32).toNatClampNeg = F from h7, bn_eq]
    by_cases q1 : t < F
    · rw [if_pos q1, if_neg (show ¬ inn F Z t from fun x => x.1 q1)]
    · rw [if_neg q1]
      refine (sb x8 _).trans ?_
      rw [show mm_A N (b + 8) (1 : Int32).toNatClampNeg = Z from h8]
      by_cases q2 : F + Z ≤ t
      · rw [if_pos q2, if_neg (show ¬ inn F Z t from fun x => x.2 q2)]
      · rw [if_neg q2, if_pos (show inn F Z t from ⟨q1, q2⟩)]
  rw [fin, h29]
  congr 1
  by_cases q1 : inn F Z t <;> by_cases q2 : inn F z t
  · rw [if_pos q1, if_pos q2, if_pos rfl, if_pos ⟨fun _ => q2, fun _ => q1⟩]
  · rw [if_pos q1, if_neg q2, if_neg (by decide), if_neg (fun x => q2 (x.mp q1))]
  · rw [if_neg q1, if_pos q2, if_neg (by decide), if_neg (fun x => q1 (x.mpr q2))]
  · rw [if_neg q1, if_neg q2, if_pos rfl, if_pos ⟨fun x => absurd x q1, fun x => absurd x q2⟩]
theorem moves_c {f p m b hh : Nat} {z : Int32} (iv : Iv B n K L M) (g : Got B K L M p b hh) (h16 : ∀ p, rk p < 16) (hr : ∀ p q, p < 16 → q < 16 → ((hgo (mm_A M (B + 45)) p = some q) ∨ ∃ t, t < 16 ∧ stp (mm_A M (B + 45)) t p ∧ hgo (mm_A M (B + 45)) t = some q) → rk q < rk p) (hfu : 5000 ≤ fu) (hm : m ≤ 2000) (hf : f + m ≤ 1000000) : ∀ (d q i : Nat) (N : Mm), scr B M N → stk B (mm_A M (B + 45)) N → i + d = m → d < q → ∃ N', f_X11_moves_107 K L fu B q (nI p) z (nI f) (nI m) (some b) (moc B M f p z i) (nI i) N = some (moc B M f p z m, N') ∧ scr B M N' := by
  have hr3 : mm_R M (32 * 11 + 3) B = some (B + 37) := iv.1.2.1.1.2.2.2.1
  have hr0 : mm_R M (32 * 11 + 0) B = some (B + 1) := iv.1.2.1.1.2.1
  have hk1 : K (B + 37) = 1 := iv.1.2.1.2.2.2.1.1
  have c6 := iv.2.2.2.2.2.2.1
  have w := WF_iv iv
  have hp := g.1
  have hi := isw_ok g
  obtain ⟨g1, g2, g3, g4, g5, g6, g7, g8, g9, g10, g11⟩ := id g
  intro d
  induction d with
  | zero =>
    intro q i N sc st h1 h2
    obtain ⟨q, rfl⟩ : ∃ q', q = q' + 1 := ⟨q - 1, by omega⟩
    have : i = m := by omega
    subst this
    refine ⟨N, ?_, sc⟩
    show f_X11_moves_107b K L fu (f_X11_moves_107 K L fu B q) B (nI p) z (nI f) (nI i) (some b) _ (nI i) N = _
    unfold f_X11_moves_107b
    rw [if_pos (nI_le (Nat.le_refl _) (by omega))]
  | succ d ih =>
    intro q i N sc st h1 h2
    obtain ⟨q, rfl⟩ : ∃ q', q = q' + 1 := ⟨q - 1, by omega⟩
    obtain ⟨sv, b4, b5, b6⟩ := st
    have em : ∀ y, y < 36 → mm_I N y (B + 37) = mm_I M y (B + 37) := fun y hy => sc.2.2.2.2.1 y _ (by omega) (by omega)
    obtain ⟨N1, a1, a2, a3, a4⟩ := ask_c (K := K) (L := L) (B := B) (nu := nI (f + i)) (W := wn B M (f + i)) b4 b5 b6 ((em 33 (by decide)).trans c6.2.1) ((em 34 (by decide)).trans c6.2.2.1) ((em 35 (by decide)).trans c6.2.2.2.1)
    have s1 := sc.tr a2
    obtain ⟨N2, e1, e2, e3⟩ := why_c (fu := fu) (wf := f_X1_wayAt K L fu 19) (dep := 0) w hp hi (by omega) (fun q hq => by
      have hq16 : q < 16 ∧ isw (mm_A M (B + 45)) q := by
        rcases hq with x | ⟨t, ht, -, x⟩
        · exact ⟨(hgo_16 w hp x).1, (hgo_16 w hp x).2.2.1⟩
        · exact ⟨(hgo_16 w ht x).1, (hgo_16 w ht x).2.2.1⟩
      have := hr p q hp hq16.1 hq
      have := h16 p
      exact way_c (fu := fu) w h16 hr (by omega) 19 q (0 + 1) hq16.1 hq16.2 (by omega) (by omega)) (iv_scr iv s1) s1.S a3
    have s2 := s1.tr e2
    have bs : BS K L (mm_R N1) (mm_C N1) b := by rw [s1.1, s1.2.1]; exact g9
    have eb : ∀ c, b ≤ c → eqAt M N1 c := fun c hc => s1.e (by omega) (by omega)
    have o7 : mm_A N1 (b + 7) 1 = mm_A M (B + 45) (3940 * p + 29) := by rw [(eb (b + 7) (by omega)).2.2.2.1]; exact (g11.2.2.1 1 (by decide) (by decide)).1
    have o8 : mm_A N1 (b + 8) 1 = mm_A M (B + 45) (3940 * p + 37) := by rw [(eb (b + 8) (by omega)).2.2.2.1]; exact (g11.2.2.1 1 (by decide) (by decide)).2.1
    have hse : f_X9_seatOf K L N1 b (nI (f + i)) = some (seatV (mm_A M (B + 45) (3940 * p + 1)) (nI (f + i)) (mm_A M (B + 45) (3940 * p + 2))) := by
      rw [seatOf_c, (eb b (by omega)).1, (eb b (by omega)).1, g11.1.2.1, g11.1.2.2.1]
    have ea : moc B M f p z (i + 1) = if mvd B M (f + i) p z then moc B M f p z i + 1 else moc B M f p z i := rfl
    have E : f_X11_moves_107 K L fu B (q + 1) (nI p) z (nI f) (nI m) (some b) (moc B M f p z i) (nI i) N = if (inn (mm_A M (B + 45) (3940 * p + 29)) (mm_A M (B + 45) (3940 * p + 37)) (seatV (mm_A M (B + 45) (3940 * p + 1)) (nI (f + i)) (mm_A M (B + 45) (3940 * p + 2))) ↔ inn (mm_A M (B + 45) (3940 * p + 29)) z (seatV (mm_A M (B + 45) (3940 * p + 1)) (nI (f + i)) (mm_A M (B + 45) (3940 * p + 2)))) then f_X11_moves_107 K L fu B q (nI p) z (nI f) (nI m) (some b) (moc B M f p z i) (nI (i + 1)) N1 else if wyv (mm_A M (B + 45)) (mm_I M 393 (B + 44)) (mm_I M 394 (B + 44)) (mm_I M 395 (B + 44)) (wn B M (f + i)) p = 0 then f_X11_moves_107 K L fu B q (nI p) z (nI f) (nI m) (some b) (moc B M f p z i + 1) (nI (i + 1)) N2 else f_X11_moves_107 K L fu B q (nI p) z (nI f) (nI m) (some b) (moc B M f p z i) (nI (i + 1)) N2 := by
      show f_X11_moves_107b K L fu (f_X11_moves_107 K L fu B q) B (nI p) z (nI f) (nI m) (some b) (moc B M f p z i) (nI i) N = _
      unfold f_X11_moves_107b
      rw [if_neg (nI_ge (by omega) (by omega)), show mm_R N (32 * 11 + 3) B = some (B + 37) by rw [sc.1]; exact hr3, nI_add, nI_1]
      refine (rcb hk1 _).trans ?_
      refine (sb a1 _).trans ?_
      refine (rcb g9.1.1 _).trans ?_
      refine (sb hse _).trans ?_
      rw [show mm_R N1 (32 * 9 + 4) b = some (b + 6) from bs.1.2.2.1]
      refine (rcb bs.2.2.1.1 _).trans ?_
      refine (sb (would_c bs o7 o8) _).trans ?_
      by_cases q1 : (inn (mm_A M (B + 45) (3940 * p + 29)) (mm_A M (B + 45) (3940 * p + 37)) (seatV (mm_A M (B + 45) (3940 * p + 1)) (nI (f + i)) (mm_A M (B + 45) (3940 * p + 2))) ↔ inn (mm_A M (B + 45) (3940 * p + 29)) z (seatV (mm_A M (B + 45) (3940 * p + 1)) (nI (f + i)) (mm_A M (B + 45) (3940 * p + 2))))
      · rw [if_pos q1, if_pos rfl, if_pos q1]
      · rw [if_neg q1, if_neg (by decide), if_neg q1, show mm_R N1 (32 * 11 + 3) B = some (B + 37) by rw [s1.1]; exact hr3, show mm_R N1 (32 * 11 + 0) B = some (B + 1) by rw [s1.1]; exact hr0]
        refine (rcb hk1 _).trans ?_
        exact sb e1 _
    rw [E]
    by_cases q1 : (inn (mm_A M (B + 45) (3940 * p + 29)) (mm_A M (B + 45) (3940 * p + 37)) (seatV (mm_A M (B + 45) (3940 * p + 1)) (nI (f + i)) (mm_A M (B + 45) (3940 * p + 2))) ↔ inn (mm_A M (B + 45) (3940 * p + 29)) z (seatV (mm_A M (B + 45) (3940 * p + 1)) (nI (f + i)) (mm_A M (B + 45) (3940 * p + 2))))
    · rw [if_pos q1]
      obtain ⟨N4, c1, c2⟩ := ih q (i + 1) N1 s1 a3.stk (by omega) (by omega)
      rw [ea, if_neg (fun x => x.2 q1)] at c1
      exact ⟨N4, c1, c2⟩
    · rw [if_neg q1]
      obtain ⟨N4, c1, c2⟩ := ih q (i + 1) N2 s2 e3.stk (by omega) (by omega)
      refine ⟨N4, ?_, c2⟩
      rw [ea] at c1
      by_cases q2 : wyv (mm_A M (B + 45)) (mm_I M 393 (B + 44)) (mm_I M 394 (B + 44)) (mm_I M 395 (B + 44)) (wn B M (f + i)) p = 0
      · rw [if_pos ⟨q2, q1⟩] at c1
        rw [if_pos q2]
        exact c1
      · rw [if_neg (fun x => q2 x.1)] at c1
        rw [if_neg q2]
        exact c1
theorem moves_m {f p m : Nat} {z v6 v7 : Int32} (iv : Iv B n K L M) (h16 : ∀ p, rk p < 16) (hr : ∀ p q, p < 16 → q < 16 → ((hgo (mm_A M (B + 45)) p = some q) ∨ ∃ t, t < 16 ∧ stp (mm_A M (B + 45)) t p ∧ hgo (mm_A M (B + 45)) t = some q) → rk q < rk p) (hfu : 5000 ≤ fu) (hp : p < 16) (hi : isw (mm_A M (B + 45)) p) (hm : m ≤ 2000) (hf : f + m ≤ 1000000) (h6 : v6 = mm_I M 392 (B + 44)) (h7 : v7 = mm_A M (B + 45) (3940 * p + 37)) : ∀ (d g i : Nat) (N : Mm), sc2 B M N → mm_I N 392 (B + 44) = nI (f + i) → i + d = m → d < g → ∃ N', f_X12_moves_122 K L fu (B + 44) g (nI p) z (nI f) (nI m) v6 v7 (moc B M f p z i) N = some (moc B M f p z m, N') ∧ scr B M N' := by
  have w := WF_iv iv
  have hS' : ∀ i, i ≠ 3940 * p + 37 → upd (mm_A M (B + 45)) (3940 * p + 37) z i = mm_A M (B + 45) i := fun i h => by rw [upd_eq, if_neg h]
  have w' := WF_cg hS' w
  have hr' : ∀ p1 q, p1 < 16 → q < 16 → ((hgo (upd (mm_A M (B + 45)) (3940 * p + 37) z) p1 = some q) ∨ ∃ t, t < 16 ∧ stp (upd (mm_A M (B + 45)) (3940 * p + 37) z) t p1 ∧ hgo (upd (mm_A M (B + 45)) (3940 * p + 37) z) t = some q) → rk q < rk p1 := by
    intro p1 q1 h1 h2 x
    refine hr p1 q1 h1 h2 ?_
    rcases x with x | ⟨t, ht, x1, x2⟩
    · rw [hgo_cg hS'] at x; exact Or.inl x
    · rw [hgo_cg hS'] at x2; exact Or.inr ⟨t, ht, (stp_cg hS' t p1).mp x1, x2⟩
  intro d
  induction d with
  | zero =>
    intro g i N sc hn h1 h2
    obtain ⟨g, rfl⟩ : ∃ g', g = g' + 1 := ⟨g - 1, by omega⟩
    have : i = m := by omega
    subst this
    refine ⟨ms_I N 392 (B + 44) v6, ?_, by rw [h6]; exact sc⟩
    show f_X12_moves_122b K L fu (f_X12_moves_122 K L fu (B + 44) g) (B + 44) (nI p) z (nI f) (nI i) v6 v7 _ N = _
    unfold f_X12_moves_122b
    rw [show mm_I N (32 * 12 + 8) (B + 44) = nI (f + i) from hn, nI_add, if_pos (nI_le (Nat.le_refl _) (by omega))]
    rfl
  | succ d ih =>
    intro g i N sc hn h1 h2
    obtain ⟨g, rfl⟩ : ∃ g', g = g' + 1 := ⟨g - 1, by omega⟩
    have hcal : cal B N (mm_I M 393 (B + 44)) (mm_I M 394 (B + 44)) (mm_I M 395 (B + 44)) (nI (f + i)) := ⟨hn, sc.I (by decide) (by decide), sc.I (by decide) (by decide), sc.I (by decide) (by decide)⟩
    obtain ⟨N3, f1, f2, f3⟩ := findWays_eq (fu := fu) (K := K) (L := L) (B := B) (M := N) (nu := nI (f + i)) w h16 hr (by omega) (sc.MS iv.1.1) sc.S hcal
    have hN3 : MS B K L (mm_R N3) := f2.MS (sc.MS iv.1.1)
    have hS3 : mm_A N3 (B + 45) = mm_A M (B + 45) := f2.S.trans sc.S
    have n3 : mm_I N3 392 (B + 44) = nI (f + i) := (f2.2.2.2.2.1 392 _ (by omega) (by omega)).trans hn
    obtain ⟨P, hP⟩ : ∃ P, P = ms_A N3 (B + 45) (upd (mm_A M (B + 45)) (3940 * p + 37) z) := ⟨_, rfl⟩
    have hPR : MS B K L (mm_R P) := by rw [hP]; exact hN3
    have hc3 : cal B N3 (mm_I M 393 (B + 44)) (mm_I M 394 (B + 44)) (mm_I M 395 (B + 44)) (nI (f + i)) := hcal.scr f2
    obtain ⟨N5, k1, k2, k3⟩ := findWays_eq (fu := fu) (K := K) (L := L) (B := B) (M := P) (l := mm_I M 393 (B + 44)) (a := mm_I M 394 (B + 44)) (s := mm_I M 395 (B + 44)) (nu := nI (f + i)) (S := upd (mm_A M (B + 45)) (3940 * p + 37) z) w' h16 hr' (by omega) hPR (by rw [hP, A_A, if_pos rfl]) (by rw [hP]; exact hc3)
    have hN5 : MS B K L (mm_R N5) := k2.MS hPR
    have hS5 : mm_A N5 (B + 45) = upd (mm_A M (B + 45)) (3940 * p + 37) z := k2.S.trans (by rw [hP, A_A, if_pos rfl])
    have hback : upd (upd (mm_A M (B + 45)) (3940 * p + 37) z) (3940 * p + 37) v7 = mm_A M (B + 45) := by
      funext j
      rw [upd_eq, upd_eq]
      by_cases e : j = 3940 * p + 37
      · rw [if_pos e, h7, e]
      · rw [if_neg e, if_neg e]
    obtain ⟨N6, hN6⟩ : ∃ P, P = ms_A N5 (B + 45) (mm_A M (B + 45)) := ⟨_, rfl⟩
    have s6 : scr B N3 N6 := by
      have := scr.ms (g := mm_A M (B + 45)) k2
      rw [hP, ms_A_A, ← hS3, ms_A_self, hS3] at this
      rw [hN6]; exact this
    have n6 : mm_I N6 392 (B + 44) = nI (f + i) := (s6.2.2.2.2.1 392 _ (by omega) (by omega)).trans n3
    have a6 : mm_A N6 (B + 51) p = Ww (upd (mm_A M (B + 45)) (3940 * p + 37) z) (mm_I M 393 (B + 44)) (mm_I M 394 (B + 44)) (mm_I M 395 (B + 44)) (nI (f + i)) p := by
      rw [hN6, A_A, if_neg (by omega)]
      exact k3 p hp ((isw_cg hS' p).mpr hi)
    have hmi := moves_iff (l := mm_I M 393 (B + 44)) (a := mm_I M 394 (B + 44)) (s := mm_I M 395 (B + 44)) (nu := nI (f + i)) hS' w h16 hr hp hi
    rw [show upd (mm_A M (B + 45)) (3940 * p + 37) z (3940 * p + 37) = z by rw [upd_eq, if_pos rfl]] at hmi
    have ea : moc B M f p z (i + 1) = if mvd B M (f + i) p z then moc B M f p z i + 1 else moc B M f p z i := rfl
    obtain ⟨N4, b1, b2⟩ := ih g (i + 1) (ms_I N6 392 (B + 44) (nI (f + (i + 1)))) (((sc.step f2).step s6).num _) (by rw [I_I, if_pos ⟨rfl, rfl⟩]) (by omega) (by omega)
    refine ⟨N4, ?_, b2⟩
    rw [ea] at b1
    have h184 : ∀ u : Int32, f_X12_moves_184 K L fu (f_X12_moves_122 K L fu (B + 44) g) (B + 44) (nI p) z (nI f) (nI m) v6 v7 u (moc B M f p z i) N6 = f_X12_moves_122 K L fu (B + 44) g (nI p) z (nI f) (nI m) v6 v7 (moc B M f p z i + u) (ms_I N6 392 (B + 44) (nI (f + (i + 1)))) := by
      intro u
      unfold f_X12_moves_184
      rw [bn_eq, bn_eq, show mm_I N6 (32 * 12 + 8) (B + 44) = nI (f + i) from n6, nI_1]
      rfl
    have hx : rx K L (some (B + 51)) 13 (nI p) = some (B + 51) := rx_ok hN3.2.1.2.2.2.2.2.2.1 hN3.2.2.2.2.2.2.2.2.1 hp (by decide)
    show f_X12_moves_122b K L fu (f_X12_moves_122 K L fu (B + 44) g) (B + 44) (nI p) z (nI f) (nI m) v6 v7 (moc B M f p z i) N = _
    unfold f_X12_moves_122b
    rw [show mm_I N (32 * 12 + 8) (B + 44) = nI (f + i) from hn, nI_add, if_neg (nI_ge (by omega) (by omega))]
    refine (sb f1 _).trans ?_
    rw [show mm_R N3 (32 * 12 + 12) (B + 44) = some (B + 51) from hN3.1.2.2.2.2.2.2.2.1]
    refine (sb hx _).trans ?_
    rw [nI_clamp (by omega), f3 p hp hi, bn_eq]
    refine (sb (show f_X12_to K L (B + 44) (nI p) 37 z N3 = some P by rw [m_to (c := 37) hN3 hp 37 rfl (by decide), hS3, hP]) _).trans ?_
    refine (sb k1 _).trans ?_
    refine (sb (show f_X12_to K L (B + 44) (nI p) 37 v7 N5 = some N6 by rw [m_to (c := 37) hN5 hp 37 rfl (by decide), hS5, hback, hN6]) _).trans ?_
    rw [show mm_R N6 (32 * 12 + 12) (B + 44) = some (B + 51) by rw [hN6]; exact hN5.1.2.2.2.2.2.2.2.1]
    refine (sb hx _).trans ?_
    rw [a6, h184, h184]
    by_cases q : mvd B M (f + i) p z
    · rw [if_pos q] at b1
      rw [if_neg (fun x => hmi.mp x q)]
      exact b1
    · rw [if_neg q] at b1
      rw [if_pos (hmi.mpr q), Int32.add_zero]
      exact b1
end MM
/-- moves -/
theorem st_35 {fu : Nat} (hfu : 5000 ≤ fu) : so_35 Iv fu := by
  intro B n K L M w1 w2 w3 w4 iv
  by_cases hc : 0 ≤ w3.toInt ∧ w3.toInt ≤ 999999
  · obtain ⟨f, f1, rfl⟩ := n_of (v := w3) (m := 999999) hc.1 hc.2 (by decide)
    have e1 : f_X11_moves K L fu B w1 w2 (nI f) w4 M = Option.bind (rc K (mm_R M (32 * 11 + 0) B) 8) (fun a3 => Option.bind (f_X8_find K L M a3 w1 (31 : Int32)) (fun x5 => if x5 = none then Option.bind (f_X11_refuseAt K L B w1 (31 : Int32) M) (fun x25 => some (x25.1, x25.2)) else Option.bind (f_X11_crowdFault (nI f) w4) (fun x7 => if x7 = 0 then Option.bind (rc K x5 9) (fun a9 => Option.bind (rc K (mm_R M (32 * 9 + 4) a9) 7) (fun a11 => Option.bind (f_X7_firstOf K L M a11 (1 : Int32)) (fun x13 => Option.bind (f_X7_fits K L fu M a11 (1 : Int32) x13 w2) (fun x15 => if x15 = 0 then Option.bind (f_X11_refuse K L B (-12 : Int32) M) (fun x21 => some (x21.1, x21.2)) else Option.bind (rc K (mm_R M (32 * 11 + 3) B) 1) (fun a17 => Option.bind (f_X1_begin K L fu a17 (mm_R M (32 * 11 + 0) B) M) (fun x19 => f_X11_moves_107 K L fu B fu w1 w2 (nI f) w4 x5 (0 : Int32) (0 : Int32) x19)))))) else Option.bind (f_X11_refuse K L B x7 M) (fun x23 => some (x23.1, x23.2))))) := by
      unfold f_X11_moves
      rw [within_eq, show (999999 : Int32).toInt = 999999 from rfl, if_pos hc]
      rfl
    have e2 : ∀ m, f_X12_moves K L fu (B + 44) w1 w2 (nI f) w4 m = Option.bind (f_X12_why K L m (B + 44) w1 (nI 0)) (fun x1 => if x1 = 0 then Option.bind (f_X12_whyAmong (B + 44) (nI f) w4) (fun x1 => f_X12_moves_34 K L fu (B + 44) w1 w2 (nI f) w4 x1 m) else Option.bind (f_X12_no K L (B + 44) x1 m) (fun x => some (x.1, x.2))) := by
      intro m
      unfold f_X12_moves
      rw [isNumber_eq, if_pos hc]
      show Option.bind (f_X12_why K L m (B + 44) w1 0) (fun x3 => f_X12_moves_18 K L fu (B + 44) w1 w2 (nI f) w4 x3 m) = _
      congr 1
      funext x1
      unfold f_X12_moves_18
      by_cases h : x1 = 0
      · rw [if_pos h, if_pos h]
      · rw [if_neg h, if_neg h]
        unfold f_X12_moves_34 f_X12_moves_87
        rw [if_neg h, if_neg h]
    refine gated iv w1 (kinds := 31) (kind := 0) (by unfold kb; simp) (F2 := fun m => f_X12_moves K L fu (B + 44) w1 w2 (nI f) w4 m) (G1 := fun x5 => Option.bind (f_X11_crowdFault (nI f) w4) (fun x7 => if x7 = 0 then Option.bind (rc K x5 9) (fun a9 => Option.bind (rc K (mm_R M (32 * 9 + 4) a9) 7) (fun a11 => Option.bind (f_X7_firstOf K L M a11 (1 : Int32)) (fun x13 => Option.bind (f_X7_fits K L fu M a11 (1 : Int32) x13 w2) (fun x15 => if x15 = 0 then Option.bind (f_X11_refuse K L B (-12 : Int32) M) (fun x21 => some (x21.1, x21.2)) else Option.bind (rc K (mm_R M (32 * 11 + 3) B) 1) (fun a17 => Option.bind (f_X1_begin K L fu a17 (mm_R M (32 * 11 + 0) B) M) (fun x19 => f_X11_moves_107 K L fu B fu w1 w2 (nI f) w4 x5 (0 : Int32) (0 : Int32) x19)))))) else Option.bind (f_X11_refuse K L B x7 M) (fun x23 => some (x23.1, x23.2)))) (G2 := fun m => Option.bind (f_X12_whyAmong (B + 44) (nI f) w4) (fun x1 => f_X12_moves_34 K L fu (B + 44) w1 w2 (nI f) w4 x1 m)) e1 e2 ?_
    intro p b hh hv hk g
    subst hv
    obtain ⟨g1, g2, g3, g4, g5, g6, g7, g8, g9, g10, g11⟩ := id g
    obtain ⟨c, k1, k2, k3, k4⟩ := crowd_eq f1 w4
    obtain ⟨o1, o2, fr, sz, fr1, sz1, efr, esz⟩ := g11.2.2.1 1 (by decide) (by decide)
    have efr : mm_A M (B + 45) (3940 * p + 29) = nI fr := efr
    have tfr : (nI fr).toInt = fr := nI_toInt (by omega)
    have hfit := fits_eq (fu := fu) (way := 1) (fr := mm_A M (B + 45) (3940 * p + 29)) (n := w2) g9 g11.2.2.1 (by omega)
    rw [efr, tfr] at hfit
    have E1 : (Option.bind (f_X11_crowdFault (nI f) w4) (fun x7 => if x7 = 0 then Option.bind (rc K (some b) 9) (fun a9 => Option.bind (rc K (mm_R M (32 * 9 + 4) a9) 7) (fun a11 => Option.bind (f_X7_firstOf K L M a11 (1 : Int32)) (fun x13 => Option.bind (f_X7_fits K L fu M a11 (1 : Int32) x13 w2) (fun x15 => if x15 = 0 then Option.bind (f_X11_refuse K L B (-12 : Int32) M) (fun x21 => some (x21.1, x21.2)) else Option.bind (rc K (mm_R M (32 * 11 + 3) B) 1) (fun a17 => Option.bind (f_X1_begin K L fu a17 (mm_R M (32 * 11 + 0) B) M) (fun x19 => f_X11_moves_107 K L fu B fu (nI p) w2 (nI f) w4 (some b) (0 : Int32) (0 : Int32) x19)))))) else Option.bind (f_X11_refuse K L B x7 M) (fun x23 => some (x23.1, x23.2)))) = if c = 0 then (if (0 ≤ w2.toInt ∧ w2.toInt + fr ≤ 10000) ∧ ov (fun w => mm_A M (B + 45) (3940 * p + 28 + w)) (fun w => mm_A M (B + 45) (3940 * p + 36 + w)) 1 (nI fr) w2 7 = 0 then Option.bind (rc K (mm_R M (32 * 11 + 3) B) 1) (fun a17 => Option.bind (f_X1_begin K L fu a17 (mm_R M (32 * 11 + 0) B) M) (fun x19 => f_X11_moves_107 K L fu B fu (nI p) w2 (nI f) w4 (some b) (0 : Int32) (0 : Int32) x19)) else f_X11_refuse K L B (-(nI 12)) M) else f_X11_refuse K L B c M := by
      refine (sb k1 _).trans ?_
      rw [bind_eta]
      by_cases h0 : c = 0
      · rw [if_pos h0, if_pos h0]
        refine (rcb g9.1.1 _).trans ?_
        rw [show mm_R M (32 * 9 + 4) b = some (b + 6) from g9.1.2.2.1]
        refine (rcb g9.2.2.1.1 _).trans ?_
        refine (sb (show f_X7_firstOf K L M (b + 6) 1 = some (nI fr) from (firstOf_eq g9 (w := 1) (by decide) (by decide)).trans (by rw [o1]; exact congrArg some efr)) _).trans ?_
        refine (sb hfit _).trans ?_
        rw [if10]
        by_cases q : (0 ≤ w2.toInt ∧ w2.toInt + fr ≤ 10000) ∧ ov (fun w => mm_A M (B + 45) (3940 * p + 28 + w)) (fun w => mm_A M (B + 45) (3940 * p + 36 + w)) 1 (nI fr) w2 7 = 0
        · rw [if_pos q, if_pos ⟨by omega, q.1, q.2⟩]
        · rw [if_neg q, if_neg (fun x => q ⟨x.2.1, x.2.2⟩)]
          rfl
      · rw [if_neg h0, if_neg h0]
        exact bind_eta _
    have E2 : ∀ m, sameS B M m → (Option.bind (f_X12_whyAmong (B + 44) (nI f) w4) (fun x1 => f_X12_moves_34 K L fu (B + 44) (nI p) w2 (nI f) w4 x1 m)) = if c = 0 then (if (0 ≤ w2.toInt ∧ w2.toInt + fr ≤ 10000) ∧ ov (fun w => mm_A M (B + 45) (3940 * p + 28 + w)) (fun w => mm_A M (B + 45) (3940 * p + 36 + w)) 1 (nI fr) w2 7 = 0 then f_X12_moves_87 K L fu (B + 44) (nI p) w2 (nI f) w4 0 m else f_X12_no K L (B + 44) (-(nI 12)) m) else f_X12_no K L (B + 44) c m := by
      intro m hm
      have hms : MS B K L (mm_R m) := by rw [hm.1]; exact iv.1.1
      have o29 : f_X12_of K L m (B + 44) (nI p) 29 = some (nI fr) := by rw [m_of (c := 29) hms g1 29 rfl (by decide), hm.2, efr]
      have n12 : f_X12_moves_83 K L fu (B + 44) (nI p) w2 (nI f) w4 m = f_X12_no K L (B + 44) (-(nI 12)) m := by
        unfold f_X12_moves_83 f_X12_moves_87
        rw [if_neg (by decide)]
        exact bind_eta _
      refine (sb (k2 _) _).trans ?_
      unfold f_X12_moves_34
      by_cases h0 : c = 0
      · rw [if_pos h0, if_pos h0, n12, isIn_l w2 (A := 0) (C := 10000) (a := 0) (c := 10000) rfl rfl]
        refine (sb rfl _).trans ?_
        rw [if10]
        by_cases h1 : 0 ≤ w2.toInt ∧ w2.toInt ≤ 10000
        · rw [if_pos h1]
          obtain ⟨v, v1, rfl⟩ := n_of (v := w2) (m := 10000) h1.1 h1.2 (by decide)
          have tv : (nI v).toInt = v := nI_toInt (by omega)
          have e10 : (10000 : Int32) < nI fr + nI v ↔ 10000 < fr + v := by rw [nI_add, t_lt, nI_toInt (by omega), show (10000 : Int32).toInt = 10000 from rfl]; omega
          refine (sb o29 _).trans ?_
          by_cases h2 : 10000 < fr + v
          · rw [if_pos (e10.mpr h2), if_neg (fun x => by have := x.1.2; omega)]
          · rw [if_neg (fun x => h2 (e10.mp x))]
            refine (sb o29 _).trans ?_
            refine (sb (goesOver_m (way := 1) (fr := nI fr) (n := nI v) hms g1 hm.2 (by omega)) _).trans ?_
            by_cases h3 : ov (fun w => mm_A M (B + 45) (3940 * p + 28 + w)) (fun w => mm_A M (B + 45) (3940 * p + 36 + w)) 1 (nI fr) (nI v) 7 = 0
            · rw [if_pos h3, if_pos ⟨by omega, h3⟩, h0]
            · rw [if_neg h3, if_neg (fun x => h3 x.2)]
        · rw [if_neg h1, if_neg (fun x => h1 (by omega))]
      · rw [if_neg h0, if_neg h0]
        unfold f_X12_moves_87
        rw [if_neg h0]
        exact bind_eta _
    rcases k3 with h0 | h0 | h0
    · by_cases q : (0 ≤ w2.toInt ∧ w2.toInt + fr ≤ 10000) ∧ ov (fun w => mm_A M (B + 45) (3940 * p + 28 + w)) (fun w => mm_A M (B + 45) (3940 * p + 36 + w)) 1 (nI fr) w2 7 = 0
      · right
        obtain ⟨m, m1, m2, rfl, m4⟩ := k4 h0
        have hi := isw_ok g
        obtain ⟨rk, h16, hr⟩ := rk_w (WF_iv iv) iv.2.2.2.1
        have hr3 : mm_R M (32 * 11 + 3) B = some (B + 37) := iv.1.2.1.1.2.2.2.1
        have hr0 : mm_R M (32 * 11 + 0) B = some (B + 1) := iv.1.2.1.1.2.1
        obtain ⟨N, sv, b1, b2, b3, b4, b5, b6⟩ := begin_c (fu := fu) iv rfl (by omega)
        obtain ⟨N1, a1, a2⟩ := moves_c (fu := fu) (z := w2) iv g h16 hr hfu m2 m4 m fu 0 N b2 ⟨sv, b4, b5, b6⟩ (by omega) (by omega)
        have e392 : mm_I N1 392 (B + 44) = mm_I M 392 (B + 44) := a2.2.2.2.2.1 392 _ (by omega) (by omega)
        obtain ⟨N2, d1, d2⟩ := moves_m (fu := fu) (z := w2) (v6 := mm_I M 392 (B + 44)) (v7 := mm_A M (B + 45) (3940 * p + 37)) iv h16 hr hfu g1 hi m2 m4 rfl rfl m fu 0 (ms_I N1 392 (B + 44) (nI f)) ((sc2.of a2).num _) (by rw [I_I, if_pos ⟨rfl, rfl⟩]; rfl) (by omega) (by omega)
        refine ⟨(moc B M f p w2 m, N1), (moc B M f p w2 m, N2), ?_, a2.same, ?_, rfl, iv_scr iv d2⟩
        · refine E1.trans ?_
          rw [if_pos h0, if_pos q, hr3, hr0]
          refine (rcb iv.1.2.1.2.2.2.1.1 _).trans ?_
          refine (sb b1 _).trans ?_
          exact a1
        · refine (E2 _ a2.same).trans ?_
          rw [if_pos h0, if_pos q]
          unfold f_X12_moves_87
          rw [if_pos rfl, bn_eq, show mm_I N1 (32 * 12 + 8) (B + 44) = mm_I M 392 (B + 44) from e392]
          refine (sb (show f_X12_of K L N1 (B + 44) (nI p) 37 = some (mm_A M (B + 45) (3940 * p + 37)) by rw [m_of (c := 37) (a2.MS iv.1.1) g1 37 rfl (by decide), a2.S]) _).trans ?_
          rw [bn_eq]
          exact d1
      · refine Or.inl ⟨12, by decide, by decide, ?_, fun m hm => ?_⟩
        · refine E1.trans ?_
          rw [if_pos h0, if_neg q]
        · refine (E2 m hm).trans ?_
          rw [if_pos h0, if_neg q]
    · refine Or.inl ⟨4, by decide, by decide, ?_, fun m hm => ?_⟩
      · refine E1.trans ?_
        rw [h0, if_neg (by decide)]
      · refine (E2 m hm).trans ?_
        rw [h0, if_neg (by decide)]
    · refine Or.inl ⟨12, by decide, by decide, ?_, fun m hm => ?_⟩
      · refine E1.trans ?_
        rw [h0, if_neg (by decide)]
      · refine (E2 m hm).trans ?_
        rw [h0, if_neg (by decide)]
  · refine fin_no iv 3 (by decide) (by decide) (F2 := fun m => f_X12_moves K L fu (B + 44) w1 w2 w3 w4 m) ?_ ?_
    · unfold f_X11_moves
      rw [within_eq, show (999999 : Int32).toInt = 999999 from rfl, if_neg hc]
      exact bind_eta _
    · show f_X12_moves K L fu (B + 44) w1 w2 w3 w4 (bump M (B + 43) 3) = _
      unfold f_X12_moves
      rw [isNumber_eq, if_neg hc]
      show f_X12_moves_18 K L fu (B + 44) w1 w2 w3 w4 (-3) (bump M (B + 43) 3) = _
      unfold f_X12_moves_18 f_X12_moves_34 f_X12_moves_87
      rw [if_neg (by decide), if_neg (by decide), if_neg (by decide)]
      exact bind_eta _
