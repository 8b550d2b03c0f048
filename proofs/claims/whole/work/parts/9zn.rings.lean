/-! rings: what a search leaves as it was -/
section IR
variable {B n : Nat} {K L : Nat → Nat} {M M' : Mm}
theorem scK.e (h : scK B M M') {a : Nat} (h37 : a ≠ B + 37) (h38 : a < B + 38 ∨ B + 54 < a) : eqAt M M' a :=
  ⟨fun x => h.2.2.2.2.1 x a (fun q => by omega) (fun q => h37 q.1) (fun q => by omega), fun x => h.2.2.2.2.2 x a (by omega), fun x => by rw [h.1], h.2.2.2.1 a (by omega) (by omega) (by omega) (by omega) (by omega) (by omega) (by omega) (by omega) (by omega), by rw [h.2.2.1], by rw [h.2.1]⟩
theorem iv_ring (iv : Iv B n K L M) (h : scK B M M') (hz : ∃ z : Nat, z ≤ 16 ∧ mm_I M' 163 (B + 39) = nI z ∧ mm_I M' 391 (B + 44) = nI z ∧ ∀ i, i < z → mm_A M' (B + 42) i = mm_A M' (B + 50) i ∧ ∃ v : Nat, v < 16 ∧ mm_A M' (B + 50) i = nI v) : Iv B n K L M' := by
  obtain ⟨g, c1, c2, c3, c4, c5, c6, c7, c8⟩ := id iv
  have hA := h.2.2.2.1
  have hI := h.2.2.2.2.1
  have h46 : mm_A M' (B + 46) = mm_A M (B + 46) := hA (B + 46) (by omega) (by omega) (by omega) (by omega) (by omega) (by omega) (by omega) (by omega) (by omega)
  have hp := Cd.places g (fun a ha => h.e (a := a) (by omega) (by omega)) h.S h46 (by rw [h.2.2.1]) (by rw [h.2.2.1]) ⟨c1, c2⟩
  refine ⟨by rw [h.1, h.2.1]; exact g, hp.1, hp.2, by rw [h.S]; exact c3, by rw [h46]; exact c4, ?_, ?_, ?_, hz⟩
  · intro i hi
    rw [hA (B + 43) (by omega) (by omega) (by omega) (by omega) (by omega) (by omega) (by omega) (by omega) (by omega), hA (B + 49) (by omega) (by omega) (by omega) (by omega) (by omega) (by omega) (by omega) (by omega) (by omega)]
    exact c5 i hi
  · rw [hI 32 (B + 37) (by omega) (by omega) (by omega), hI 33 (B + 37) (by omega) (by omega) (by omega), hI 34 (B + 37) (by omega) (by omega) (by omega), hI 35 (B + 37) (by omega) (by omega) (by omega), hI 392 (B + 44) (by omega) (by omega) (by omega), hI 393 (B + 44) (by omega) (by omega) (by omega), hI 394 (B + 44) (by omega) (by omega) (by omega), hI 395 (B + 44) (by omega) (by omega) (by omega)]
    exact c6
  · rw [hI 354 B (by omega) (by omega) (by omega), hI 388 (B + 44) (by omega) (by omega) (by omega)]
    exact c7
theorem iv_upd2 {p b hh : Nat} (iv : Iv B n K L M) (g : Got B K L M p b hh) {M' : Mm} {S' : Nat → Int32} (hR : mm_R M' = mm_R M) (hC : mm_C M' = mm_C M) (hA : ∀ a, (a < b ∨ b + 30 ≤ a) → a ≠ B + 45 → eqAt M M' a) (hS' : mm_A M' (B + 45) = S')
    (hS : ∀ i, (i < 3940 * p ∨ 3940 * p + 3940 ≤ i) → S' i = mm_A M (B + 45) i) (h0 : S' (3940 * p) = mm_A M (B + 45) (3940 * p)) (nr : noRing S') (ok : rOk S' (3940 * p)) (r : rAll M' b S' (3940 * p)) : Iv B n K L M' := by
  obtain ⟨sg, c1, c2, c3, c4, c5, c6, c7, c8⟩ := id iv
  obtain ⟨g1, g2, g3, g4, g5, g6, g7, g8, g9, g10, g11⟩ := id g
  have hq : mm_R M 131 (qA B p) = some b := by rw [qA_lo g1]; exact g6
  have hE : ∀ a, a < B + 55 → a ≠ B + 45 → eqAt M M' a := fun a h1 h2 => hA a (by omega) h2
  have hbl : ∀ q b', q < 32 → q ≠ p → mm_R M 131 (qA B q) = some b' → ∀ c, b' ≤ c → c < b' + 30 → eqAt M M' c := by
    intro q b' h1 h2 h3 c h4 h5
    have := sg.apart (by omega) h1 hq h3 (Ne.symm h2)
    have h6 := (sg.blk h1 h3).1
    exact hA c (by omega) (by omega)
  refine ⟨by rw [hR, hC]; exact sg, ?_, ?_, by rw [hS']; exact nr, ?_, ?_, ?_, ?_, ?_⟩
  · intro p' hp'
    rw [hS', (hE (B + 47) (by omega) (by omega)).2.2.2.2.1]
    by_cases he : p' = p
    · subst he
      have e3 := hE (B + 3 + p') (by omega) (by omega)
      refine ⟨hh, by omega, h0.trans g4, fun e => by omega, fun e => by omega, fun _ _ => ⟨by rw [e3.1]; exact g7, ok, b, by rw [hR]; exact g5, by rw [hR]; exact g6, r⟩⟩
    · refine (c1 p' hp').fr (hE _ (by omega) (by omega)) (fun b' hb' => hbl p' b' (by omega) he (by rw [qA_lo hp']; exact hb')) (fun k hk => hS _ ?_) rfl
      omega
  · intro p' hp'
    rw [(hE (B + 46) (by omega) (by omega)).2.2.2.1, (hE (B + 48) (by omega) (by omega)).2.2.2.2.1]
    exact (c2 p' hp').fr (hE _ (by omega) (by omega)) (fun b' hb' => hbl (16 + p') b' (by omega) (by omega) (by rw [qA_hi hp']; exact hb')) (fun _ _ => rfl) rfl
  · rw [(hE (B + 46) (by omega) (by omega)).2.2.2.1]
    exact c4
  · intro i hi
    rw [(hE (B + 43) (by omega) (by omega)).2.2.2.1, (hE (B + 49) (by omega) (by omega)).2.2.2.1]
    exact c5 i hi
  · simp only [(hE (B + 37) (by omega) (by omega)).1, (hE (B + 44) (by omega) (by omega)).1]
    exact c6
  · simp only [(hE B (by omega) (by omega)).1, (hE (B + 44) (by omega) (by omega)).1]
    exact c7
  · obtain ⟨z, z1, z2, z3, z4⟩ := c8
    refine ⟨z, z1, by rw [(hE (B + 39) (by omega) (by omega)).1]; exact z2, by rw [(hE (B + 44) (by omega) (by omega)).1]; exact z3, fun i hi => ?_⟩
    rw [(hE (B + 42) (by omega) (by omega)).2.2.2.1, (hE (B + 50) (by omega) (by omega)).2.2.2.1]
    exact z4 i hi
theorem Cw_upd {p b hh : Nat} (iv : Iv B n K L M) (g : Got B K L M p b hh) {M' : Mm} {S' : Nat → Int32} (hR : mm_R M' = mm_R M) (hC : mm_C M' = mm_C M) (hA : ∀ a, (a < b ∨ b + 30 ≤ a) → eqAt M M' a)
    (hS : ∀ i, (i < 3940 * p ∨ 3940 * p + 3940 ≤ i) → S' i = mm_A M (B + 45) i) (h0 : S' (3940 * p) = mm_A M (B + 45) (3940 * p)) (ok : rOk S' (3940 * p)) (r : rAll M' b S' (3940 * p)) : Cw B n K L S' M' := by
  obtain ⟨sg, c1, -⟩ := id iv
  obtain ⟨g1, g2, g3, g4, g5, g6, g7, g8, g9, g10, g11⟩ := id g
  have hq : mm_R M 131 (qA B p) = some b := by rw [qA_lo g1]; exact g6
  refine ⟨by rw [hR, hC]; exact sg, fun p' hp' => ⟨mm_B M (B + 47) p', ?_⟩⟩
  by_cases he : p' = p
  · subst he
    have e3 := hA (B + 3 + p') (by omega)
    exact ⟨hh, by omega, h0.trans g4, fun e => by omega, fun e => by omega, fun _ _ => ⟨by rw [e3.1]; exact g7, ok, b, by rw [hR]; exact g5, by rw [hR]; exact g6, r⟩⟩
  · refine (c1 p' hp').fr (hA _ (by omega)) (fun b' hb' c h4 h5 => ?_) (fun k hk => hS _ (by omega)) rfl
    have hb2 : mm_R M 131 (qA B p') = some b' := by rw [qA_lo hp']; exact hb'
    have := sg.apart (by omega) (show p' < 32 by omega) hq hb2 (Ne.symm he)
    exact hA c (by omega)
theorem WF_cw {S : Nat → Int32} {N : Mm} (c : Cw B n K L S N) : WF S := by
  intro p hp
  obtain ⟨nt, hh, i1, i2, -, -, i5⟩ := c.2 p hp
  refine ⟨hh, i1, i2, fun h1 h2 => ?_⟩
  obtain ⟨-, j2, b, -, -, j5⟩ := i5 h1 h2
  obtain ⟨k, k1, k2, -⟩ := j5.2.1
  exact ⟨j2, k, k1, k2⟩
theorem noRing_of {S : Nat → Int32} (h : ∀ g, g < 16 → ¬ Cy (asksS S) g) : noRing S := rank_of (fun g n hg h1 h2 hP => h g hg ⟨n, h1, h2, hP⟩)
theorem asks_cg {S S' : Nat → Int32} (h1 : ∀ t, S' (3940 * t) = S (3940 * t)) (h2 : ∀ t, S' (3940 * t + 44) = S (3940 * t + 44)) (h3 : ∀ t, S' (3940 * t + 46) = S (3940 * t + 46)) : asksS S' = asksS S := by
  funext p q
  unfold asksS
  simp only [h1, h2, h3]
theorem scr_A {X Y : Mm} {c : Nat} {g : Nat → Int32} (h : scr B X Y) : scr B (ms_A X c g) (ms_A Y c g) := by
  refine ⟨h.1, h.2.1, h.2.2.1, fun a h1 h2 h3 h4 h5 h6 h7 => ?_, h.2.2.2.2.1, h.2.2.2.2.2⟩
  rw [A_A, A_A]
  by_cases e : a = c
  · rw [if_pos e, if_pos e]
  · rw [if_neg e, if_neg e]; exact h.2.2.2.1 a h1 h2 h3 h4 h5 h6 h7
theorem scr_I {X Y : Mm} {x c : Nat} {v : Int32} (h : scr B X Y) : scr B (ms_I X x c v) (ms_I Y x c v) := by
  refine ⟨h.1, h.2.1, h.2.2.1, h.2.2.2.1, fun y a h1 h2 => ?_, h.2.2.2.2.2⟩
  rw [I_I, I_I]
  by_cases e : y = x ∧ a = c
  · rw [if_pos e, if_pos e]
  · rw [if_neg e, if_neg e]; exact h.2.2.2.2.1 y a h1 h2
theorem scr_mp {X Y : Mm} {i : Nat} {v : Int32} (h : scr B X Y) : scr B (mp X B i v) (mp Y B i v) := by
  unfold mp
  rw [h.S]
  exact scr_A h
theorem scK_A {X Y : Mm} {c : Nat} {g : Nat → Int32} (h : scK B X Y) : scK B (ms_A X c g) (ms_A Y c g) := by
  refine ⟨h.1, h.2.1, h.2.2.1, fun a h1 h2 h3 h4 h5 h6 h7 h8 h9 => ?_, h.2.2.2.2.1, h.2.2.2.2.2⟩
  rw [A_A, A_A]
  by_cases e : a = c
  · rw [if_pos e, if_pos e]
  · rw [if_neg e, if_neg e]; exact h.2.2.2.1 a h1 h2 h3 h4 h5 h6 h7 h8 h9
theorem scK_I {X Y : Mm} {x c : Nat} {v : Int32} (h : scK B X Y) : scK B (ms_I X x c v) (ms_I Y x c v) := by
  refine ⟨h.1, h.2.1, h.2.2.1, h.2.2.2.1, fun y a h1 h2 h3 => ?_, h.2.2.2.2.2⟩
  rw [I_I, I_I]
  by_cases e : y = x ∧ a = c
  · rw [if_pos e, if_pos e]
  · rw [if_neg e, if_neg e]; exact h.2.2.2.2.1 y a h1 h2 h3
theorem scK_mp {X Y : Mm} {i : Nat} {v : Int32} (h : scK B X Y) : scK B (mp X B i v) (mp Y B i v) := by
  unfold mp
  rw [h.S]
  exact scK_A h
theorem scK_bump {X Y : Mm} {c k : Nat} (h : scK B X Y) (hc : c = B + 43 ∨ c = B + 49) : scK B (bump X c k) (bump Y c k) := by
  unfold bump
  rw [h.2.2.2.1 c (by omega) (by omega) (by omega) (by omega) (by omega) (by omega) (by omega) (by omega) (by omega)]
  exact scK_A h
theorem back_1 (M : Mm) (x a : Nat) (u : Int32) : ms_I (ms_I M x a u) x a (mm_I M x a) = M := by
  obtain ⟨m1, m2, m3, m4, m5, m6⟩ := M
  have e : mm_u2 (mm_u2 m1 x a u) x a (m1 x a) = m1 := by
    funext z c
    simp only [mm_u2]
    by_cases h2 : z = x ∧ c = a
    · rw [if_pos h2, h2.1, h2.2]
    · rw [if_neg h2, if_neg h2]
  simp only [ms_I, mm_I, e]
theorem back_2 (M : Mm) (x y a : Nat) (u w : Int32) : ms_I (ms_I (ms_I (ms_I M x a u) y a w) x a (mm_I M x a)) y a (mm_I M y a) = M := by
  obtain ⟨m1, m2, m3, m4, m5, m6⟩ := M
  have e : mm_u2 (mm_u2 (mm_u2 (mm_u2 m1 x a u) y a w) x a (m1 x a)) y a (m1 y a) = m1 := by
    funext z c
    simp only [mm_u2]
    by_cases h1 : z = y ∧ c = a
    · rw [if_pos h1, h1.1, h1.2]
    · rw [if_neg h1]
      by_cases h2 : z = x ∧ c = a
      · rw [if_pos h2, h2.1, h2.2]
      · rw [if_neg h2, if_neg h1, if_neg h2]
  simp only [ms_I, mm_I, e]
theorem back_m (M : Mm) (B i : Nat) (v : Int32) : mp (mp M B i v) B i (mm_A M (B + 45) i) = M := by
  have e : upd (upd (mm_A M (B + 45)) i v) i (mm_A M (B + 45) i) = mm_A M (B + 45) := by
    funext j
    rw [upd_eq]
    by_cases h : j = i
    · rw [if_pos h, h]
    · rw [if_neg h, upd_eq, if_neg h]
  unfold mp
  rw [ms_A_A, A_A, if_pos rfl, e, ms_A_self]
/-- both found the same ring, and refuse by it -/
theorem ring_end {D : Nat} {w : Nat → Nat} {M3 Y3 : Mm} (iv : Iv B n K L M) (h1 : scK B M M3) (h2 : scK B (bump M3 (B + 43) 7) Y3) (hk : kpt B (bump M3 (B + 43) 7) Y3) (hD : D ≤ 16) (hw : ∀ i, i < D → w i < 16) (a1 : mm_I M3 163 (B + 39) = nI D) (a2 : ∀ i, i < D → mm_A M3 (B + 42) i = nI (w i)) (b1 : mm_I Y3 391 (B + 44) = nI D) (b2 : ∀ i, i < D → mm_A Y3 (B + 50) i = nI (w i)) : Iv B n K L (bump Y3 (B + 49) 7) := by
  refine iv_ring (iv_bump iv 7) (scK_bump ((scK_bump h1 (Or.inl rfl)).tr h2) (Or.inr rfl)) ⟨D, hD, hk.2.trans a1, b1, fun i hi => ?_⟩
  have e1 : mm_A (bump Y3 (B + 49) 7) (B + 42) i = nI (w i) := by
    unfold bump at hk ⊢
    rw [A_A, if_neg (by omega), hk.1, A_A, if_neg (by omega)]
    exact a2 i hi
  have e2 : mm_A (bump Y3 (B + 49) 7) (B + 50) i = nI (w i) := by
    unfold bump
    rw [A_A, if_neg (by omega)]
    exact b2 i hi
  exact ⟨e1.trans e2.symm, w i, hw i hi, e2⟩
end IR
