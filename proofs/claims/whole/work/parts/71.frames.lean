/-! frames: what a write elsewhere leaves -/
def eqAt (M M' : Mm) (a : Nat) : Prop := (∀ x, mm_I M' x a = mm_I M x a) ∧ (∀ x, mm_J M' x a = mm_J M x a) ∧ (∀ x, mm_R M' x a = mm_R M x a) ∧ mm_A M' a = mm_A M a ∧ mm_B M' a = mm_B M a ∧ mm_C M' a = mm_C M a
theorem eqAt.rf (M : Mm) (a : Nat) : eqAt M M a := ⟨fun _ => rfl, fun _ => rfl, fun _ => rfl, rfl, rfl, rfl⟩
theorem eqAt.tr {M M' M'' : Mm} {a : Nat} (h : eqAt M M' a) (h' : eqAt M' M'' a) : eqAt M M'' a := ⟨fun x => (h'.1 x).trans (h.1 x), fun x => (h'.2.1 x).trans (h.2.1 x), fun x => (h'.2.2.1 x).trans (h.2.2.1 x), h'.2.2.2.1.trans h.2.2.2.1, h'.2.2.2.2.1.trans h.2.2.2.2.1, h'.2.2.2.2.2.trans h.2.2.2.2.2⟩
theorem eqAt.I {M : Mm} {x a c : Nat} {v : Int32} (h : c ≠ a) : eqAt M (ms_I M x a v) c := ⟨fun y => by simp [I_I, h], fun _ => rfl, fun _ => rfl, rfl, rfl, rfl⟩
theorem eqAt.J {M : Mm} {x a c : Nat} {v : Int64} (h : c ≠ a) : eqAt M (ms_J M x a v) c := ⟨fun _ => rfl, fun y => by simp [J_J, h], fun _ => rfl, rfl, rfl, rfl⟩
theorem eqAt.R {M : Mm} {x a c : Nat} {v : Option Nat} (h : c ≠ a) : eqAt M (ms_R M x a v) c := ⟨fun _ => rfl, fun _ => rfl, fun y => by simp [R_R, h], rfl, rfl, rfl⟩
theorem eqAt.A {M : Mm} {a c : Nat} {g : Nat → Int32} (h : c ≠ a) : eqAt M (ms_A M a g) c := ⟨fun _ => rfl, fun _ => rfl, fun _ => rfl, by simp [A_A, h], rfl, rfl⟩
theorem eqAt.B {M : Mm} {a c : Nat} {g : Nat → Int64} (h : c ≠ a) : eqAt M (ms_B M a g) c := ⟨fun _ => rfl, fun _ => rfl, fun _ => rfl, rfl, by simp [B_B, h], rfl⟩
theorem eqAt.C {M : Mm} {a c : Nat} {g : Nat → Option Nat} (h : c ≠ a) : eqAt M (ms_C M a g) c := ⟨fun _ => rfl, fun _ => rfl, fun _ => rfl, rfl, rfl, by simp [C_C, h]⟩
section FR
variable {M M' : Mm} {b o : Nat} {S S' : Nat → Int32}
theorem rSw.fr (h : eqAt M M' b) (hS : ∀ k, (k ≤ 2 ∨ (44 ≤ k ∧ k ≤ 47)) → S' (o + k) = S (o + k)) (r : rSw M b S o) : rSw M' b S' o := by
  have e0 : S' o = S o := hS 0 (by omega)
  unfold rSw
  rw [e0, hS 1 (by omega), hS 2 (by omega), hS 44 (by omega), hS 45 (by omega), hS 46 (by omega), hS 47 (by omega), h.1, h.1, h.1, h.1, h.1, h.1, h.1]
  exact r
theorem rRu.fr (h : ∀ c, b + 1 ≤ c → c ≤ b + 5 → eqAt M M' c) (hS : ∀ k, 3 ≤ k → k ≤ 27 → S' (o + k) = S (o + k)) (r : rRu M b S o) : rRu M' b S' o := by
  obtain ⟨k, h1, h2, h3, h4⟩ := r
  refine ⟨k, h1, by rw [hS 3 (by omega) (by omega)]; exact h2, by rw [(h (b + 1) (by omega) (by omega)).1]; exact h3, fun i hi => ?_⟩
  have e4 := hS (4 + 4 * i) (by omega) (by omega)
  have e5 := hS (5 + 4 * i) (by omega) (by omega)
  have e6 := hS (6 + 4 * i) (by omega) (by omega)
  have e7 := hS (7 + 4 * i) (by omega) (by omega)
  rw [← Nat.add_assoc] at e4 e5 e6 e7
  rw [e4, e5, e6, e7, (h (b + 2) (by omega) (by omega)).2.2.2.1, (h (b + 3) (by omega) (by omega)).2.2.2.1, (h (b + 4) (by omega) (by omega)).2.2.2.1, (h (b + 5) (by omega) (by omega)).2.2.2.1]
  exact h4 i hi
theorem rSh.fr (h : ∀ c, b + 7 ≤ c → c ≤ b + 8 → eqAt M M' c) (hS : ∀ k, 29 ≤ k → k ≤ 43 → S' (o + k) = S (o + k)) (r : rSh M b S o) : rSh M' b S' o := by
  intro w h1 h2
  have e1 := hS (28 + w) (by omega) (by omega)
  have e2 := hS (36 + w) (by omega) (by omega)
  rw [← Nat.add_assoc] at e1 e2
  rw [e1, e2, (h (b + 7) (by omega) (by omega)).2.2.2.1, (h (b + 8) (by omega) (by omega)).2.2.2.1]
  exact r w h1 h2
theorem rLa.fr (h : ∀ c, b + 9 ≤ c → c ≤ b + 10 → eqAt M M' c) (hS : ∀ k, 48 ≤ k → k ≤ 69 → S' (o + k) = S (o + k)) (r : rLa M b S o) : rLa M' b S' o := by
  obtain ⟨k, z, h1, h2, h3, h4, h5, h6, h7, h8⟩ := r
  refine ⟨k, z, h1, h2, h3, by rw [hS 48 (by omega) (by omega)]; exact h4, by rw [hS 69 (by omega) (by omega)]; exact h5, by rw [(h (b + 9) (by omega) (by omega)).1]; exact h6, by rw [(h (b + 9) (by omega) (by omega)).1]; exact h7, fun i hi => ?_⟩
  have e4 := hS (49 + i) (by omega) (by omega)
  rw [← Nat.add_assoc] at e4
  rw [e4, (h (b + 10) (by omega) (by omega)).2.2.2.1]
  exact h8 i hi
theorem rBu.fr (h : eqAt M M' (b + 11)) (hS : ∀ k, 70 ≤ k → k ≤ 76 → S' (o + k) = S (o + k)) (r : rBu M b S o) : rBu M' b S' o := by
  unfold rBu
  rw [hS 70 (by omega) (by omega), hS 71 (by omega) (by omega), hS 72 (by omega) (by omega), hS 73 (by omega) (by omega), hS 74 (by omega) (by omega), hS 75 (by omega) (by omega), hS 76 (by omega) (by omega), h.1, h.1, h.1, h.1, h.1, h.1, h.1]
  exact r
theorem rTr.fr (h : eqAt M M' (b + 12)) (hS : ∀ k, 77 ≤ k → k ≤ 87 → S' (o + k) = S (o + k)) (r : rTr M b S o) : rTr M' b S' o := by
  refine ⟨fun k hk => ?_, ?_⟩
  · have e := hS (77 + k) (by omega) (by omega)
    rw [← Nat.add_assoc] at e
    rw [e, h.1]
    exact r.1 k hk
  · rw [hS 77 (by omega) (by omega), hS 78 (by omega) (by omega), hS 79 (by omega) (by omega), hS 80 (by omega) (by omega), hS 82 (by omega) (by omega)]
    exact r.2
theorem rCt.fr {w : Nat} (h : ∀ c, b + 14 + 4 * w ≤ c → c ≤ b + 17 + 4 * w → eqAt M M' c) (hS : ∀ k, (k = 90 + w ∨ (100 + 960 * w ≤ k ∧ k < 1060 + 960 * w)) → S' (o + k) = S (o + k)) (r : rCt M b S o w) : rCt M' b S' o w := by
  obtain ⟨h1, h2, e, h3, h4, h5⟩ := r
  have e90 := hS (90 + w) (by omega)
  rw [← Nat.add_assoc] at e90
  refine ⟨by rw [(h (b + 14 + 4 * w) (by omega) (by omega)).1, e90]; exact h1, by rw [e90]; exact h2, e, h3, by rw [(h (b + 14 + 4 * w) (by omega) (by omega)).1]; exact h4, fun m hm => ?_⟩
  have e0 := hS (100 + 4 * (240 * w + m)) (by omega)
  have e1 := hS (101 + 4 * (240 * w + m)) (by omega)
  have e2 := hS (102 + 4 * (240 * w + m)) (by omega)
  have e3 := hS (103 + 4 * (240 * w + m)) (by omega)
  rw [← Nat.add_assoc] at e0 e1 e2 e3
  rw [e0, e1, e2, e3, (h (b + 15 + 4 * w) (by omega) (by omega)).2.2.2.1, (h (b + 16 + 4 * w) (by omega) (by omega)).2.2.2.1, (h (b + 17 + 4 * w) (by omega) (by omega)).2.2.2.1]
  exact h5 m hm
theorem rAll.fr (h : ∀ c, b ≤ c → c < b + 30 → eqAt M M' c) (hS : ∀ k, k < 3940 → S' (o + k) = S (o + k)) (r : rAll M b S o) : rAll M' b S' o := by
  obtain ⟨r1, r2, r3, r4, r5, r6, r7, r8, r9, r10⟩ := r
  exact ⟨r1.fr (h b (by omega) (by omega)) (fun k hk => hS k (by omega)), r2.fr (fun c _ _ => h c (by omega) (by omega)) (fun k _ _ => hS k (by omega)), r3.fr (fun c _ _ => h c (by omega) (by omega)) (fun k _ _ => hS k (by omega)), r4.fr (fun c _ _ => h c (by omega) (by omega)) (fun k _ _ => hS k (by omega)), r5.fr (h _ (by omega) (by omega)) (fun k _ _ => hS k (by omega)), r6.fr (h _ (by omega) (by omega)) (fun k _ _ => hS k (by omega)), r7.fr (fun c _ _ => h c (by omega) (by omega)) (fun k hk => hS k (by omega)), r8.fr (fun c _ _ => h c (by omega) (by omega)) (fun k hk => hS k (by omega)), r9.fr (fun c _ _ => h c (by omega) (by omega)) (fun k hk => hS k (by omega)), r10.fr (fun c _ _ => h c (by omega) (by omega)) (fun k hk => hS k (by omega))⟩
theorem rOk.fr (hS : ∀ k, k < 3940 → S' (o + k) = S (o + k)) (r : rOk S o) : rOk S' o := by
  have h0 : S' o = S o := hS 0 (by omega)
  unfold rOk
  rw [h0, hS 1 (by omega), hS 2 (by omega), hS 44 (by omega), hS 46 (by omega), hS 47 (by omega), hS 69 (by omega)]
  exact r
theorem PR.fr {a : Nat} {nt nt' : Int64} (h : eqAt M M' a) (hb : ∀ b, mm_R M 131 a = some b → ∀ c, b ≤ c → c < b + 30 → eqAt M M' c) (hS : ∀ k, k < 3940 → S' (o + k) = S (o + k)) (hn : nt' = nt) (r : PR M a S o nt) : PR M' a S' o nt' := by
  obtain ⟨hh, h1, h2, h3, h4, h5⟩ := r
  subst hn
  have e0 : S' o = S o := hS 0 (by omega)
  refine ⟨hh, h1, e0.trans h2, fun e => ?_, fun e => ?_, fun e1 e2 => ?_⟩
  · rw [h.1, h.2.2.1]; exact h3 e
  · rw [h.1, h.2.1, h.2.2.1]; exact h4 e
  · obtain ⟨g1, g2, b, g3, g4, g5⟩ := h5 e1 e2
    exact ⟨by rw [h.1]; exact g1, g2.fr hS, b, by rw [h.2.2.1]; exact g3, by rw [h.2.2.1]; exact g4, g5.fr (hb b g4) hS⟩
end FR
theorem noRing.fr {S S' : Nat → Int32} (h : ∀ p, p < 16 → S' (3940 * p) = S (3940 * p) ∧ S' (3940 * p + 44) = S (3940 * p + 44) ∧ S' (3940 * p + 46) = S (3940 * p + 46)) (r : noRing S) : noRing S' := by
  obtain ⟨rk, h16, hr⟩ := r
  refine ⟨rk, h16, fun p q hp hq ha => hr p q hp hq ?_⟩
  rcases ha with ⟨h1, h2⟩ | ⟨t, ht, h1, h2, h3⟩
  · rw [(h p hp).1] at h1
    rw [(h p hp).2.1] at h2
    exact Or.inl ⟨h1, h2⟩
  · rw [(h t ht).1] at h1
    rw [(h t ht).2.1] at h3
    rw [(h t ht).2.2] at h2
    exact Or.inr ⟨t, ht, h1, h2, h3⟩
/-- a block's addresses lie behind the base -/
theorem Sg.blk {B n : Nat} {K L : Nat → Nat} {R C : Nat → Nat → Option Nat} (h : Sg B n K L R C) {q b : Nat} (hq : q < 32) (hb : R 131 (qA B q) = some b) : B + 55 ≤ b ∧ b + 30 ≤ B + n ∧ BS K L R C b := by
  obtain ⟨-, -, hn, j, h1, -⟩ := h
  obtain ⟨e1, e2, e3⟩ := h1 q b hq hb
  exact ⟨by omega, by omega, e3⟩
theorem Sg.apart {B n : Nat} {K L : Nat → Nat} {R C : Nat → Nat → Option Nat} (h : Sg B n K L R C) {q q' b b' : Nat} (hq : q < 32) (hq' : q' < 32) (hb : R 131 (qA B q) = some b) (hb' : R 131 (qA B q') = some b') (hne : q ≠ q') : b + 30 ≤ b' ∨ b' + 30 ≤ b := by
  obtain ⟨-, -, hn, j, h1, h2⟩ := h
  obtain ⟨e1, -, -⟩ := h1 q b hq hb
  obtain ⟨e2, -, -⟩ := h1 q' b' hq' hb'
  have : j q ≠ j q' := fun e => hne (h2 q q' b b' hq hq' hb hb' e)
  omega
theorem qA_lo {B p : Nat} (h : p < 16) : qA B p = B + 3 + p := by simp [qA, h]
theorem qA_hi {B p : Nat} (h : p < 16) : qA B (16 + p) = B + 21 + p := by
  unfold qA
  rw [if_neg (by omega)]
  omega
/-- all places at once: the write M' leaves places, blocks and the reference's rows as they were, but for the numbers of one shelf row -/
theorem Cd.places {B n : Nat} {K L : Nat → Nat} {M M' : Mm} (g : Sg B n K L (mm_R M) (mm_C M)) (h : ∀ a, (B + 3 ≤ a ∧ a < B + 19) ∨ (B + 21 ≤ a ∧ a < B + 37) ∨ B + 55 ≤ a → eqAt M M' a) (hS : mm_A M' (B + 45) = mm_A M (B + 45)) (hS2 : mm_A M' (B + 46) = mm_A M (B + 46)) (hN : mm_B M' (B + 47) = mm_B M (B + 47)) (hN2 : mm_B M' (B + 48) = mm_B M (B + 48)) (r : (∀ p, p < 16 → PR M (B + 3 + p) (mm_A M (B + 45)) (3940 * p) (mm_B M (B + 47) p)) ∧ (∀ p, p < 16 → PR M (B + 21 + p) (mm_A M (B + 46)) (3940 * p) (mm_B M (B + 48) p))) :
    (∀ p, p < 16 → PR M' (B + 3 + p) (mm_A M' (B + 45)) (3940 * p) (mm_B M' (B + 47) p)) ∧ (∀ p, p < 16 → PR M' (B + 21 + p) (mm_A M' (B + 46)) (3940 * p) (mm_B M' (B + 48) p)) := by
  rw [hS, hS2, hN, hN2]
  refine ⟨fun p hp => (r.1 p hp).fr (h _ (by omega)) (fun b hb c h1 h2 => h c ?_) (fun _ _ => rfl) rfl, fun p hp => (r.2 p hp).fr (h _ (by omega)) (fun b hb c h1 h2 => h c ?_) (fun _ _ => rfl) rfl⟩
  · have := (g.blk (q := p) (by omega) (by rw [qA_lo hp]; exact hb)).1
    omega
  · have := (g.blk (q := 16 + p) (by omega) (by rw [qA_hi hp]; exact hb)).1
    omega
