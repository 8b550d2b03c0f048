/-! rings: who asks whom, in the class -/
section GA2
variable {B n : Nat} {K L : Nat → Nat} {fu : Nat} {S : Nat → Int32}
/-- the class beside any rows S: no ring is asked to be away -/
def Cw (B n : Nat) (K L : Nat → Nat) (S : Nat → Int32) (N : Mm) : Prop := Sg B n K L (mm_R N) (mm_C N) ∧ ∀ p, p < 16 → ∃ nt, PR N (B + 3 + p) S (3940 * p) nt
def GotS (B : Nat) (K L : Nat → Nat) (S : Nat → Int32) (N : Mm) (p b hh : Nat) : Prop := p < 16 ∧ 1 ≤ hh ∧ hh ≤ 5 ∧ S (3940 * p) = nI hh ∧ mm_R N 128 (B + 3 + p) = some b ∧ mm_R N 131 (B + 3 + p) = some b ∧ B + 55 ≤ b ∧ BS K L (mm_R N) (mm_C N) b ∧ rOk S (3940 * p) ∧ rAll N b S (3940 * p)
theorem Cw.scr {N N' : Mm} (c : Cw B n K L S N) (h : scr B N N') : Cw B n K L S N' := by
  refine ⟨by rw [h.1, h.2.1]; exact c.1, fun p hp => ?_⟩
  obtain ⟨nt, r⟩ := c.2 p hp
  refine ⟨nt, r.fr (h.e (by omega) (by omega)) (fun b hb y h1 h2 => ?_) (fun _ _ => rfl) rfl⟩
  have := (c.1.blk (q := p) (by omega) (by rw [qA_lo hp]; exact hb)).1
  exact h.e (by omega) (by omega)
theorem GotS.scr {N N' : Mm} {p b hh : Nat} (g : GotS B K L S N p b hh) (h : scr B N N') : GotS B K L S N' p b hh := by
  obtain ⟨g1, g2, g3, g4, g5, g6, g8, g9, g10, g11⟩ := g
  exact ⟨g1, g2, g3, g4, by rw [h.1]; exact g5, by rw [h.1]; exact g6, g8, by rw [h.1, h.2.1]; exact g9, g10, g11.fr (fun c h1 h2 => h.e (by omega) (by omega)) (fun _ _ => rfl)⟩
theorem Cw.none {N : Mm} (c : Cw B n K L S N) {p : Nat} (hp : p < 16) (h : ¬ isw S p) : mm_R N 128 (B + 3 + p) = none := by
  obtain ⟨nt, hh, i1, i2, i3, i4, -⟩ := c.2 p hp
  have hx : ¬ (1 ≤ hh ∧ hh ≤ 5) := fun y => h ((isw_h i1 i2).mpr y)
  by_cases x : hh = 0
  · exact (i3 x).1
  · exact (i4 (by omega)).1
theorem Cw.got {N : Mm} (c : Cw B n K L S N) {p : Nat} (hp : p < 16) (h : isw S p) : ∃ b hh, GotS B K L S N p b hh := by
  obtain ⟨nt, hh, i1, i2, -, -, i5⟩ := c.2 p hp
  have := (isw_h i1 i2).mp h
  obtain ⟨-, j2, b, j3, j4, j5⟩ := i5 this.1 this.2
  have hb := c.1.blk (q := p) (by omega) (by rw [qA_lo hp]; exact j4)
  exact ⟨b, hh, hp, this.1, this.2, i2, j3, j4, hb.1, hb.2.2, j2, j5⟩
theorem Cw_iv {M : Mm} (iv : Iv B n K L M) : Cw B n K L (mm_A M (B + 45)) M := ⟨iv.1, fun p hp => ⟨_, iv.2.1 p hp⟩⟩
/-- the masks of row B + 40 -/
def mkR (B : Nat) (N : Mm) (k : Nat → Nat) : Prop := ∀ p, p < 16 → mm_A N (B + 40) p = nI (k p) ∧ k p < 65536
theorem gst_loop {v b hh q : Nat} (hq : q < 16) : ∀ (d x i : Nat) (N : Mm) (k : Nat → Nat), Cw B n K L S N → GotS B K L S N v b hh → S (3940 * v + 44) = nI q → mkR B N k → i + d = 16 → d < x → ∃ N' k', f_X5_gatherStopped_2 K L fu (B + 39) x (some b) (nI i) N = some N' ∧ scr B N N' ∧ mkR B N' k' ∧ ∀ p q', p < 16 → (k' p / 2 ^ q' % 2 = 1 ↔ k p / 2 ^ q' % 2 = 1 ∨ (i ≤ p ∧ vias S v p q ∧ q' = q)) := by
  intro d
  induction d with
  | zero =>
    intro x i N k iv g h44 hk h1 h2
    obtain ⟨x, rfl⟩ : ∃ x', x = x' + 1 := ⟨x - 1, by omega⟩
    have : i = 16 := by omega
    subst this
    refine ⟨N, k, ?_, scr.rf B N, hk, fun p q' hp => ⟨Or.inl, fun y => y.elim id (fun z => by omega)⟩⟩
    show f_X5_gatherStopped_2b K L fu (f_X5_gatherStopped_2 K L fu (B + 39) x) (B + 39) (some b) (nI 16) N = _
    unfold f_X5_gatherStopped_2b
    rw [if_pos (by decide)]
  | succ d ih =>
    intro x i N k iv g h44 hk h1 h2
    obtain ⟨x, rfl⟩ : ∃ x', x = x' + 1 := ⟨x - 1, by omega⟩
    have hi : i < 16 := by omega
    obtain ⟨g1, g2, g3, g4, g5, g6, g8, g9, g10, g11⟩ := id g
    have h39 := iv.1.2.1.2.2.2.2.1
    have hx : rx K L (some (B + 40)) 13 (nI i) = some (B + 40) := rx_ok h39.2.2.2.2.1 h39.2.2.2.2.2.1 hi (by decide)
    have i5 : mm_I N (32 * 9 + 5) b = nI q := (show mm_I N (32 * 9 + 5) b = S (3940 * v + 44) from g11.1.2.2.2.1).trans h44
    obtain ⟨u, u1, u2⟩ := g10.2.2.2.1
    have eu : (S (3940 * v + 46)).toInt.toNat = u := by rw [u2, nI_toInt (by omega)]; omega
    have i8 : mm_I N (32 * 9 + 0) b = S (3940 * v) - 1 := g11.1.1
    have i7 : mm_I N (32 * 9 + 7) b = nI u := (show mm_I N (32 * 9 + 7) b = S (3940 * v + 46) from g11.1.2.2.2.2.2.1).trans u2
    have e5 : S (3940 * v) - 1 = 4 ↔ S (3940 * v) = 5 := by
      constructor
      · intro y
        rw [← Int32.sub_add_cancel (S (3940 * v)) 1, y]
        rfl
      · intro y; rw [y]; rfl
    have hst : vias S v i q ↔ S (3940 * v) = 5 ∧ u / 2 ^ i % 2 = 1 := ⟨fun y => ⟨y.1, by have := y.2.1; rw [eu] at this; exact this⟩, fun y => ⟨y.1, by rw [eu]; exact y.2, h44⟩⟩
    have his : f_X9_isStopOf K L N b (nI i) = some (if S (3940 * v) = 5 ∧ u / 2 ^ i % 2 = 1 then 1 else 0) := by
      unfold f_X9_isStopOf
      rw [i8, i7]
      by_cases y : S (3940 * v) = 5
      · rw [if_pos (e5.mpr y)]
        refine (sb (hb_c u1 hi) _).trans ?_
        rw [if10]
        by_cases z : u / 2 ^ i % 2 = 1
        · rw [if_pos z, if_pos ⟨y, z⟩]
        · rw [if_neg z, if_neg (fun t => z t.2)]
      · rw [if_neg (fun t => y (e5.mp t)), if_neg (fun t => y t.1)]
    have E : f_X5_gatherStopped_2 K L fu (B + 39) (x + 1) (some b) (nI i) N = if S (3940 * v) = 5 ∧ u / 2 ^ i % 2 = 1 then f_X5_gatherStopped_2 K L fu (B + 39) x (some b) (nI (i + 1)) (ms_A N (B + 40) (upd (mm_A N (B + 40)) i (nI (k i ||| 2 ^ q)))) else f_X5_gatherStopped_2 K L fu (B + 39) x (some b) (nI (i + 1)) N := by
      show f_X5_gatherStopped_2b K L fu (f_X5_gatherStopped_2 K L fu (B + 39) x) (B + 39) (some b) (nI i) N = _
      unfold f_X5_gatherStopped_2b
      rw [if_neg (show ¬ (16 : Int32) ≤ nI i by rw [t_le, nI_toInt (by omega), show (16 : Int32).toInt = 16 from rfl]; omega), nI_1, nI_clamp (show i < 2 ^ 31 by omega), show mm_R N (32 * 5 + 0) (B + 39) = some (B + 40) from h39.2.1, hx]
      refine (rcb g9.1.1 _).trans ?_
      refine (sb his _).trans ?_
      rw [if10, i5]
      by_cases y : S (3940 * v) = 5 ∧ u / 2 ^ i % 2 = 1
      · rw [if_pos y, if_pos y]
        refine (sb rfl _).trans ?_
        rw [bn_eq, (hk i hi).1, or_b (hk i hi).2 hq]
      · rw [if_neg y, if_neg y]
    rw [E]
    by_cases y : S (3940 * v) = 5 ∧ u / 2 ^ i % 2 = 1
    · rw [if_pos y]
      have sc : scr B N (ms_A N (B + 40) (upd (mm_A N (B + 40)) i (nI (k i ||| 2 ^ q)))) := scr.Aa (by omega)
      obtain ⟨N', k', r1, r2, r3, r4⟩ := ih x (i + 1) (ms_A N (B + 40) (upd (mm_A N (B + 40)) i (nI (k i ||| 2 ^ q)))) (fun p => if p = i then k i ||| 2 ^ q else k p) (iv.scr sc) (g.scr sc) h44 (fun p hp => by
        dsimp only
        rw [A_A, if_pos rfl, upd_eq]
        by_cases e : p = i
        · rw [if_pos e, if_pos e]; exact ⟨rfl, or_lt (hk i hi).2 hq⟩
        · rw [if_neg e, if_neg e]; exact hk p hp) (by omega) (by omega)
      refine ⟨N', k', r1, sc.tr r2, r3, fun p q' hp => ?_⟩
      rw [r4 p q' hp]
      by_cases e : p = i
      · rw [if_pos e, or_t, e]
        constructor
        · rintro ((z | z) | z)
          · exact Or.inl z
          · exact Or.inr ⟨by omega, hst.mpr y, z⟩
          · omega
        · rintro (z | z)
          · exact Or.inl (Or.inl z)
          · exact Or.inl (Or.inr z.2.2)
      · rw [if_neg e]
        constructor
        · rintro (z | z)
          · exact Or.inl z
          · exact Or.inr ⟨by omega, z.2⟩
        · rintro (z | z)
          · exact Or.inl z
          · exact Or.inr ⟨by omega, z.2⟩
    · rw [if_neg y]
      obtain ⟨N', k', r1, r2, r3, r4⟩ := ih x (i + 1) N k iv g h44 hk (by omega) (by omega)
      refine ⟨N', k', r1, r2, r3, fun p q' hp => ?_⟩
      rw [r4 p q' hp]
      constructor
      · rintro (z | z)
        · exact Or.inl z
        · exact Or.inr ⟨by omega, z.2⟩
      · rintro (z | z)
        · exact Or.inl z
        · by_cases e : p = i
          · subst e; exact absurd (hst.mp z.2.1) y
          · exact Or.inr ⟨by omega, z.2⟩
end GA2
