/-! rings: who asks whom, in the class -/
section GA2
variable {B n : Nat} {K L : Nat → Nat} {fu : Nat} {S : Nat → Int32}
/-- the masks of row B + 40 -/
def mkR (B : Nat) (N : Mm) (k : Nat → Nat) : Prop := ∀ p, p < 16 → mm_A N (B + 40) p = nI (k p) ∧ k p < 65536
theorem gst_loop {v b hh q : Nat} (hq : q < 16) : ∀ (d x i : Nat) (N : Mm) (k : Nat → Nat), Iv B n K L N → mm_A N (B + 45) = S → Got B K L N v b hh → S (3940 * v + 44) = nI q → mkR B N k → i + d = 16 → d < x → ∃ N' k', f_X5_gatherStopped_2 K L fu (B + 39) x (some b) (nI i) N = some N' ∧ scr B N N' ∧ mkR B N' k' ∧ ∀ p q', p < 16 → (k' p / 2 ^ q' % 2 = 1 ↔ k p / 2 ^ q' % 2 = 1 ∨ (i ≤ p ∧ vias S v p q ∧ q' = q)) := by
  intro d
  induction d with
  | zero =>
    intro x i N k iv hS g h44 hk h1 h2
    obtain ⟨x, rfl⟩ : ∃ x', x = x' + 1 := ⟨x - 1, by omega⟩
    have : i = 16 := by omega
    subst this
    refine ⟨N, k, ?_, scr.rf B N, hk, fun p q' hp => ⟨Or.inl, fun y => y.elim id (fun z => by omega)⟩⟩
    show f_X5_gatherStopped_2b K L fu (f_X5_gatherStopped_2 K L fu (B + 39) x) (B + 39) (some b) (nI 16) N = _
    unfold f_X5_gatherStopped_2b
    rw [if_pos (by decide)]
  | succ d ih =>
    intro x i N k iv hS g h44 hk h1 h2
    obtain ⟨x, rfl⟩ : ∃ x', x = x' + 1 := ⟨x - 1, by omega⟩
    have hi : i < 16 := by omega
    obtain ⟨g1, g2, g3, g4, g5, g6, g7, g8, g9, g10, g11⟩ := id g
    rw [hS] at g4 g10 g11
    have h39 := iv.1.2.1.2.2.2.2.1
    have hx : rx K L (some (B + 40)) 13 (nI i) = some (B + 40) := rx_ok h39.2.2.2.2.1 h39.2.2.2.2.2.1 hi (by decide)
    have i5 : mm_I N (32 * 9 + 5) b = nI q := (show mm_I N (32 * 9 + 5) b = S (3940 * v + 44) from g11.1.2.2.2.1).trans h44
    obtain ⟨u, u1, u2⟩ := g10.2.2.2.1
    have eu : (S (3940 * v + 46)).toInt.toNat = u := by rw [u2, nI_toInt (by omega)]; omega
    have i8 : mm_I N (32 * 9 + 0) b = S (3940 * v) - 1 := g11.1.1
    have i7 : mm_I N (32 * 9 + 7) b = nI u := (show mm_I N (32 * 9 + 7) b = S (3940 * v + 46) from g11.1.2.2.2.2.2.1).trans u2
    have e5 : S (3940 * v) - 1 = 4 ↔ S (3940 * v) = 5 := by
      constructor
      · intro y
        rw [← Int32.sub_add_cancel (S (3940 * v)) 1, y]
        rfl
      · intro y; rw [y]; rfl
    have hst : vias S v i q ↔ S (3940 * v) = 5 ∧ u / 2 ^ i % 2 = 1 := ⟨fun y => ⟨y.1, by have := y.2.1; rw [eu] at this; exact this⟩, fun y => ⟨y.1, by rw [eu]; exact y.2, h44⟩⟩
    have his : f_X9_isStopOf K L N b (nI i) = some (if S (3940 * v) = 5 ∧ u / 2 ^ i % 2 = 1 then 1 else 0) := by
      unfold f_X9_isStopOf
      rw [i8, i7]
      by_cases y : S (3940 * v) = 5
      · rw [if_pos (e5.mpr y)]
        refine (sb (hb_c u1 hi) _).trans ?_
        rw [if10]
        by_cases z : u / 2 ^ i % 2 = 1
        · rw [if_pos z, if_pos ⟨y, z⟩]
        · rw [if_neg z, if_neg (fun t => z t.2)]
      · rw [if_neg (fun t => y (e5.mp t)), if_neg (fun t => y t.1)]
    have E : f_X5_gatherStopped_2 K L fu (B + 39) (x + 1) (some b) (nI i) N = if S (3940 * v) = 5 ∧ u / 2 ^ i % 2 = 1 then f_X5_gatherStopped_2 K L fu (B + 39) x (some b) (nI (i + 1)) (ms_A N (B + 40) (upd (mm_A N (B + 40)) i (nI (k i ||| 2 ^ q)))) else f_X5_gatherStopped_2 K L fu (B + 39) x (some b) (nI (i + 1)) N := by
      show f_X5_gatherStopped_2b K L fu (f_X5_gatherStopped_2 K L fu (B + 39) x) (B + 39) (some b) (nI i) N = _
      unfold f_X5_gatherStopped_2b
      rw [if_neg (show ¬ (16 : Int32) ≤ nI i by rw [t_le, nI_toInt (by omega), show (16 : Int32).toInt = 16 from rfl]; omega), nI_1, nI_clamp (show i < 2 ^ 31 by omega), show mm_R N (32 * 5 + 0) (B + 39) = some (B + 40) from h39.2.1, hx]
      refine (rcb g9.1.1 _).trans ?_
      refine (sb his _).trans ?_
      rw [if10, i5]
      by_cases y : S (3940 * v) = 5 ∧ u / 2 ^ i % 2 = 1
      · rw [if_pos y, if_pos y]
        refine (sb rfl _).trans ?_
        rw [bn_eq, (hk i hi).1, or_b (hk i hi).2 hq]
      · rw [if_neg y, if_neg y]
    rw [E]
    by_cases y : S (3940 * v) = 5 ∧ u / 2 ^ i % 2 = 1
    · rw [if_pos y]
      have sc : scr B N (ms_A N (B + 40) (upd (mm_A N (B + 40)) i (nI (k i ||| 2 ^ q)))) := scr.Aa (by omega)
      have gN : Got B K L (ms_A N (B + 40) (upd (mm_A N (B + 40)) i (nI (k i ||| 2 ^ q)))) v b hh := by
        refine ⟨g1, g2, g3, by rw [sc.S, hS]; exact g4, g5, g6, g7, g8, g9, by rw [sc.S, hS]; exact g10, ?_⟩
        rw [sc.S, hS]
        exact g11.fr (fun c h1 h2 => sc.e (by omega) (by omega)) (fun _ _ => rfl)
      obtain ⟨N', k', r1, r2, r3, r4⟩ := ih x (i + 1) (ms_A N (B + 40) (upd (mm_A N (B + 40)) i (nI (k i ||| 2 ^ q)))) (fun p => if p = i then k i ||| 2 ^ q else k p) (iv_scr iv sc) (sc.S.trans hS) gN h44 (fun p hp => by
        dsimp only
        rw [A_A, if_pos rfl, upd_eq]
        by_cases e : p = i
        · rw [if_pos e, if_pos e]; exact ⟨rfl, or_lt (hk i hi).2 hq⟩
        · rw [if_neg e, if_neg e]; exact hk p hp) (by omega) (by omega)
      refine ⟨N', k', r1, sc.tr r2, r3, fun p q' hp => ?_⟩
      rw [r4 p q' hp]
      by_cases e : p = i
      · rw [if_pos e, or_t, e]
        constructor
        · rintro ((z | z) | z)
          · exact Or.inl z
          · exact Or.inr ⟨by omega, hst.mpr y, z⟩
          · omega
        · rintro (z | z)
          · exact Or.inl (Or.inl z)
          · exact Or.inl (Or.inr z.2.2)
      · rw [if_neg e]
        constructor
        · rintro (z | z)
          · exact Or.inl z
          · exact Or.inr ⟨by omega, z.2⟩
        · rintro (z | z)
          · exact Or.inl z
          · exact Or.inr ⟨by omega, z.2⟩
    · rw [if_neg y]
      obtain ⟨N', k', r1, r2, r3, r4⟩ := ih x (i + 1) N k iv hS g h44 hk (by omega) (by omega)
      refine ⟨N', k', r1, r2, r3, fun p q' hp => ?_⟩
      rw [r4 p q' hp]
      constructor
      · rintro (z | z)
        · exact Or.inl z
        · exact Or.inr ⟨by omega, z.2⟩
      · rintro (z | z)
        · exact Or.inl z
        · by_cases e : p = i
          · subst e; exact absurd (hst.mp z.2.1) y
          · exact Or.inr ⟨by omega, z.2⟩
end GA2
