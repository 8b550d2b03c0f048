/-! rings: the class gathers who asks whom -/
section GA3
variable {B n : Nat} {K L : Nat → Nat} {fu : Nat} {S : Nat → Int32}
def hgs (S : Nat → Int32) (p q : Nat) : Prop := (S (3940 * p) = 4 ∨ S (3940 * p) = 5) ∧ S (3940 * p + 44) = nI q
theorem ga_loop (hfu : 1000 ≤ fu) : ∀ (d x v : Nat) (N : Mm) (k : Nat → Nat), Cw B n K L S N → mkR B N k → (∀ p q, p < 16 → q < 16 → (k p / 2 ^ q % 2 = 1 ↔ (p < v ∧ hgs S p q) ∨ ∃ t, t < v ∧ vias S t p q)) → v + d = 16 → d < x → ∃ N' k', f_X5_gatherAsks_10 K L fu (B + 39) x (some (B + 1)) (nI v) N = some N' ∧ scr B N N' ∧ mkR B N' k' ∧ ∀ p q, p < 16 → q < 16 → (k' p / 2 ^ q % 2 = 1 ↔ asksS S p q) := by
  intro d
  induction d with
  | zero =>
    intro x v N k c hk hb h1 h2
    obtain ⟨x, rfl⟩ : ∃ x', x = x' + 1 := ⟨x - 1, by omega⟩
    have : v = 16 := by omega
    subst this
    refine ⟨N, k, ?_, scr.rf B N, hk, fun p q hp hq => ?_⟩
    · show f_X5_gatherAsks_10b K L fu (f_X5_gatherAsks_10 K L fu (B + 39) x) (B + 39) (some (B + 1)) (nI 16) N = _
      unfold f_X5_gatherAsks_10b
      rw [if_pos (by decide)]
    · rw [hb p q hp hq]
      unfold asksS hgs vias
      constructor
      · rintro (y | ⟨t, y1, y2⟩)
        · exact Or.inl y.2
        · exact Or.inr ⟨t, y1, y2⟩
      · rintro (y | ⟨t, y1, y2⟩)
        · exact Or.inl ⟨hp, y⟩
        · exact Or.inr ⟨t, y1, y2⟩
  | succ d ih =>
    intro x v N k c hk hb h1 h2
    obtain ⟨x, rfl⟩ : ∃ x', x = x' + 1 := ⟨x - 1, by omega⟩
    have hv : v < 16 := by omega
    have h39 := c.1.2.1.2.2.2.2.1
    have hx : rx K L (some (B + 40)) 13 (nI v) = some (B + 40) := rx_ok h39.2.2.2.2.1 h39.2.2.2.2.2.1 hv (by decide)
    have E : f_X5_gatherAsks_10 K L fu (B + 39) (x + 1) (some (B + 1)) (nI v) N = Option.bind (f_X8_switchAt K L N (B + 1) (nI v)) (fun x3 => if x3 = none then f_X5_gatherAsks_10 K L fu (B + 39) x (some (B + 1)) (nI (v + 1)) N else Option.bind (rc K x3 9) (fun a5 => Option.bind (f_X11_within (mm_I N (32 * 9 + 5) a5) (15 : Int32)) (fun x7 => if x7 = 0 then f_X5_gatherAsks_10 K L fu (B + 39) x (some (B + 1)) (nI (v + 1)) N else Option.bind (rx K L (some (B + 40)) 13 (nI v)) (fun a9 => bn (ms_A N a9 (upd (mm_A N a9) v ((mm_A N a9 v) ||| ((1 : Int32) <<< ((mm_I N (32 * 9 + 5) a5) &&& 31))))) (fun M11 => Option.bind (f_X5_gatherStopped K L fu (B + 39) x3 M11) (fun x13 => f_X5_gatherAsks_10 K L fu (B + 39) x (some (B + 1)) (nI (v + 1)) x13)))))) := by
      show f_X5_gatherAsks_10b K L fu (f_X5_gatherAsks_10 K L fu (B + 39) x) (B + 39) (some (B + 1)) (nI v) N = _
      unfold f_X5_gatherAsks_10b
      rw [if_neg (show ¬ (16 : Int32) ≤ nI v by rw [t_le, nI_toInt (by omega), show (16 : Int32).toInt = 16 from rfl]; omega), nI_1, nI_clamp (show v < 2 ^ 31 by omega), show mm_R N (32 * 5 + 0) (B + 39) = some (B + 40) from h39.2.1]
      exact rcb c.1.2.1.2.1.1 _
    have skip : (∀ q, q < 16 → ¬ S (3940 * v + 44) = nI q ∨ ¬ isw S v) → ∃ N' k', f_X5_gatherAsks_10 K L fu (B + 39) x (some (B + 1)) (nI (v + 1)) N = some N' ∧ scr B N N' ∧ mkR B N' k' ∧ ∀ p q, p < 16 → q < 16 → (k' p / 2 ^ q % 2 = 1 ↔ asksS S p q) := by
      intro hno
      have iw : (S (3940 * v) = 4 ∨ S (3940 * v) = 5) → isw S v := by
        intro y
        unfold isw
        rcases y with y | y <;> rw [y] <;> decide
      refine ih x (v + 1) N k c hk (fun p q hp hq => ?_) (by omega) (by omega)
      rw [hb p q hp hq]
      constructor
      · rintro (y | ⟨t, y1, y2⟩)
        · exact Or.inl ⟨by omega, y.2⟩
        · exact Or.inr ⟨t, by omega, y2⟩
      · rintro (y | ⟨t, y1, y2⟩)
        · by_cases e : p = v
          · subst e
            rcases hno q hq with z | z
            · exact absurd y.2.2 z
            · exact absurd (iw y.2.1) z
          · exact Or.inl ⟨by omega, y.2⟩
        · by_cases e : t = v
          · subst e
            rcases hno q hq with z | z
            · exact absurd y2.2.2 z
            · exact absurd (iw (Or.inr y2.1)) z
          · exact Or.inr ⟨t, by omega, y2⟩
    by_cases hi : isw S v
    · obtain ⟨b, hh, g⟩ := c.got hv hi
      obtain ⟨g1, g2, g3, g4, g5, g6, g8, g9, g10, g11⟩ := id g
      have i5 : mm_I N (32 * 9 + 5) b = S (3940 * v + 44) := g11.1.2.2.2.1
      have E2 : f_X5_gatherAsks_10 K L fu (B + 39) (x + 1) (some (B + 1)) (nI v) N = Option.bind (f_X11_within (S (3940 * v + 44)) (15 : Int32)) (fun x7 => if x7 = 0 then f_X5_gatherAsks_10 K L fu (B + 39) x (some (B + 1)) (nI (v + 1)) N else Option.bind (rx K L (some (B + 40)) 13 (nI v)) (fun a9 => bn (ms_A N a9 (upd (mm_A N a9) v ((mm_A N a9 v) ||| ((1 : Int32) <<< ((S (3940 * v + 44)) &&& 31))))) (fun M11 => Option.bind (f_X5_gatherStopped K L fu (B + 39) (some b) M11) (fun x13 => f_X5_gatherAsks_10 K L fu (B + 39) x (some (B + 1)) (nI (v + 1)) x13)))) := by
        rw [E]
        refine (sb (show f_X8_switchAt K L N (B + 1) (nI v) = some (some b) by rw [switchAt_in c.1.2.1 hv, g5]) _).trans ?_
        rw [if_neg (show ¬ some b = none by simp)]
        refine (rcb g9.1.1 _).trans ?_
        rw [i5]
      rcases g10.2.2.1 with y | ⟨q, q1, q2⟩
      · have E3 : f_X5_gatherAsks_10 K L fu (B + 39) (x + 1) (some (B + 1)) (nI v) N = f_X5_gatherAsks_10 K L fu (B + 39) x (some (B + 1)) (nI (v + 1)) N := by
          rw [E2, y, within_eq]
          rfl
        rw [E3]
        refine skip (fun q hq => Or.inl (fun z => ?_))
        rw [y] at z
        have := congrArg Int32.toInt z
        rw [nI_toInt (by omega), show (-1 : Int32).toInt = -1 from rfl] at this
        omega
      · have k45 : S (3940 * v) = 4 ∨ S (3940 * v) = 5 := by
          rcases g10.2.2.2.2.2.2 with y | y | y
          · exact Or.inl y
          · exact Or.inr y
          · rw [y] at q2
            have := congrArg Int32.toInt q2
            rw [nI_toInt (by omega), show (-1 : Int32).toInt = -1 from rfl] at this
            omega
        have sc : scr B N (ms_A N (B + 40) (upd (mm_A N (B + 40)) v (nI (k v ||| 2 ^ q)))) := scr.Aa (by omega)
        obtain ⟨N1, k1, r1, r2, r3, r4⟩ := gst_loop (fu := fu) q1 16 fu 0 (ms_A N (B + 40) (upd (mm_A N (B + 40)) v (nI (k v ||| 2 ^ q)))) (fun p => if p = v then k v ||| 2 ^ q else k p) (c.scr sc) (g.scr sc) q2 (fun p hp => by
          dsimp only
          rw [A_A, if_pos rfl, upd_eq]
          by_cases e : p = v
          · rw [if_pos e, if_pos e]; exact ⟨rfl, or_lt (hk v hv).2 q1⟩
          · rw [if_neg e, if_neg e]; exact hk p hp) (by omega) (by omega)
        have E3 : f_X5_gatherAsks_10 K L fu (B + 39) (x + 1) (some (B + 1)) (nI v) N = f_X5_gatherAsks_10 K L fu (B + 39) x (some (B + 1)) (nI (v + 1)) N1 := by
          rw [E2, q2, within_eq, show (15 : Int32).toInt = 15 from rfl, if_pos (pl_t q1)]
          refine (sb rfl _).trans ?_
          rw [if_neg (by decide)]
          refine (sb hx _).trans ?_
          rw [bn_eq, (hk v hv).1, or_b (hk v hv).2 q1]
          exact sb (show f_X5_gatherStopped K L fu (B + 39) (some b) _ = _ from r1) _
        rw [E3]
        obtain ⟨N2, k2, s1, s2, s3, s4⟩ := ih x (v + 1) N1 k1 ((c.scr sc).scr r2) r3 (fun p q' hp hq' => by
          rw [r4 p q' hp]
          have hkk : (if p = v then k v ||| 2 ^ q else k p) / 2 ^ q' % 2 = 1 ↔ (k p / 2 ^ q' % 2 = 1 ∨ (p = v ∧ q' = q)) := by
            by_cases e : p = v
            · rw [if_pos e, or_t, e]; simp
            · rw [if_neg e]; simp [e]
          rw [hkk, hb p q' hp hq']
          have hqq : S (3940 * v + 44) = nI q' ↔ q' = q := by
            rw [q2, nI_eq (by omega) (by omega)]
            exact ⟨Eq.symm, Eq.symm⟩
          constructor
          · rintro (((y | ⟨t, y1, y2⟩) | y) | y)
            · exact Or.inl ⟨by omega, y.2⟩
            · exact Or.inr ⟨t, by omega, y2⟩
            · exact Or.inl ⟨by omega, by rw [y.1]; exact ⟨k45, hqq.mpr y.2⟩⟩
            · exact Or.inr ⟨v, by omega, by rw [y.2.2]; exact y.2.1⟩
          · rintro (y | ⟨t, y1, y2⟩)
            · by_cases e : p = v
              · exact Or.inl (Or.inr ⟨e, hqq.mp (by rw [← e]; exact y.2.2)⟩)
              · exact Or.inl (Or.inl (Or.inl ⟨by omega, y.2⟩))
            · by_cases e : t = v
              · subst e
                have := hqq.mp y2.2.2
                exact Or.inr ⟨by omega, by rw [← this]; exact y2, this⟩
              · exact Or.inl (Or.inl (Or.inr ⟨t, by omega, y2⟩))) (by omega) (by omega)
        exact ⟨N2, k2, s1, (sc.tr r2).tr s2, s3, s4⟩
    · have E3 : f_X5_gatherAsks_10 K L fu (B + 39) (x + 1) (some (B + 1)) (nI v) N = f_X5_gatherAsks_10 K L fu (B + 39) x (some (B + 1)) (nI (v + 1)) N := by
        rw [E]
        refine (sb (show f_X8_switchAt K L N (B + 1) (nI v) = some none by rw [switchAt_in c.1.2.1 hv, c.none hv hi]) _).trans ?_
        rw [if_pos rfl]
      rw [E3]
      exact skip (fun q hq => Or.inr hi)
end GA3
