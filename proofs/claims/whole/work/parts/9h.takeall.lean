/-! image, restore -/
def ShF (B : Nat) (K L : Nat → Nat) (R C : Nat → Nat → Option Nat) (D d : Nat) : Prop := K D = 8 ∧ R 256 D = some (D + 1) ∧ K (D + 1) = 17 ∧ L (D + 1) = 16 ∧ ∀ p, p < 16 → C (D + 1) p = some (qA B (d + p)) ∧ K (qA B (d + p)) = 4
theorem shf1 {B : Nat} {K L : Nat → Nat} {R C : Nat → Nat → Option Nat} (h : CS B K L R C) : ShF B K L R C (B + 1) 0 := by
  obtain ⟨h1, h2, h3, h4, h5⟩ := h.2.1
  refine ⟨h1, h2, h3, h4, fun p hp => ?_⟩
  rw [Nat.zero_add, qA_lo hp]
  exact h5 p hp
theorem shf2 {B : Nat} {K L : Nat → Nat} {R C : Nat → Nat → Option Nat} (h : CS B K L R C) : ShF B K L R C (B + 19) 16 := by
  obtain ⟨h1, h2, h3, h4, h5⟩ := h.2.2.1
  refine ⟨h1, h2, h3, h4, fun p hp => ?_⟩
  rw [qA_hi hp]
  exact h5 p hp
def tq (T : Nat → (Nat → Int32) × Nat × Int64) (d s i q : Nat) : (Nat → Int32) × Nat × Int64 := if d ≤ q ∧ q < d + i then T (q - d + s) else T q
def Zs (B d s n0 : Nat) (M0 : Mm) (T : Nat → (Nat → Int32) × Nat × Int64) (i n : Nat) (K L : Nat → Nat) (M : Mm) : Prop := Sg B n K L (mm_R M) (mm_C M) ∧ n0 ≤ n ∧ (∀ a, a < B + 55 → (∀ p, p < 16 → a ≠ qA B (d + p)) → eqAt M0 M a) ∧ ∀ q, q < 32 → PR M (qA B q) (tq T d s i q).1 (tq T d s i q).2.1 (tq T d s i q).2.2
section TF
variable {B D d Sr s n0 i n fu : Nat} {K L : Nat → Nat} {M0 M : Mm} {T : Nat → (Nat → Int32) × Nat × Int64} {β : Type} {Q : β → Prop}
theorem tf_step (hD : ∀ {K L : Nat → Nat} {R C : Nat → Nat → Option Nat}, CS B K L R C → ShF B K L R C D d) (hSr : ∀ {K L : Nat → Nat} {R C : Nat → Nat → Option Nat}, CS B K L R C → ShF B K L R C Sr s) (hds : (d = 0 ∧ s = 16) ∨ (d = 16 ∧ s = 0)) (hfu : 5000 ≤ fu) (z : Zs B d s n0 M0 T i n K L M) (hi : i < 16) {ii : Int32} (hii : ii = nI i) {G : (Nat × (Nat → Nat) × (Nat → Nat) × Mm) → Option β} (next : ∀ x : Nat × (Nat → Nat) × (Nat → Nat) × Mm, Zs B d s n0 M0 T (i + 1) x.1 x.2.1 x.2.2.1 x.2.2.2 → ∃ y, G x = some y ∧ Q y) :
    ∃ y, Option.bind (rx K L (mm_R M (32 * 8 + 0) D) 17 ii) (fun a1 => Option.bind (rc K (some Sr) 8) (fun a3 => Option.bind (rx K L (mm_R M (32 * 8 + 0) a3) 17 ii) (fun a5 => Option.bind (rc K (mm_C M a1 ii.toNatClampNeg) 4) (fun a7 => Option.bind (f_X4_takeFrom B fu n a7 (mm_C M a5 ii.toNatClampNeg) K L M) (fun x9 => Option.bind (mon n x9.1) (fun u11 => G x9)))))) = some y ∧ Q y := by
  obtain ⟨g, hn, lo, pr⟩ := z
  obtain ⟨d1, d2, d3, d4, d5⟩ := hD g.2.1
  obtain ⟨s1, s2, s3, s4, s5⟩ := hSr g.2.1
  obtain ⟨n', K', L', M', t1, t2, t3, t4, t5⟩ := take_step (fu := fu) hfu g pr (q0 := s + i) (q1 := d + i) (by omega) (by omega) (by omega)
  have zn : Zs B d s n0 M0 T (i + 1) n' K' L' M' := by
    refine ⟨t3, by omega, fun a ha hx => (lo a ha hx).tr ((t4 a ha).2.2 (hx i hi)), fun q hq => ?_⟩
    have e : tq T d s (i + 1) q = if q = d + i then tq T d s i (s + i) else tq T d s i q := by
      unfold tq
      by_cases x : q = d + i
      · rw [if_pos x, if_pos (by omega), if_neg (by omega)]
        congr 1
        omega
      · rw [if_neg x]
        by_cases y : d ≤ q ∧ q < d + i
        · rw [if_pos y, if_pos (by omega)]
        · rw [if_neg y, if_neg (by omega)]
    rw [e]
    exact t5 q hq
  obtain ⟨y, e, q⟩ := next (n', K', L', M') zn
  refine ⟨y, ?_, q⟩
  rw [hii, show mm_R M (32 * 8 + 0) D = _ from d2, rx_ok d3 d4 hi (by decide)]
  show Option.bind (rc K (some Sr) 8) _ = _
  refine (rcb s1 _).trans ?_
  rw [show mm_R M (32 * 8 + 0) Sr = _ from s2, rx_ok s3 s4 hi (by decide), nI_clamp (by omega)]
  show Option.bind (rc K (mm_C M (D + 1) i) 4) _ = _
  rw [(d5 i hi).1, (s5 i hi).1]
  refine (rcb (d5 i hi).2 _).trans ?_
  refine (sb t1 _).trans ?_
  refine (ub (show mon n n' = some () by unfold mon; rw [if_pos t2]) _).trans ?_
  exact e
theorem rz_step (hD : ∀ {K L : Nat → Nat} {R C : Nat → Nat → Option Nat}, CS B K L R C → ShF B K L R C D d) (z : Zs B d s n0 M0 T i n K L M) {G : Nat → Option β} (next : ∃ y, G D = some y ∧ Q y) : ∃ y, Option.bind (rc K (some D) 8) G = some y ∧ Q y := by
  rw [rc_ok (hD z.1.2.1).1]
  exact next
theorem take_all (hD : ∀ {K L : Nat → Nat} {R C : Nat → Nat → Option Nat}, CS B K L R C → ShF B K L R C D d) (hSr : ∀ {K L : Nat → Nat} {R C : Nat → Nat → Option Nat}, CS B K L R C → ShF B K L R C Sr s) (hds : (d = 0 ∧ s = 16) ∨ (d = 16 ∧ s = 0)) (hfu : 5000 ≤ fu) (g : Sg B n K L (mm_R M) (mm_C M)) (hT : ∀ q, q < 32 → PR M (qA B q) (T q).1 (T q).2.1 (T q).2.2) : ∃ y, f_X8_takeFrom B fu n D (some Sr) K L M = some y ∧ Zs B d s n M T 16 y.1 y.2.1 y.2.2.1 y.2.2.2 := by
  have z0 : Zs B d s n M T 0 n K L M := ⟨g, Nat.le_refl _, fun a _ _ => eqAt.rf M a, fun q hq => by unfold tq; rw [if_neg (by omega)]; exact hT q hq⟩
  unfold f_X8_takeFrom
  refine tf_step hD hSr hds hfu z0 (by decide) (ii := 0) rfl (fun x1 z1 => ?_)
  refine rz_step hD z1 ?_
  refine tf_step hD hSr hds hfu z1 (by decide) (ii := 1) rfl (fun x2 z2 => ?_)
  refine rz_step hD z2 ?_
  refine tf_step hD hSr hds hfu z2 (by decide) (ii := 2) rfl (fun x3 z3 => ?_)
  refine rz_step hD z3 ?_
  refine tf_step hD hSr hds hfu z3 (by decide) (ii := 3) rfl (fun x4 z4 => ?_)
  refine rz_step hD z4 ?_
  refine tf_step hD hSr hds hfu z4 (by decide) (ii := 4) rfl (fun x5 z5 => ?_)
  refine rz_step hD z5 ?_
  refine tf_step hD hSr hds hfu z5 (by decide) (ii := 5) rfl (fun x6 z6 => ?_)
  refine rz_step hD z6 ?_
  refine tf_step hD hSr hds hfu z6 (by decide) (ii := 6) rfl (fun x7 z7 => ?_)
  refine rz_step hD z7 ?_
  refine tf_step hD hSr hds hfu z7 (by decide) (ii := 7) rfl (fun x8 z8 => ?_)
  refine rz_step hD z8 ?_
  refine tf_step hD hSr hds hfu z8 (by decide) (ii := 8) rfl (fun x9 z9 => ?_)
  refine rz_step hD z9 ?_
  refine tf_step hD hSr hds hfu z9 (by decide) (ii := 9) rfl (fun x10 z10 => ?_)
  refine rz_step hD z10 ?_
  refine tf_step hD hSr hds hfu z10 (by decide) (ii := 10) rfl (fun x11 z11 => ?_)
  refine rz_step hD z11 ?_
  refine tf_step hD hSr hds hfu z11 (by decide) (ii := 11) rfl (fun x12 z12 => ?_)
  refine rz_step hD z12 ?_
  refine tf_step hD hSr hds hfu z12 (by decide) (ii := 12) rfl (fun x13 z13 => ?_)
  refine rz_step hD z13 ?_
  refine tf_step hD hSr hds hfu z13 (by decide) (ii := 13) rfl (fun x14 z14 => ?_)
  refine rz_step hD z14 ?_
  refine tf_step hD hSr hds hfu z14 (by decide) (ii := 14) rfl (fun x15 z15 => ?_)
  refine rz_step hD z15 ?_
  refine tf_step hD hSr hds hfu z15 (by decide) (ii := 15) rfl (fun x16 z16 => ?_)
  exact ⟨_, rfl, z16⟩
end TF
