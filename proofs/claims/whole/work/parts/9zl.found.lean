/-! rings: the class finds one, and keeps it -/
def Cy (A : Nat → Nat → Prop) (g : Nat) : Prop := ∃ n, 1 ≤ n ∧ n ≤ 16 ∧ Pth A g n g
def Rg (A : Nat → Nat → Prop) (g D : Nat) : Prop := g < 16 ∧ 1 ≤ D ∧ D ≤ 16 ∧ Sm A g D g ∧ ∀ g', g' < g → ¬ Cy A g'
section RG
variable {A : Nat → Nat → Prop} {g D : Nat}
theorem Rg.cy (h : Rg A g D) : Cy A g := ⟨D, h.2.1, h.2.2.1, h.2.2.2.1.1⟩
theorem Rg.un {g' D' : Nat} (h : Rg A g D) (h' : Rg A g' D') : g = g' ∧ D = D' := by
  have e : g = g' := by
    rcases Nat.lt_trichotomy g g' with x | x | x
    · exact absurd h.cy (h'.2.2.2.2 g x)
    · exact x
    · exact absurd h'.cy (h.2.2.2.2 g' x)
  subst e
  refine ⟨rfl, ?_⟩
  rcases Nat.lt_trichotomy D D' with x | x | x
  · exact absurd h.2.2.2.1.1 (h'.2.2.2.1.2 D h.2.1 x)
  · exact x
  · exact absurd h'.2.2.2.1.1 (h.2.2.2.1.2 D' h'.2.1 x)
theorem Sm_of {n : Nat} (h1 : 1 ≤ n) (hP : Pth A g n g) : ∃ D, 1 ≤ D ∧ D ≤ n ∧ Sm A g D g := by
  obtain ⟨D, ⟨d1, d2⟩, d3⟩ := pk_least (fun n => 1 ≤ n ∧ Pth A g n g) ⟨n, h1, hP⟩
  refine ⟨D, d1, ?_, d2, fun n' y1 y2 y3 => d3 n' y2 ⟨y1, y3⟩⟩
  by_cases y : D ≤ n
  · exact y
  · exact absurd ⟨h1, hP⟩ (d3 n (by omega))
theorem Lp_of {n q : Nat} (hP : Pth A g n q) : ∃ m, m ≤ n ∧ Lp A g m q := by
  obtain ⟨m, m1, m2⟩ := pk_least (fun n => Pth A g n q) ⟨n, hP⟩
  refine ⟨m, ?_, m1, m2⟩
  by_cases y : m ≤ n
  · exact y
  · exact absurd hP (m2 n (by omega))
theorem Lp_un {m m' q : Nat} (h : Lp A g m q) (h' : Lp A g m' q) : m = m' := by
  rcases Nat.lt_trichotomy m m' with x | x | x
  · exact absurd h.1 (h'.2 m x)
  · exact x
  · exact absurd h'.1 (h.2 m' x)
theorem Dt.is {r p : Nat} {x : Int32} (h : Dt A g r p x) (hx : ¬ x = -1) : ∃ m, m < r ∧ x = nI m ∧ Lp A g m p := h.elim id (fun y => absurd y.1 hx)
theorem Dt.val {r p m : Nat} {x : Int32} (h : Dt A g r p x) (hl : Lp A g m p) (hm : m < r) : x = nI m := by
  rcases h with ⟨m', h1, h2, h3⟩ | ⟨_, h2⟩
  · rw [h2, Lp_un hl h3]
  · exact absurd hl.1 (h2 m hm)
end RG
/-- the best of the first i -/
def nrB (A : Nat → Nat → Prop) (g v i : Nat) (w : Int32) : Prop := (w = -1 ∧ ∀ q m, q < i → A v q → m < 16 → ¬ Lp A g m q) ∨ ∃ q m, q < i ∧ q < 16 ∧ m < 16 ∧ w = nI q ∧ A v q ∧ Lp A g m q ∧ ∀ q' m', q' < i → A v q' → m' < 16 → Lp A g m' q' → m ≤ m' ∧ (q' < q → m < m')
section NR
variable {A : Nat → Nat → Prop} {g v i : Nat} {w : Int32}
theorem nrB.skip (h : nrB A g v i w) (hno : A v i → ∀ m, m < 16 → ¬ Lp A g m i) : nrB A g v (i + 1) w := by
  rcases h with ⟨h1, h2⟩ | ⟨q, m, h1, h2, h3, h4, h5, h6, h7⟩
  · refine Or.inl ⟨h1, fun q m y1 y2 y3 => ?_⟩
    by_cases e : q = i
    · rw [e] at y2 ⊢; exact hno y2 m y3
    · exact h2 q m (by omega) y2 y3
  · refine Or.inr ⟨q, m, by omega, h2, h3, h4, h5, h6, fun q' m' y1 y2 y3 y4 => ?_⟩
    by_cases e : q' = i
    · rw [e] at y2 y4; exact absurd y4 (hno y2 m' y3)
    · exact h7 q' m' (by omega) y2 y3 y4
theorem nrB.first (h : nrB A g v i w) (hw : w = -1) (hi : i < 16) (ha : A v i) {m : Nat} (hm : m < 16) (hl : Lp A g m i) : nrB A g v (i + 1) (nI i) := by
  rcases h with ⟨h1, h2⟩ | ⟨q, m, h1, h2, h3, h4, h5, h6, h7⟩
  · refine Or.inr ⟨i, m, by omega, hi, hm, rfl, ha, hl, fun q' m' y1 y2 y3 y4 => ?_⟩
    by_cases e : q' = i
    · rw [e] at y4
      have := Lp_un hl y4
      omega
    · exact absurd y4 (h2 q' m' (by omega) y2 y3)
  · rw [hw] at h4
    exact absurd h4.symm (nI_n1 (by omega))
theorem nrB.near (h : nrB A g v 16 w) {m : Nat} (hm : m < 16) (hS : Sm A g (m + 1) v) : ∃ q, Nx A g m v q ∧ w = nI q := by
  obtain ⟨q1, a1, a2, a3, a4⟩ := nx_ex hS
  rcases h with ⟨h1, h2⟩ | ⟨q, m0, h1, h2, h3, h4, h5, h6, h7⟩
  · exact absurd a3 (h2 q1 m a1 a2 hm)
  · have l1 := (h7 q1 m a1 a2 hm a3).1
    have l2 : ¬ m0 < m := fun y => hS.2 (m0 + 1) (by omega) (by omega) ⟨q, h2, h5, h6.1⟩
    have e : m0 = m := by omega
    subst e
    refine ⟨q, ⟨h2, h5, h6, fun q' y1 y2 y3 => ?_⟩, h4⟩
    have := (h7 q' m0 (by omega) y2 h3 y3).2 y1
    omega
end NR
section NE
variable {B : Nat} {K L : Nat → Nat} {fu g v : Nat} {k : Nat → Nat} {A : Nat → Nat → Prop} {N : Mm}
theorem nr_loop (hR : RS B K L (mm_R N)) (hk : mkR B N k) (hkA : ∀ p q, p < 16 → q < 16 → (k p / 2 ^ q % 2 = 1 ↔ A p q)) (hF : ∀ p, p < 16 → Dt A g 16 p (mm_A N (B + 41) p)) (hv : v < 16) : ∀ (d x i : Nat) (w : Int32), nrB A g v i w → i + d = 16 → d < x → ∃ w', f_X5_nearest_4 K L fu N (B + 39) x (nI v) w (nI i) = some w' ∧ nrB A g v 16 w' := by
  intro d
  induction d with
  | zero =>
    intro x i w h1 h2 h3
    obtain ⟨x, rfl⟩ : ∃ x', x = x' + 1 := ⟨x - 1, by omega⟩
    have : i = 16 := by omega
    subst this
    refine ⟨w, ?_, h1⟩
    show f_X5_nearest_4b K L fu (f_X5_nearest_4 K L fu N (B + 39) x) N (B + 39) (nI v) w (nI 16) = _
    unfold f_X5_nearest_4b
    rw [if_pos (by decide)]
  | succ d ih =>
    intro x i w h1 h2 h3
    obtain ⟨x, rfl⟩ : ∃ x', x = x' + 1 := ⟨x - 1, by omega⟩
    have hi : i < 16 := by omega
    have hx1 : ∀ y, y < 16 → rx K L (mm_R N (32 * 5 + 1) (B + 39)) 13 (nI y) = some (B + 41) := fun y hy => by
      rw [show mm_R N (32 * 5 + 1) (B + 39) = some (B + 41) from hR.2.2.1]
      exact rx_ok hR.2.2.2.2.2.2.1 hR.2.2.2.2.2.2.2.1 hy (by decide)
    have hx0 : rx K L (mm_R N (32 * 5 + 0) (B + 39)) 13 (nI v) = some (B + 40) := by
      rw [show mm_R N (32 * 5 + 0) (B + 39) = some (B + 40) from hR.2.1]
      exact rx_ok hR.2.2.2.2.1 hR.2.2.2.2.2.1 hv (by decide)
    have E : f_X5_nearest_4 K L fu N (B + 39) (x + 1) (nI v) w (nI i) = if k v / 2 ^ i % 2 = 1 then (if mm_A N (B + 41) i = -1 then f_X5_nearest_4 K L fu N (B + 39) x (nI v) w (nI (i + 1)) else f_X5_nearest_38 K L fu (f_X5_nearest_4 K L fu N (B + 39) x) N (B + 39) (nI v) w (nI i) 1) else f_X5_nearest_4 K L fu N (B + 39) x (nI v) w (nI (i + 1)) := by
      show f_X5_nearest_4b K L fu (f_X5_nearest_4 K L fu N (B + 39) x) N (B + 39) (nI v) w (nI i) = _
      unfold f_X5_nearest_4b
      rw [if_neg (show ¬ (16 : Int32) ≤ nI i by rw [t_le, nI_toInt (by omega), show (16 : Int32).toInt = 16 from rfl]; omega), nI_clamp (show i < 2 ^ 31 by omega), nI_clamp (show v < 2 ^ 31 by omega)]
      have e37 : f_X5_nearest_37 K L fu (f_X5_nearest_4 K L fu N (B + 39) x) N (B + 39) (nI v) w (nI i) = f_X5_nearest_4 K L fu N (B + 39) x (nI v) w (nI (i + 1)) := by
        unfold f_X5_nearest_37 f_X5_nearest_38
        rw [if_pos rfl, nI_1]
      rw [e37]
      refine (sb hx0 _).trans ?_
      rw [(hk v hv).1]
      refine (sb (hb_c (hk v hv).2 hi) _).trans ?_
      rw [if10]
      by_cases y : k v / 2 ^ i % 2 = 1
      · rw [if_pos y, if_pos y]
        exact sb (hx1 i hi) _
      · rw [if_neg y, if_neg y]
    rw [E]
    by_cases y : k v / 2 ^ i % 2 = 1
    · rw [if_pos y]
      have ha : A v i := (hkA v i hv hi).mp y
      by_cases z : mm_A N (B + 41) i = -1
      · rw [if_pos z]
        refine ih x (i + 1) w (h1.skip (fun _ m hm hl => ?_)) (by omega) (by omega)
        exact (hF i hi).none z (by decide) m hm hl.1
      · rw [if_neg z]
        obtain ⟨mi, i1, i2, i3⟩ := (hF i hi).is z
        have e65 : f_X5_nearest_65 K L fu (f_X5_nearest_4 K L fu N (B + 39) x) N (B + 39) (nI v) (nI i) = f_X5_nearest_4 K L fu N (B + 39) x (nI v) (nI i) (nI (i + 1)) := by
          unfold f_X5_nearest_65
          rw [nI_1]
        unfold f_X5_nearest_38
        rw [if_neg (by decide), e65]
        by_cases u : w = -1
        · rw [if_pos u]
          exact ih x (i + 1) (nI i) (h1.first u hi ha i1 i3) (by omega) (by omega)
        · rw [if_neg u]
          rcases h1 with ⟨y1, _⟩ | ⟨q, m, q1, q2, q3, q4, q5, q6, q7⟩
          · exact absurd y1 u
          · subst q4
            have eF : mm_A N (B + 41) q = nI m := (hF q q2).val q6 q3
            have E2 : Option.bind (rx K L (mm_R N (32 * 5 + 1) (B + 39)) 13 (nI i)) (fun a1 => Option.bind (rx K L (mm_R N (32 * 5 + 1) (B + 39)) 13 (nI q)) (fun a3 => if (mm_A N a3 (nI q).toNatClampNeg) ≤ (mm_A N a1 (nI i).toNatClampNeg) then f_X5_nearest_4 K L fu N (B + 39) x (nI v) (nI q) (nI i + 1) else f_X5_nearest_4 K L fu N (B + 39) x (nI v) (nI i) (nI (i + 1)))) = if m ≤ mi then f_X5_nearest_4 K L fu N (B + 39) x (nI v) (nI q) (nI (i + 1)) else f_X5_nearest_4 K L fu N (B + 39) x (nI v) (nI i) (nI (i + 1)) := by
              refine (sb (hx1 i hi) _).trans ?_
              refine (sb (hx1 q q2) _).trans ?_
              rw [nI_clamp (show i < 2 ^ 31 by omega), nI_clamp (show q < 2 ^ 31 by omega), eF, i2, nI_1]
              by_cases t : m ≤ mi
              · rw [if_pos t, if_pos ((nI_leI (by omega) (by omega)).mpr t)]
              · rw [if_neg t, if_neg (fun s => t ((nI_leI (by omega) (by omega)).mp s))]
            rw [E2]
            by_cases t : m ≤ mi
            · rw [if_pos t]
              refine ih x (i + 1) (nI q) (Or.inr ⟨q, m, by omega, q2, q3, rfl, q5, q6, fun q' m' y1 y2 y3 y4 => ?_⟩) (by omega) (by omega)
              by_cases e : q' = i
              · rw [e] at y4
                have := Lp_un i3 y4
                omega
              · exact q7 q' m' (by omega) y2 y3 y4
            · rw [if_neg t]
              refine ih x (i + 1) (nI i) (Or.inr ⟨i, mi, by omega, hi, i1, rfl, ha, i3, fun q' m' y1 y2 y3 y4 => ?_⟩) (by omega) (by omega)
              by_cases e : q' = i
              · rw [e] at y4
                have := Lp_un i3 y4
                omega
              · have := q7 q' m' (by omega) y2 y3 y4
                omega
    · rw [if_neg y]
      exact ih x (i + 1) w (h1.skip (fun ha => absurd ((hkA v i hv hi).mpr ha) y)) (by omega) (by omega)
theorem nearest_eq (hR : RS B K L (mm_R N)) (hk : mkR B N k) (hkA : ∀ p q, p < 16 → q < 16 → (k p / 2 ^ q % 2 = 1 ↔ A p q)) (hF : ∀ p, p < 16 → Dt A g 16 p (mm_A N (B + 41) p)) (hv : v < 16) (hfu : 1000 ≤ fu) : ∃ w, f_X5_nearest K L fu N (B + 39) (nI v) = some w ∧ nrB A g v 16 w := by
  unfold f_X5_nearest
  exact nr_loop hR hk hkA hF hv 16 fu 0 (-1) (Or.inl ⟨rfl, fun q m h => by omega⟩) (by omega) (by omega)
end NE
/-- as scr, and the kept rings too -/
def scK (B : Nat) (M M' : Mm) : Prop := mm_R M' = mm_R M ∧ mm_C M' = mm_C M ∧ mm_B M' = mm_B M ∧ (∀ a, a ≠ B + 38 → a ≠ B + 40 → a ≠ B + 41 → a ≠ B + 42 → a ≠ B + 50 → a ≠ B + 51 → a ≠ B + 52 → a ≠ B + 53 → a ≠ B + 54 → mm_A M' a = mm_A M a) ∧ (∀ x a, ¬ (a = B + 44 ∧ (x = 391 ∨ 400 ≤ x)) → ¬ (a = B + 37 ∧ 36 ≤ x) → ¬ (a = B + 39 ∧ x = 163) → mm_I M' x a = mm_I M x a) ∧ ∀ x a, a ≠ B + 44 → mm_J M' x a = mm_J M x a
section SK
variable {B : Nat} {M M' M'' : Mm}
theorem scK.rf (B : Nat) (M : Mm) : scK B M M := ⟨rfl, rfl, rfl, fun _ _ _ _ _ _ _ _ _ _ => rfl, fun _ _ _ _ _ => rfl, fun _ _ _ => rfl⟩
theorem scK.tr (h : scK B M M') (h' : scK B M' M'') : scK B M M'' := ⟨h'.1.trans h.1, h'.2.1.trans h.2.1, h'.2.2.1.trans h.2.2.1, fun a h1 h2 h3 h4 h5 h6 h7 h8 h9 => (h'.2.2.2.1 a h1 h2 h3 h4 h5 h6 h7 h8 h9).trans (h.2.2.2.1 a h1 h2 h3 h4 h5 h6 h7 h8 h9), fun x a h1 h2 h3 => (h'.2.2.2.2.1 x a h1 h2 h3).trans (h.2.2.2.2.1 x a h1 h2 h3), fun x a h1 => (h'.2.2.2.2.2 x a h1).trans (h.2.2.2.2.2 x a h1)⟩
theorem scK.of (h : scr B M M') : scK B M M' := ⟨h.1, h.2.1, h.2.2.1, fun a h1 h2 h3 _ _ h6 h7 h8 h9 => h.2.2.2.1 a h1 h2 h3 h6 h7 h8 h9, fun x a h1 h2 _ => h.2.2.2.2.1 x a (fun y => h1 ⟨y.1, Or.inr y.2⟩) h2, h.2.2.2.2.2⟩
theorem scK.A2 {g : Nat → Int32} : scK B M (ms_A M (B + 42) g) := ⟨rfl, rfl, rfl, fun a h1 h2 h3 h4 h5 h6 h7 h8 h9 => by rw [A_A, if_neg h4], fun _ _ _ _ _ => rfl, fun _ _ _ => rfl⟩
theorem scK.A5 {g : Nat → Int32} : scK B M (ms_A M (B + 50) g) := ⟨rfl, rfl, rfl, fun a h1 h2 h3 h4 h5 h6 h7 h8 h9 => by rw [A_A, if_neg h5], fun _ _ _ _ _ => rfl, fun _ _ _ => rfl⟩
theorem scK.I3 {v : Int32} : scK B M (ms_I M 163 (B + 39) v) := ⟨rfl, rfl, rfl, fun _ _ _ _ _ _ _ _ _ _ => rfl, fun y a _ _ h1 => by rw [I_I, if_neg]; intro q; exact h1 ⟨q.2, q.1⟩, fun _ _ _ => rfl⟩
theorem scK.I9 {v : Int32} : scK B M (ms_I M 391 (B + 44) v) := ⟨rfl, rfl, rfl, fun _ _ _ _ _ _ _ _ _ _ => rfl, fun y a h1 _ _ => by rw [I_I, if_neg]; intro q; exact h1 ⟨q.2, Or.inl q.1⟩, fun _ _ _ => rfl⟩
theorem scK.S (h : scK B M M') : mm_A M' (B + 45) = mm_A M (B + 45) := h.2.2.2.1 _ (by omega) (by omega) (by omega) (by omega) (by omega) (by omega) (by omega) (by omega) (by omega)
theorem scK.MS {K L : Nat → Nat} (h : scK B M M') (q : MS B K L (mm_R M)) : MS B K L (mm_R M') := by rw [h.1]; exact q
end SK
section KE
variable {B : Nat} {K L : Nat → Nat} {fu g D : Nat} {k : Nat → Nat} {A : Nat → Nat → Prop}
theorem kp_loop (hkA : ∀ p q, p < 16 → q < 16 → (k p / 2 ^ q % 2 = 1 ↔ A p q)) (hfu : 1000 ≤ fu) (hg : g < 16) (hD : D ≤ 16) (hS : Sm A g D g) : ∀ (d x j : Nat) (N : Mm), RS B K L (mm_R N) → mkR B N k → (∀ p, p < 16 → Dt A g 16 p (mm_A N (B + 41) p)) → mm_I N 163 (B + 39) = nI j → (∀ i, i < j → mm_A N (B + 42) i = nI (wlk A g D i)) → j + d + 1 = D → d < x → ∃ N', f_X5_keepFrom_9 K L fu (B + 39) x (nI g) (nI (wlk A g D j)) (nI j) N = some N' ∧ scK B N N' ∧ mm_I N' 163 (B + 39) = nI D ∧ ∀ i, i < D → mm_A N' (B + 42) i = nI (wlk A g D i) := by
  intro d
  induction d with
  | zero =>
    intro x j N hR hk hF hI hA h1 h2
    obtain ⟨x, rfl⟩ : ∃ x', x = x' + 1 := ⟨x - 1, by omega⟩
    obtain ⟨N5, hN5⟩ : ∃ X, X = ms_I (ms_A N (B + 42) (upd (mm_A N (B + 42)) j (nI (wlk A g D j)))) (32 * 5 + 3) (B + 39) (nI (j + 1)) := ⟨_, rfl⟩
    have s5 : scK B N N5 := by rw [hN5]; exact scK.A2.tr scK.I3
    obtain ⟨hv, hs⟩ := wlk_ok hg hS j (by omega)
    obtain ⟨w, w1, w2⟩ := nearest_eq (B := B) (K := K) (L := L) (fu := fu) (N := N5) (k := k) (A := A) (g := g) (v := wlk A g D j) (by rw [s5.1]; exact hR) (fun p hp => by rw [hN5, A_I, A_A, if_neg (by omega)]; exact hk p hp) hkA (fun p hp => by rw [hN5, A_I, A_A, if_neg (by omega)]; exact hF p hp) hv hfu
    rw [show D - j = 0 + 1 by omega] at hs
    obtain ⟨q, q1, q2⟩ := w2.near (by omega) hs
    have eq : q = g := q1.2.2.1.1
    refine ⟨N5, ?_, s5, ?_, fun i hi => ?_⟩
    · show f_X5_keepFrom_9b K L fu (f_X5_keepFrom_9 K L fu (B + 39) x) (B + 39) (nI g) (nI (wlk A g D j)) (nI j) N = _
      unfold f_X5_keepFrom_9b
      rw [if_neg (show ¬ (16 : Int32) ≤ nI j by rw [t_le, nI_toInt (by omega), show (16 : Int32).toInt = 16 from rfl]; omega), show mm_I N (32 * 5 + 3) (B + 39) = nI j from hI, show mm_R N (32 * 5 + 2) (B + 39) = some (B + 42) from hR.2.2.2.1, rx_ok hR.2.2.2.2.2.2.2.2.1 hR.2.2.2.2.2.2.2.2.2 (show j < 16 by omega) (by decide)]
      refine (sb rfl _).trans ?_
      rw [bn_eq, bn_eq, nI_clamp (show j < 2 ^ 31 by omega), show mm_I (ms_A N (B + 42) (upd (mm_A N (B + 42)) j (nI (wlk A g D j)))) (32 * 5 + 3) (B + 39) = nI j from hI, nI_1, ← hN5]
      refine (sb w1 _).trans ?_
      rw [if_pos (by rw [q2, eq])]
    · rw [hN5, I_I, if_pos ⟨rfl, rfl⟩, show j + 1 = D by omega]
    · rw [hN5, A_I, A_A, if_pos rfl, upd_eq]
      by_cases e : i = j
      · rw [if_pos e, e]
      · rw [if_neg e]; exact hA i (by omega)
  | succ d ih =>
    intro x j N hR hk hF hI hA h1 h2
    obtain ⟨x, rfl⟩ : ∃ x', x = x' + 1 := ⟨x - 1, by omega⟩
    obtain ⟨N5, hN5⟩ : ∃ X, X = ms_I (ms_A N (B + 42) (upd (mm_A N (B + 42)) j (nI (wlk A g D j)))) (32 * 5 + 3) (B + 39) (nI (j + 1)) := ⟨_, rfl⟩
    have s5 : scK B N N5 := by rw [hN5]; exact scK.A2.tr scK.I3
    obtain ⟨hv, hs⟩ := wlk_ok hg hS j (by omega)
    have hk5 : mkR B N5 k := fun p hp => by rw [hN5, A_I, A_A, if_neg (by omega)]; exact hk p hp
    have hF5 : ∀ p, p < 16 → Dt A g 16 p (mm_A N5 (B + 41) p) := fun p hp => by rw [hN5, A_I, A_A, if_neg (by omega)]; exact hF p hp
    obtain ⟨w, w1, w2⟩ := nearest_eq (B := B) (K := K) (L := L) (fu := fu) (N := N5) (k := k) (A := A) (g := g) (v := wlk A g D j) (by rw [s5.1]; exact hR) hk5 hkA hF5 hv hfu
    rw [show D - j = (D - 1 - j) + 1 by omega] at hs
    obtain ⟨q, q1, q2⟩ := w2.near (by omega) hs
    have ew : wlk A g D (j + 1) = q := nxf_eq q1
    have nq : ¬ q = g := fun e => q1.2.2.1.2 0 (by omega) e
    obtain ⟨N', r1, r2, r3, r4⟩ := ih x (j + 1) N5 (by rw [s5.1]; exact hR) hk5 hF5 (by rw [hN5, I_I, if_pos ⟨rfl, rfl⟩]) (fun i hi => by
      rw [hN5, A_I, A_A, if_pos rfl, upd_eq]
      by_cases e : i = j
      · rw [if_pos e, e]
      · rw [if_neg e]; exact hA i (by omega)) (by omega) (by omega)
    refine ⟨N', ?_, s5.tr r2, r3, r4⟩
    show f_X5_keepFrom_9b K L fu (f_X5_keepFrom_9 K L fu (B + 39) x) (B + 39) (nI g) (nI (wlk A g D j)) (nI j) N = _
    unfold f_X5_keepFrom_9b
    rw [if_neg (show ¬ (16 : Int32) ≤ nI j by rw [t_le, nI_toInt (by omega), show (16 : Int32).toInt = 16 from rfl]; omega), show mm_I N (32 * 5 + 3) (B + 39) = nI j from hI, show mm_R N (32 * 5 + 2) (B + 39) = some (B + 42) from hR.2.2.2.1, rx_ok hR.2.2.2.2.2.2.2.2.1 hR.2.2.2.2.2.2.2.2.2 (show j < 16 by omega) (by decide)]
    refine (sb rfl _).trans ?_
    rw [bn_eq, bn_eq, nI_clamp (show j < 2 ^ 31 by omega), show mm_I (ms_A N (B + 42) (upd (mm_A N (B + 42)) j (nI (wlk A g D j)))) (32 * 5 + 3) (B + 39) = nI j from hI, nI_1, ← hN5]
    refine (sb w1 _).trans ?_
    rw [if_neg (by rw [q2, nI_eq (by have := q1.1; omega) (by omega)]; exact nq), if_neg (by rw [q2]; exact nI_n1 (by have := q1.1; omega)), q2, ← ew]
    exact r1
theorem keep_eq (hkA : ∀ p q, p < 16 → q < 16 → (k p / 2 ^ q % 2 = 1 ↔ A p q)) (hfu : 1000 ≤ fu) (hg : g < 16) (h1 : 1 ≤ D) (hD : D ≤ 16) (hS : Sm A g D g) {N : Mm} (hR : RS B K L (mm_R N)) (hk : mkR B N k) (hF : ∀ p, p < 16 → Dt A g 16 p (mm_A N (B + 41) p)) : ∃ N', f_X5_keepFrom K L fu (B + 39) (nI g) N = some N' ∧ scK B N N' ∧ mm_I N' 163 (B + 39) = nI D ∧ ∀ i, i < D → mm_A N' (B + 42) i = nI (wlk A g D i) := by
  obtain ⟨N', r1, r2, r3, r4⟩ := kp_loop (B := B) (K := K) (L := L) (fu := fu) hkA hfu hg hD hS (D - 1) fu 0 (ms_I N 163 (B + 39) 0) hR hk hF (by rw [I_I, if_pos ⟨rfl, rfl⟩]; rfl) (fun i hi => by omega) (by omega) (by omega)
  refine ⟨N', ?_, scK.I3.tr r2, r3, r4⟩
  unfold f_X5_keepFrom
  rw [bn_eq]
  exact r1
/-- what a search of the class leaves -/
def fnd (A : Nat → Nat → Prop) (B : Nat) (N : Mm) (r : Int32) (N' : Mm) : Prop := (r = 0 ∧ (∀ g, g < 16 → ¬ Cy A g) ∧ scr B N N') ∨ (r = 1 ∧ ∃ g D, Rg A g D ∧ scK B N N' ∧ mm_I N' 163 (B + 39) = nI D ∧ ∀ i, i < D → mm_A N' (B + 42) i = nI (wlk A g D i))
theorem fi_loop (hkA : ∀ p q, p < 16 → q < 16 → (k p / 2 ^ q % 2 = 1 ↔ A p q)) (hfu : 1000 ≤ fu) : ∀ (d x v : Nat) (N : Mm), RS B K L (mm_R N) → mkR B N k → (∀ g, g < v → ¬ Cy A g) → v + d = 16 → d < x → ∃ r N', f_X5_findIn_7 K L fu (B + 39) x (nI v) N = some (r, N') ∧ fnd A B N r N' := by
  intro d
  induction d with
  | zero =>
    intro x v N hR hk hno h1 h2
    obtain ⟨x, rfl⟩ : ∃ x', x = x' + 1 := ⟨x - 1, by omega⟩
    have : v = 16 := by omega
    subst this
    refine ⟨0, N, ?_, Or.inl ⟨rfl, hno, scr.rf B N⟩⟩
    show f_X5_findIn_7b K L fu (f_X5_findIn_7 K L fu (B + 39) x) (B + 39) (nI 16) N = _
    unfold f_X5_findIn_7b
    rw [if_pos (by decide)]
  | succ d ih =>
    intro x v N hR hk hno h1 h2
    obtain ⟨x, rfl⟩ : ∃ x', x = x' + 1 := ⟨x - 1, by omega⟩
    have hv : v < 16 := by omega
    obtain ⟨N1, a1, a2, a3, a4⟩ := measure_eq (B := B) (K := K) (L := L) (fu := fu) (g := v) hkA hfu hv hR hk
    have hR1 : RS B K L (mm_R N1) := by rw [a2.1]; exact hR
    obtain ⟨w, w1, w2⟩ := nearest_eq (B := B) (K := K) (L := L) (fu := fu) (N := N1) (k := k) (A := A) (g := v) (v := v) hR1 a3 hkA a4 hv hfu
    have E : f_X5_findIn_7 K L fu (B + 39) (x + 1) (nI v) N = if w = -1 then f_X5_findIn_7 K L fu (B + 39) x (nI (v + 1)) N1 else Option.bind (f_X5_keepFrom K L fu (B + 39) (nI v) N1) (fun x5 => some ((1 : Int32), x5)) := by
      show f_X5_findIn_7b K L fu (f_X5_findIn_7 K L fu (B + 39) x) (B + 39) (nI v) N = _
      unfold f_X5_findIn_7b
      rw [if_neg (show ¬ (16 : Int32) ≤ nI v by rw [t_le, nI_toInt (by omega), show (16 : Int32).toInt = 16 from rfl]; omega), nI_1]
      refine (sb a1 _).trans ?_
      exact sb w1 _
    rw [E]
    by_cases y : w = -1
    · rw [if_pos y]
      have hc : ¬ Cy A v := by
        rintro ⟨n, n1, n2, n3⟩
        obtain ⟨n', rfl⟩ : ∃ n', n = n' + 1 := ⟨n - 1, by omega⟩
        obtain ⟨q, q1, q2, q3⟩ := n3
        obtain ⟨m, m1, m2⟩ := Lp_of q3
        rcases w2 with ⟨_, z⟩ | ⟨q', m', z1, z2, z3, z4, _⟩
        · exact z q m q1 q2 (by omega) m2
        · rw [y] at z4
          exact nI_n1 (by omega) z4.symm
      obtain ⟨r, N', r1, r2⟩ := ih x (v + 1) N1 hR1 a3 (fun g hg => by
        by_cases e : g = v
        · rw [e]; exact hc
        · exact hno g (by omega)) (by omega) (by omega)
      refine ⟨r, N', r1, ?_⟩
      rcases r2 with ⟨z1, z2, z3⟩ | ⟨z1, g, D, z2, z3, z4⟩
      · exact Or.inl ⟨z1, z2, a2.tr z3⟩
      · exact Or.inr ⟨z1, g, D, z2, (scK.of a2).tr z3, z4⟩
    · rw [if_neg y]
      rcases w2 with ⟨z, _⟩ | ⟨q', m', z1, z2, z3, z4, z5, z6, _⟩
      · exact absurd z y
      · obtain ⟨D, d1, d2, d3⟩ := Sm_of (A := A) (g := v) (n := m' + 1) (by omega) ⟨q', z2, z5, z6.1⟩
        obtain ⟨N', r1, r2, r3⟩ := keep_eq (B := B) (K := K) (L := L) (fu := fu) hkA hfu hv d1 (by omega) d3 hR1 a3 a4
        exact ⟨1, N', sb r1 _, Or.inr ⟨rfl, v, D, ⟨hv, d1, by omega, d3, hno⟩, (scK.of a2).tr r2, r3⟩⟩
theorem findIn_eq {n : Nat} {S : Nat → Int32} {N : Mm} (c : Cw B n K L S N) (hfu : 1000 ≤ fu) : ∃ r N', f_X5_findIn K L fu (B + 39) (some (B + 1)) N = some (r, N') ∧ fnd (asksS S) B N r N' := by
  obtain ⟨N1, k, a1, a2, a3, a4⟩ := gather_eq (fu := fu) c hfu
  obtain ⟨r, N', r1, r2⟩ := fi_loop (B := B) (K := K) (L := L) (fu := fu) a4 hfu 16 fu 0 N1 (by rw [a2.1]; exact c.1.2.1.2.2.2.2.1) a3 (fun g hg => by omega) (by omega) (by omega)
  refine ⟨r, N', ?_, ?_⟩
  · unfold f_X5_findIn
    exact (sb a1 _).trans r1
  · rcases r2 with ⟨z1, z2, z3⟩ | ⟨z1, g, D, z2, z3, z4⟩
    · exact Or.inl ⟨z1, z2, a2.tr z3⟩
    · exact Or.inr ⟨z1, g, D, z2, (scK.of a2).tr z3, z4⟩
end KE
