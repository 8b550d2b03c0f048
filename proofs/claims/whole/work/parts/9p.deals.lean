/-! look: deals -/
def ab (e : Int32) : Int32 := if 0 ≤ e then e else 0 - e
def tm (n1 n2 d : Nat) (V : Int32) (k : Nat) : Nat := if ab (nI k * nI n2 - (nI d - nI k) * nI n1) < V then 0 else bi n1 k * bi n2 (d - k)
theorem tm_le (n1 n2 d : Nat) (V : Int32) (k : Nat) : tm n1 n2 d V k ≤ bi n1 k * bi n2 (d - k) := by
  unfold tm
  split <;> omega
theorem tm_all (n1 n2 d : Nat) (V : Int32) : sN (tm n1 n2 d V) (d + 1) ≤ bi (n1 + n2) d := by
  rw [← vander n2 n1 d]
  exact sN_le (fun i _ => tm_le n1 n2 d V i)
theorem sN_z {f : Nat → Nat} : ∀ {m : Nat}, (∀ i, i < m → f i = 0) → sN f m = 0
  | 0, _ => rfl
  | m + 1, h => by
    show sN f m + f m = 0
    rw [sN_z (fun i hi => h i (by omega)), h m (by omega)]
theorem sN_tail {f : Nat → Nat} {a : Nat} : ∀ {e : Nat}, (∀ i, a ≤ i → i < a + e → f i = 0) → sN f (a + e) = sN f a
  | 0, _ => rfl
  | e + 1, h => by
    show sN f (a + e) + f (a + e) = _
    rw [sN_tail (fun i h1 h2 => h i h1 (by omega)), h (a + e) (by omega) (by omega)]
    omega
section DL
variable {K L : Nat → Nat} {M : Mm} {fu a n1 n2 d hi : Nat} {V : Int32}
theorem deals_loop (h1 : n1 ≤ 30) (h2 : n2 ≤ 30) (hd : d ≤ 60) (hfu : 1000 ≤ fu) (i7 : mm_I M 327 a = nI n1) (i8 : mm_I M 328 a = nI n2) (hh : hi = if d < n1 then d else n1) : ∀ (e g k : Nat), d - n2 ≤ k → k + e = hi + 1 → e < g → f_X10_dealsAsFarApart_47 K L fu M a g (nI d) V (qN (sN (tm n1 n2 d V) k)) (nI k) = some (qN (sN (tm n1 n2 d V) (hi + 1))) := by
  have hhi : hi ≤ d ∧ hi ≤ n1 := by rw [hh]; split <;> omega
  have hmin : (if nI d < nI n1 then nI d else nI n1) = nI hi := by
    have e : nI d < nI n1 ↔ d < n1 := by rw [t_lt, nI_toInt (by omega), nI_toInt (by omega)]; omega
    by_cases q : d < n1
    · rw [if_pos (e.mpr q), hh, if_pos q]
    · rw [if_neg (fun x => q (e.mp x)), hh, if_neg q]
  intro e
  induction e with
  | zero =>
    intro g k hk he hg
    obtain ⟨g, rfl⟩ : ∃ g', g = g' + 1 := ⟨g - 1, by omega⟩
    have : k = hi + 1 := by omega
    subst this
    show f_X10_dealsAsFarApart_47b K L fu (f_X10_dealsAsFarApart_47 K L fu M a g) M a (nI d) V _ (nI (hi + 1)) = _
    unfold f_X10_dealsAsFarApart_47b
    rw [show mm_I M (32 * 10 + 7) a = _ from i7, hmin, if_pos (show nI hi < nI (hi + 1) by rw [t_lt, nI_toInt (by omega), nI_toInt (by omega)]; omega)]
  | succ e ih =>
    intro g k hk he hg
    obtain ⟨g, rfl⟩ : ∃ g', g = g' + 1 := ⟨g - 1, by omega⟩
    have hs : sN (tm n1 n2 d V) (k + 1) = sN (tm n1 n2 d V) k + tm n1 n2 d V k := rfl
    have ihk := ih g (k + 1) (by omega) (by omega) (by omega)
    rw [hs] at ihk
    show f_X10_dealsAsFarApart_47b K L fu (f_X10_dealsAsFarApart_47 K L fu M a g) M a (nI d) V _ (nI k) = _
    unfold f_X10_dealsAsFarApart_47b
    rw [show mm_I M (32 * 10 + 7) a = _ from i7, show mm_I M (32 * 10 + 8) a = _ from i8, hmin, if_neg (show ¬ nI hi < nI k by rw [t_lt, nI_toInt (by omega), nI_toInt (by omega)]; omega), nI_1]
    unfold tm at ihk
    by_cases q : ab (nI k * nI n2 - (nI d - nI k) * nI n1) < V
    · rw [if_pos q, Nat.add_zero] at ihk
      exact (if_pos q).trans ihk
    · rw [if_neg q] at ihk
      refine (if_neg q).trans ?_
      rw [nI_m (show k ≤ d by omega) (by omega), choose_eq (by omega) (show k ≤ n1 by omega) hfu]
      simp only [Option.bind_some]
      rw [choose_eq (by omega) (show d - k ≤ n2 by omega) hfu]
      simp only [Option.bind_some, bn_eq]
      rw [qN_mul, qN_add]
      exact ihk
theorem deals_eq {g1 g2 : Nat} (h1 : n1 ≤ 30) (h2 : n2 ≤ 30) (hg1 : g1 ≤ n1) (hg2 : g2 ≤ n2) (hfu : 1000 ≤ fu) (i7 : mm_I M 327 a = nI n1) (i8 : mm_I M 328 a = nI n2) (i9 : mm_I M 329 a = nI g1) (i10 : mm_I M 330 a = nI g2) : f_X10_dealsAsFarApart K L fu M a = some (qN (sN (tm n1 n2 (g1 + g2) (ab (nI g1 * nI n2 - nI g2 * nI n1))) (g1 + g2 + 1))) := by
  unfold f_X10_dealsAsFarApart
  rw [show mm_I M (32 * 10 + 7) a = _ from i7, show mm_I M (32 * 10 + 8) a = _ from i8, show mm_I M (32 * 10 + 9) a = _ from i9, show mm_I M (32 * 10 + 10) a = _ from i10, bn_eq, bn_eq, bn_eq, nI_add]
  generalize hd : g1 + g2 = d
  have hlo : (if (0 : Int32) < nI d - nI n2 then nI d - nI n2 else 0) = nI (d - n2) := by
    have e : (0 : Int32) < nI d - nI n2 ↔ n2 < d := by rw [t_lt, pk_sub_toInt (by omega) (by omega), show (0 : Int32).toInt = 0 from rfl]; omega
    by_cases q : n2 < d
    · rw [if_pos (e.mpr q), nI_m (by omega) (by omega)]
    · rw [if_neg (fun x => q (e.mp x)), show d - n2 = 0 by omega]
      rfl
  rw [hlo]
  show f_X10_dealsAsFarApart_47 K L fu M a fu (nI d) (ab (nI g1 * nI n2 - nI g2 * nI n1)) 0 (nI (d - n2)) = _
  generalize ab (nI g1 * nI n2 - nI g2 * nI n1) = V
  have z0 : sN (tm n1 n2 d V) (d - n2) = 0 := by
    refine sN_z (fun i hi => ?_)
    have := tm_le n1 n2 d V i
    rw [bi_gt (show n2 < d - i by omega), Nat.mul_zero] at this
    omega
  obtain ⟨hi, hhi⟩ : ∃ hi, hi = if d < n1 then d else n1 := ⟨_, rfl⟩
  have hb : hi ≤ d ∧ hi ≤ n1 ∧ (hi < d → hi = n1) ∧ d - n2 ≤ hi := by rw [hhi]; split <;> omega
  have := deals_loop (K := K) (L := L) (fu := fu) (V := V) h1 h2 (show d ≤ 60 by omega) hfu i7 i8 hhi (hi + 1 - (d - n2)) fu (d - n2) (Nat.le_refl _) (by omega) (by omega)
  rw [z0] at this
  refine (show f_X10_dealsAsFarApart_47 K L fu M a fu (nI d) V 0 (nI (d - n2)) = _ from this).trans ?_
  have ht : sN (tm n1 n2 d V) (hi + 1 + (d - hi)) = sN (tm n1 n2 d V) (hi + 1) := sN_tail (fun i h1 h2 => by
    have := tm_le n1 n2 d V i
    rw [bi_gt (show n1 < i by omega), Nat.zero_mul] at this
    omega)
  rw [← ht, show hi + 1 + (d - hi) = d + 1 by omega]
theorem ab_neg (e : Int32) : (if 0 ≤ e then e else -e) = ab e := by
  unfold ab
  rw [Int32.zero_sub]
theorem chances_loop {B : Nat} {v : Int32} (h1 : n1 ≤ 30) (h2 : n2 ≤ 30) (hd : d ≤ 60) (hfu : 1000 ≤ fu) (hV : V = ab v) : ∀ (e g k : Nat) (M : Mm), mm_I M 403 (B + 44) = nI n1 → mm_I M 404 (B + 44) = nI n2 → mm_J M 407 (B + 44) = qN (sN (tm n1 n2 d V) k) → k + e = d + 1 → e < g → ∃ M', f_X12_chances_54 K L fu (B + 44) g (nI d) v (nI k) M = some M' ∧ scr B M M' ∧ mm_I M' = mm_I M ∧ mm_J M' 407 (B + 44) = qN (sN (tm n1 n2 d V) (d + 1)) ∧ mm_J M' 408 (B + 44) = mm_J M 408 (B + 44) := by
  intro e
  induction e with
  | zero =>
    intro g k M i3 i4 j7 he hg
    obtain ⟨g, rfl⟩ : ∃ g', g = g' + 1 := ⟨g - 1, by omega⟩
    have : k = d + 1 := by omega
    subst this
    refine ⟨M, ?_, scr.rf B M, rfl, j7, rfl⟩
    show f_X12_chances_54b K L fu (f_X12_chances_54 K L fu (B + 44) g) (B + 44) (nI d) v (nI (d + 1)) M = _
    unfold f_X12_chances_54b
    rw [if_pos (show nI d < nI (d + 1) by rw [t_lt, nI_toInt (by omega), nI_toInt (by omega)]; omega)]
  | succ e ih =>
    intro g k M i3 i4 j7 he hg
    obtain ⟨g, rfl⟩ : ∃ g', g = g' + 1 := ⟨g - 1, by omega⟩
    have hs : sN (tm n1 n2 d V) (k + 1) = sN (tm n1 n2 d V) k + tm n1 n2 d V k := rfl
    have h89 : ∀ s : Int32, f_X12_chances_89 K L fu (f_X12_chances_54 K L fu (B + 44) g) (B + 44) (nI d) v (nI k) s M = if s < V then f_X12_chances_107 K L fu (f_X12_chances_54 K L fu (B + 44) g) (B + 44) (nI d) v (nI k) 0 M else f_X12_chances_107 K L fu (f_X12_chances_54 K L fu (B + 44) g) (B + 44) (nI d) v (nI k) 1 M := by
      intro s
      rw [hV, ← ab_neg]
      unfold f_X12_chances_89 f_X12_chances_99
      split <;> rfl
    have step : f_X12_chances_54 K L fu (B + 44) (g + 1) (nI d) v (nI k) M = if ab (nI k * nI n2 - (nI d - nI k) * nI n1) < V then f_X12_chances_107 K L fu (f_X12_chances_54 K L fu (B + 44) g) (B + 44) (nI d) v (nI k) 0 M else f_X12_chances_107 K L fu (f_X12_chances_54 K L fu (B + 44) g) (B + 44) (nI d) v (nI k) 1 M := by
      show f_X12_chances_54b K L fu (f_X12_chances_54 K L fu (B + 44) g) (B + 44) (nI d) v (nI k) M = _
      unfold f_X12_chances_54b
      rw [if_neg (show ¬ nI d < nI k by rw [t_lt, nI_toInt (by omega), nI_toInt (by omega)]; omega), show mm_I M (32 * 12 + 20) (B + 44) = _ from i4, show mm_I M (32 * 12 + 19) (B + 44) = _ from i3, bn_eq, h89, h89, ← ab_neg (nI k * nI n2 - (nI d - nI k) * nI n1)]
      by_cases q : (0 : Int32) ≤ nI k * nI n2 - (nI d - nI k) * nI n1
      · rw [if_pos q, if_pos q]
      · rw [if_neg q, if_neg q]
    rw [step]
    by_cases q : ab (nI k * nI n2 - (nI d - nI k) * nI n1) < V
    · rw [if_pos q]
      unfold f_X12_chances_107
      rw [if_pos rfl, nI_1]
      refine ih g (k + 1) M i3 i4 ?_ (by omega) (by omega)
      rw [j7, hs, show tm n1 n2 d V k = 0 by unfold tm; rw [if_pos q]]
      rfl
    · rw [if_neg q]
      unfold f_X12_chances_107
      rw [if_neg (by decide), show mm_I M (32 * 12 + 20) (B + 44) = _ from i4, show mm_I M (32 * 12 + 19) (B + 44) = _ from i3, nI_m (show k ≤ d by omega) (by omega), chosen_eq (by omega) hfu (show k ≤ 60 by omega)]
      simp only [Option.bind_some]
      rw [chosen_eq (by omega) hfu (show d - k ≤ 60 by omega)]
      simp only [Option.bind_some, bn_eq]
      rw [nI_1, show mm_J M (32 * 12 + 23) (B + 44) = _ from j7, qN_mul, qN_add]
      obtain ⟨M', r1, r2, r3, r4, r5⟩ := ih g (k + 1) (ms_J M (32 * 12 + 23) (B + 44) (qN (sN (tm n1 n2 d V) k + bi n1 k * bi n2 (d - k)))) i3 i4 (by
        rw [J_J, if_pos ⟨rfl, rfl⟩, hs, show tm n1 n2 d V k = bi n1 k * bi n2 (d - k) by unfold tm; rw [if_neg q]]) (by omega) (by omega)
      refine ⟨M', r1, scr.Jm.tr r2, r3, r4, r5.trans ?_⟩
      rw [J_J, if_neg (by omega)]
theorem chances_eq {B g1 g2 : Nat} {M : Mm} (h1 : n1 ≤ 30) (h2 : n2 ≤ 30) (hg1 : g1 ≤ n1) (hg2 : g2 ≤ n2) (hfu : 1000 ≤ fu) (i3 : mm_I M 403 (B + 44) = nI n1) (i4 : mm_I M 404 (B + 44) = nI n2) (i5 : mm_I M 405 (B + 44) = nI g1) (i6 : mm_I M 406 (B + 44) = nI g2) : ∃ M', f_X12_chances K L fu (B + 44) M = some M' ∧ scr B M M' ∧ mm_I M' = mm_I M ∧ mm_J M' 407 (B + 44) = qN (sN (tm n1 n2 (g1 + g2) (ab (nI g1 * nI n2 - nI g2 * nI n1))) (g1 + g2 + 1)) ∧ mm_J M' 408 (B + 44) = qN (bi (n1 + n2) (g1 + g2)) := by
  unfold f_X12_chances
  rw [bn_eq, bn_eq, bn_eq, I_J, show mm_I M (32 * 12 + 19) (B + 44) = _ from i3, show mm_I M (32 * 12 + 20) (B + 44) = _ from i4, show mm_I M (32 * 12 + 21) (B + 44) = _ from i5, show mm_I M (32 * 12 + 22) (B + 44) = _ from i6, nI_add, nI_add, chosen_eq (by omega) hfu (by omega)]
  simp only [Option.bind_some, bn_eq]
  obtain ⟨M', r1, r2, r3, r4, r5⟩ := chances_loop (K := K) (L := L) (fu := fu) (B := B) (V := ab (nI g1 * nI n2 - nI g2 * nI n1)) (v := nI g1 * nI n2 - nI g2 * nI n1) h1 h2 (show g1 + g2 ≤ 60 by omega) hfu rfl (g1 + g2 + 1) fu 0 (ms_J (ms_J M (32 * 12 + 23) (B + 44) 0) (32 * 12 + 24) (B + 44) (qN (bi (n1 + n2) (g1 + g2)))) i3 i4 (by rw [J_J, if_neg (by omega), J_J, if_pos ⟨rfl, rfl⟩]; rfl) (by omega) (by omega)
  refine ⟨M', r1, (scr.Jm.tr scr.Jm).tr r2, r3, r4, r5.trans ?_⟩
  rw [J_J, if_pos ⟨rfl, rfl⟩]
end DL
