/-! look: sums -/
def sb1 (b c : Nat → Int32) : Nat → Int32
  | 0 => 0
  | k + 1 => if b k = 0 then sb1 b c k else sb1 b c k + c k
def sb2 (a b c : Nat → Int32) : Nat → Int32
  | 0 => 0
  | k + 1 => if a k = 0 then sb2 a b c k else if b k = 0 then sb2 a b c k else sb2 a b c k + c k
theorem sb1_2 {a b c : Nat → Int32} : ∀ {k : Nat}, (∀ i, i < k → a i = 0 → c i = 0) → sb1 b c k = sb2 a b c k
  | 0, _ => rfl
  | k + 1, h => by
    show (if b k = 0 then sb1 b c k else sb1 b c k + c k) = (if a k = 0 then sb2 a b c k else if b k = 0 then sb2 a b c k else sb2 a b c k + c k)
    rw [sb1_2 (fun i hi => h i (by omega))]
    by_cases q : a k = 0
    · rw [if_pos q, h k (by omega) q, Int32.add_zero]
      split <;> rfl
    · rw [if_neg q]
theorem sb1_2' {a b c : Nat → Int32} : ∀ {k : Nat}, (∀ i, i < k → b i = 0 → c i = 0) → sb1 a c k = sb2 a b c k
  | 0, _ => rfl
  | k + 1, h => by
    show (if a k = 0 then sb1 a c k else sb1 a c k + c k) = (if a k = 0 then sb2 a b c k else if b k = 0 then sb2 a b c k else sb2 a b c k + c k)
    rw [sb1_2' (fun i hi => h i (by omega))]
    by_cases q : b k = 0
    · rw [if_pos q, h k (by omega) q, Int32.add_zero]
    · rw [if_neg q]
theorem sb2_n {a b c g : Nat → Int32} : ∀ {k : Nat}, (∀ i, i < k → ∃ x y : Nat, c i = nI x ∧ g i = nI y ∧ y ≤ x ∧ x ≤ 1000000) → ∃ N G : Nat, sb2 a b c k = nI N ∧ sb2 a b g k = nI G ∧ G ≤ N ∧ N ≤ 1000000 * k
  | 0, _ => ⟨0, 0, rfl, rfl, by omega, by omega⟩
  | k + 1, h => by
    obtain ⟨N, G, h1, h2, h3, h4⟩ := sb2_n (a := a) (b := b) (c := c) (g := g) (k := k) (fun i hi => h i (by omega))
    obtain ⟨x, y, e1, e2, e3, e4⟩ := h k (by omega)
    have s1 : sb2 a b c (k + 1) = if a k = 0 then sb2 a b c k else if b k = 0 then sb2 a b c k else sb2 a b c k + c k := rfl
    have s2 : sb2 a b g (k + 1) = if a k = 0 then sb2 a b g k else if b k = 0 then sb2 a b g k else sb2 a b g k + g k := rfl
    rw [s1, s2, h1, h2, e1, e2, nI_add, nI_add]
    by_cases q : a k = 0
    · rw [if_pos q, if_pos q]; exact ⟨N, G, rfl, rfl, h3, by omega⟩
    · rw [if_neg q, if_neg q]
      by_cases q2 : b k = 0
      · rw [if_pos q2, if_pos q2]; exact ⟨N, G, rfl, rfl, h3, by omega⟩
      · rw [if_neg q2, if_neg q2]; exact ⟨N + x, G + y, rfl, rfl, by omega, by omega⟩
/-- rows of counts: told, calls, goods of way w -/
def rT (S : Nat → Int32) (o w m : Nat) : Int32 := S (o + 100 + 4 * (240 * w + m))
def rC (S : Nat → Int32) (o w m : Nat) : Int32 := S (o + 101 + 4 * (240 * w + m))
def rG (S : Nat → Int32) (o w m : Nat) : Int32 := S (o + 103 + 4 * (240 * w + m))
section LS
variable {B : Nat} {K L : Nat → Nat} {M : Mm} {fu b o x y mi p : Nat} {S : Nat → Int32}
theorem rCt.z {w : Nat} (r : rCt M b S o w) (m : Nat) (hm : m < 240) : (rT S o w m = 0 → rC S o w m = 0 ∧ rG S o w m = 0) ∧ ∃ c g : Nat, rC S o w m = nI c ∧ rG S o w m = nI g ∧ g ≤ c ∧ c ≤ 1000000 := by
  obtain ⟨-, -, e, -, -, r5⟩ := r
  unfold rT rC rG
  rcases r5 m hm with ⟨q1, q2, q3, q4, -⟩ | ⟨q1, -, -, -, -, c, f, g, c1, c2, c3, c4, c5, c6⟩
  · exact ⟨fun _ => ⟨q2, q4⟩, 0, 0, q2, q4, by omega, by omega⟩
  · exact ⟨fun h => by rw [q1] at h; exact absurd h (by decide), c, g, c4, c6, c3, c1⟩
theorem calls_b (h : BS K L (mm_R M) (mm_C M) b) (hx : x < 4) (hy : y < 4) (rx : rCt M b S o x) (ry : rCt M b S o y) (hm : mi < 240) : ∀ (d g i : Nat), i + d = mi + 1 → d < g → f_X2_callsBeside_5 K L fu M (b + 14 + 4 * x) g (some (b + 14 + 4 * y)) (nI mi) (sb1 (rT S o y) (rC S o x) i) (nI i) = some (sb1 (rT S o y) (rC S o x) (mi + 1)) := by
  intro d
  induction d with
  | zero =>
    intro g i hi hg
    obtain ⟨g, rfl⟩ : ∃ g', g = g' + 1 := ⟨g - 1, by omega⟩
    have : i = mi + 1 := by omega
    subst this
    show f_X2_callsBeside_5b K L fu (f_X2_callsBeside_5 K L fu M (b + 14 + 4 * x) g) M (b + 14 + 4 * x) (some (b + 14 + 4 * y)) (nI mi) _ (nI (mi + 1)) = _
    unfold f_X2_callsBeside_5b
    rw [if_pos (show nI mi < nI (mi + 1) by rw [t_lt, nI_toInt (by omega), nI_toInt (by omega)]; omega)]
  | succ d ih =>
    intro g i hi hg
    obtain ⟨g, rfl⟩ : ∃ g', g = g' + 1 := ⟨g - 1, by omega⟩
    have ihk := ih g (i + 1) (by omega) (by omega)
    show f_X2_callsBeside_5b K L fu (f_X2_callsBeside_5 K L fu M (b + 14 + 4 * x) g) M (b + 14 + 4 * x) (some (b + 14 + 4 * y)) (nI mi) _ (nI i) = _
    unfold f_X2_callsBeside_5b
    rw [if_neg (show ¬ nI mi < nI i by rw [t_lt, nI_toInt (by omega), nI_toInt (by omega)]; omega), rc_ok (h.2.2.2.2.2.2.2.2 y hy).2.1]
    simp only [Option.bind_some, isTold_eq h hy ry (show i < 240 by omega), callsAt_eq h hx rx (show i < 240 by omega), bn_eq, nI_1]
    rw [← ihk]
    show (if rT S o y i = 0 then f_X2_callsBeside_5 K L fu M (b + 14 + 4 * x) g (some (b + 14 + 4 * y)) (nI mi) (sb1 (rT S o y) (rC S o x) i) (nI (i + 1)) else f_X2_callsBeside_5 K L fu M (b + 14 + 4 * x) g (some (b + 14 + 4 * y)) (nI mi) (sb1 (rT S o y) (rC S o x) i + rC S o x i) (nI (i + 1))) = f_X2_callsBeside_5 K L fu M (b + 14 + 4 * x) g (some (b + 14 + 4 * y)) (nI mi) (if rT S o y i = 0 then sb1 (rT S o y) (rC S o x) i else sb1 (rT S o y) (rC S o x) i + rC S o x i) (nI (i + 1))
    split <;> rfl
theorem goods_b (h : BS K L (mm_R M) (mm_C M) b) (hx : x < 4) (hy : y < 4) (rx : rCt M b S o x) (ry : rCt M b S o y) (hm : mi < 240) : ∀ (d g i : Nat), i + d = mi + 1 → d < g → f_X2_goodsBeside_5 K L fu M (b + 14 + 4 * x) g (some (b + 14 + 4 * y)) (nI mi) (sb1 (rT S o y) (rG S o x) i) (nI i) = some (sb1 (rT S o y) (rG S o x) (mi + 1)) := by
  intro d
  induction d with
  | zero =>
    intro g i hi hg
    obtain ⟨g, rfl⟩ : ∃ g', g = g' + 1 := ⟨g - 1, by omega⟩
    have : i = mi + 1 := by omega
    subst this
    show f_X2_goodsBeside_5b K L fu (f_X2_goodsBeside_5 K L fu M (b + 14 + 4 * x) g) M (b + 14 + 4 * x) (some (b + 14 + 4 * y)) (nI mi) _ (nI (mi + 1)) = _
    unfold f_X2_goodsBeside_5b
    rw [if_pos (show nI mi < nI (mi + 1) by rw [t_lt, nI_toInt (by omega), nI_toInt (by omega)]; omega)]
  | succ d ih =>
    intro g i hi hg
    obtain ⟨g, rfl⟩ : ∃ g', g = g' + 1 := ⟨g - 1, by omega⟩
    have ihk := ih g (i + 1) (by omega) (by omega)
    show f_X2_goodsBeside_5b K L fu (f_X2_goodsBeside_5 K L fu M (b + 14 + 4 * x) g) M (b + 14 + 4 * x) (some (b + 14 + 4 * y)) (nI mi) _ (nI i) = _
    unfold f_X2_goodsBeside_5b
    rw [if_neg (show ¬ nI mi < nI i by rw [t_lt, nI_toInt (by omega), nI_toInt (by omega)]; omega), rc_ok (h.2.2.2.2.2.2.2.2 y hy).2.1]
    simp only [Option.bind_some, isTold_eq h hy ry (show i < 240 by omega), goodsAt_eq h hx rx (show i < 240 by omega), bn_eq, nI_1]
    rw [← ihk]
    show (if rT S o y i = 0 then f_X2_goodsBeside_5 K L fu M (b + 14 + 4 * x) g (some (b + 14 + 4 * y)) (nI mi) (sb1 (rT S o y) (rG S o x) i) (nI (i + 1)) else f_X2_goodsBeside_5 K L fu M (b + 14 + 4 * x) g (some (b + 14 + 4 * y)) (nI mi) (sb1 (rT S o y) (rG S o x) i + rG S o x i) (nI (i + 1))) = f_X2_goodsBeside_5 K L fu M (b + 14 + 4 * x) g (some (b + 14 + 4 * y)) (nI mi) (if rT S o y i = 0 then sb1 (rT S o y) (rG S o x) i else sb1 (rT S o y) (rG S o x) i + rG S o x i) (nI (i + 1))
    split <;> rfl
/-- the four sums of the reference, so far -/
def sm4 (B : Nat) (M : Mm) (S : Nat → Int32) (o x y i : Nat) : Prop := mm_I M 403 (B + 44) = sb2 (rT S o x) (rT S o y) (rC S o x) i ∧ mm_I M 404 (B + 44) = sb2 (rT S o x) (rT S o y) (rC S o y) i ∧ mm_I M 405 (B + 44) = sb2 (rT S o x) (rT S o y) (rG S o x) i ∧ mm_I M 406 (B + 44) = sb2 (rT S o x) (rT S o y) (rG S o y) i
theorem sums_loop (hp : p < 16) (hx : x < 4) (hy : y < 4) (hm : mi < 240) (s77 : S (3940 * p + 77) = nI x) (s78 : S (3940 * p + 78) = nI y) : ∀ (d g i : Nat) (M : Mm), MS B K L (mm_R M) → mm_A M (B + 45) = S → sm4 B M S (3940 * p) x y i → i + d = mi + 1 → d < g → ∃ M', f_X12_sums_22 K L fu (B + 44) g (nI p) (nI mi) (nI i) M = some M' ∧ scr B M M' ∧ sm4 B M' S (3940 * p) x y (mi + 1) := by
  intro d
  induction d with
  | zero =>
    intro g i M hM hS h4 hi hg
    obtain ⟨g, rfl⟩ : ∃ g', g = g' + 1 := ⟨g - 1, by omega⟩
    have : i = mi + 1 := by omega
    subst this
    refine ⟨M, ?_, scr.rf B M, h4⟩
    show f_X12_sums_22b K L fu (f_X12_sums_22 K L fu (B + 44) g) (B + 44) (nI p) (nI mi) (nI (mi + 1)) M = _
    unfold f_X12_sums_22b
    rw [if_pos (show nI mi < nI (mi + 1) by rw [t_lt, nI_toInt (by omega), nI_toInt (by omega)]; omega)]
  | succ d ih =>
    intro g i M hM hS h4 hi hg
    obtain ⟨g, rfl⟩ : ∃ g', g = g' + 1 := ⟨g - 1, by omega⟩
    have rd : ∀ (N : Mm) (w k : Nat) (c : Int32), mm_R N = mm_R M → mm_A N = mm_A M → w < 4 → k ≤ 3 → c = nI (100 + 4 * (240 * w + i) + k) → f_X12_of K L N (B + 44) (nI p) c = some (S (3940 * p + (100 + k) + 4 * (240 * w + i))) := by
      intro N w k c hR hA hw hk hc
      rw [m_of (c := c) (by rw [hR]; exact hM) hp (100 + 4 * (240 * w + i) + k) hc (by omega), hA, hS, show 3940 * p + (100 + 4 * (240 * w + i) + k) = 3940 * p + (100 + k) + 4 * (240 * w + i) by omega]
    obtain ⟨f1, f2, f3, f4⟩ := h4
    have n2 : ∀ c, sb2 (rT S (3940 * p) x) (rT S (3940 * p) y) c (i + 1) = if rT S (3940 * p) x i = 0 then sb2 (rT S (3940 * p) x) (rT S (3940 * p) y) c i else if rT S (3940 * p) y i = 0 then sb2 (rT S (3940 * p) x) (rT S (3940 * p) y) c i else sb2 (rT S (3940 * p) x) (rT S (3940 * p) y) c i + c i := fun c => rfl
    have o77 : f_X12_of K L M (B + 44) (nI p) 77 = some (nI x) := by rw [m_of (c := 77) hM hp 77 rfl (by decide), hS, s77]
    have o78 : f_X12_of K L M (B + 44) (nI p) 78 = some (nI y) := by rw [m_of (c := 78) hM hp 78 rfl (by decide), hS, s78]
    have tx : f_X12_of K L M (B + 44) (nI p) (nI (100 + 4 * (240 * x + i))) = some (rT S (3940 * p) x i) := rd M x 0 _ rfl rfl hx (by decide) rfl
    have ty : f_X12_of K L M (B + 44) (nI p) (nI (100 + 4 * (240 * y + i))) = some (rT S (3940 * p) y i) := rd M y 0 _ rfl rfl hy (by decide) rfl
    obtain ⟨N1, hN1⟩ : ∃ N, N = ms_I M 403 (B + 44) (mm_I M 403 (B + 44) + rC S (3940 * p) x i) := ⟨_, rfl⟩
    obtain ⟨N2, hN2⟩ : ∃ N, N = ms_I N1 404 (B + 44) (mm_I N1 404 (B + 44) + rC S (3940 * p) y i) := ⟨_, rfl⟩
    obtain ⟨N3, hN3⟩ : ∃ N, N = ms_I N2 405 (B + 44) (mm_I N2 405 (B + 44) + rG S (3940 * p) x i) := ⟨_, rfl⟩
    obtain ⟨N4, hN4⟩ : ∃ N, N = ms_I N3 406 (B + 44) (mm_I N3 406 (B + 44) + rG S (3940 * p) y i) := ⟨_, rfl⟩
    have r1 : mm_R N1 = mm_R M ∧ mm_A N1 = mm_A M := by rw [hN1]; exact ⟨rfl, rfl⟩
    have r2 : mm_R N2 = mm_R M ∧ mm_A N2 = mm_A M := by rw [hN2]; exact r1
    have r3 : mm_R N3 = mm_R M ∧ mm_A N3 = mm_A M := by rw [hN3]; exact r2
    have r4 : mm_R N4 = mm_R M ∧ mm_A N4 = mm_A M := by rw [hN4]; exact r3
    have cx : f_X12_of K L M (B + 44) (nI p) (nI (100 + 4 * (240 * x + i)) + 1) = some (rC S (3940 * p) x i) := rd M x 1 _ rfl rfl hx (by decide) (nI_1 _)
    have cy : f_X12_of K L N1 (B + 44) (nI p) (nI (100 + 4 * (240 * y + i)) + 1) = some (rC S (3940 * p) y i) := rd N1 y 1 _ r1.1 r1.2 hy (by decide) (nI_1 _)
    have gx : f_X12_of K L N2 (B + 44) (nI p) (nI (100 + 4 * (240 * x + i)) + 3) = some (rG S (3940 * p) x i) := rd N2 x 3 _ r2.1 r2.2 hx (by decide) (nI_add _ 3)
    have gy : f_X12_of K L N3 (B + 44) (nI p) (nI (100 + 4 * (240 * y + i)) + 3) = some (rG S (3940 * p) y i) := rd N3 y 3 _ r3.1 r3.2 hy (by decide) (nI_add _ 3)
    have hlt : ¬ nI mi < nI i := by rw [t_lt, nI_toInt (by omega), nI_toInt (by omega)]; omega
    have E : f_X12_sums_22 K L fu (B + 44) (g + 1) (nI p) (nI mi) (nI i) M = if rT S (3940 * p) x i = 0 then f_X12_sums_22 K L fu (B + 44) g (nI p) (nI mi) (nI (i + 1)) M else if rT S (3940 * p) y i = 0 then f_X12_sums_22 K L fu (B + 44) g (nI p) (nI mi) (nI (i + 1)) M else f_X12_sums_22 K L fu (B + 44) g (nI p) (nI mi) (nI (i + 1)) N4 := by
      rw [← nI_1 i]
      show f_X12_sums_22b K L fu (f_X12_sums_22 K L fu (B + 44) g) (B + 44) (nI p) (nI mi) (nI i) M = _
      unfold f_X12_sums_22b
      refine (if_neg hlt).trans ?_
      refine (sb o77 _).trans ?_
      refine (sb (minute_eq x i) _).trans ?_
      refine (sb o78 _).trans ?_
      refine (sb (minute_eq y i) _).trans ?_
      refine (sb tx _).trans ?_
      by_cases q1 : rT S (3940 * p) x i = 0
      · rw [if_pos q1, if_pos q1]
      · rw [if_neg q1, if_neg q1]
        refine (sb ty _).trans ?_
        by_cases q2 : rT S (3940 * p) y i = 0
        · rw [if_pos q2, if_pos q2]
        · rw [if_neg q2, if_neg q2]
          refine (sb cx _).trans ?_
          rw [bn_eq, show ms_I M (32 * 12 + 19) (B + 44) (mm_I M (32 * 12 + 19) (B + 44) + rC S (3940 * p) x i) = N1 from hN1.symm]
          refine (sb cy _).trans ?_
          rw [bn_eq, show ms_I N1 (32 * 12 + 20) (B + 44) (mm_I N1 (32 * 12 + 20) (B + 44) + rC S (3940 * p) y i) = N2 from hN2.symm]
          refine (sb gx _).trans ?_
          rw [bn_eq, show ms_I N2 (32 * 12 + 21) (B + 44) (mm_I N2 (32 * 12 + 21) (B + 44) + rG S (3940 * p) x i) = N3 from hN3.symm]
          refine (sb gy _).trans ?_
          rw [bn_eq, show ms_I N3 (32 * 12 + 22) (B + 44) (mm_I N3 (32 * 12 + 22) (B + 44) + rG S (3940 * p) y i) = N4 from hN4.symm]
    rw [E]
    by_cases q1 : rT S (3940 * p) x i = 0
    · rw [if_pos q1]
      exact ih g (i + 1) M hM hS ⟨by rw [n2, if_pos q1]; exact f1, by rw [n2, if_pos q1]; exact f2, by rw [n2, if_pos q1]; exact f3, by rw [n2, if_pos q1]; exact f4⟩ (by omega) (by omega)
    · rw [if_neg q1]
      by_cases q2 : rT S (3940 * p) y i = 0
      · rw [if_pos q2]
        exact ih g (i + 1) M hM hS ⟨by rw [n2, if_neg q1, if_pos q2]; exact f1, by rw [n2, if_neg q1, if_pos q2]; exact f2, by rw [n2, if_neg q1, if_pos q2]; exact f3, by rw [n2, if_neg q1, if_pos q2]; exact f4⟩ (by omega) (by omega)
      · rw [if_neg q2]
        have s4 : sm4 B N4 S (3940 * p) x y (i + 1) := by
          refine ⟨?_, ?_, ?_, ?_⟩
          · rw [hN4, I_I, if_neg (by omega), hN3, I_I, if_neg (by omega), hN2, I_I, if_neg (by omega), hN1, I_I, if_pos ⟨rfl, rfl⟩, n2, if_neg q1, if_neg q2, f1]
          · rw [hN4, I_I, if_neg (by omega), hN3, I_I, if_neg (by omega), hN2, I_I, if_pos ⟨rfl, rfl⟩, hN1, I_I, if_neg (by omega), n2, if_neg q1, if_neg q2, f2]
          · rw [hN4, I_I, if_neg (by omega), hN3, I_I, if_pos ⟨rfl, rfl⟩, hN2, I_I, if_neg (by omega), hN1, I_I, if_neg (by omega), n2, if_neg q1, if_neg q2, f3]
          · rw [hN4, I_I, if_pos ⟨rfl, rfl⟩, hN3, I_I, if_neg (by omega), hN2, I_I, if_neg (by omega), hN1, I_I, if_neg (by omega), n2, if_neg q1, if_neg q2, f4]
        have sc : scr B M N4 := by
          rw [hN4, hN3, hN2, hN1]
          exact (((scr.Im (by omega)).tr (scr.Im (by omega))).tr (scr.Im (by omega))).tr (scr.Im (by omega))
        obtain ⟨M', e1, e2, e3⟩ := ih g (i + 1) N4 (by rw [r4.1]; exact hM) (by rw [r4.2]; exact hS) s4 (by omega) (by omega)
        exact ⟨M', e1, sc.tr e2, e3⟩
theorem sums_eq (hp : p < 16) (hx : x < 4) (hy : y < 4) (hm : mi < 240) (hfu : 1000 ≤ fu) (s77 : S (3940 * p + 77) = nI x) (s78 : S (3940 * p + 78) = nI y) {M : Mm} (hM : MS B K L (mm_R M)) (hS : mm_A M (B + 45) = S) : ∃ M', f_X12_sums K L fu (B + 44) (nI p) (nI mi) M = some M' ∧ scr B M M' ∧ sm4 B M' S (3940 * p) x y (mi + 1) := by
  unfold f_X12_sums
  rw [bn_eq, bn_eq, bn_eq, bn_eq]
  obtain ⟨M', r1, r2, r3⟩ := sums_loop (K := K) (L := L) (fu := fu) (B := B) hp hx hy hm s77 s78 (mi + 1) fu 0 (ms_I (ms_I (ms_I (ms_I M (32 * 12 + 19) (B + 44) 0) (32 * 12 + 20) (B + 44) 0) (32 * 12 + 21) (B + 44) 0) (32 * 12 + 22) (B + 44) 0) hM hS (by
    refine ⟨?_, ?_, ?_, ?_⟩
    · rw [I_I, if_neg (by omega), I_I, if_neg (by omega), I_I, if_neg (by omega), I_I, if_pos ⟨rfl, rfl⟩]; rfl
    · rw [I_I, if_neg (by omega), I_I, if_neg (by omega), I_I, if_pos ⟨rfl, rfl⟩]; rfl
    · rw [I_I, if_neg (by omega), I_I, if_pos ⟨rfl, rfl⟩]; rfl
    · rw [I_I, if_pos ⟨rfl, rfl⟩]; rfl) (by omega) (by omega)
  exact ⟨M', r1, ((((scr.Im (by omega)).tr (scr.Im (by omega))).tr (scr.Im (by omega))).tr (scr.Im (by omega))).tr r2, r3⟩
end LS
