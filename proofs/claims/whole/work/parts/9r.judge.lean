/-! look -/
def jdM (M : Mm) (a : Nat) (n1 n2 g1 g2 md ml en : Int32) : Mm := ms_I (ms_I (ms_I (ms_I (ms_I (ms_I (ms_I M 327 a n1) 328 a n2) 329 a g1) 330 a g2) 324 a md) 326 a ml) 325 a en
theorem jdM_e {M : Mm} {a c : Nat} {n1 n2 g1 g2 md ml en : Int32} (h : c ≠ a) : eqAt M (jdM M a n1 n2 g1 g2 md ml en) c := ((((((eqAt.I h).tr (eqAt.I h)).tr (eqAt.I h)).tr (eqAt.I h)).tr (eqAt.I h)).tr (eqAt.I h)).tr (eqAt.I h)
/-- a look's end -/
def jEn (g1 g2 n1 n2 pt lk al ap : Nat) (md : Int32) : Int32 := if ap * (10000 * lk) ≤ pt * al then (if nI g1 * nI n2 - nI g2 * nI n1 = 0 then 3 else if nI g1 * nI n2 - nI g2 * nI n1 ≤ 0 then 2 else 1) else (if md < nI lk then 0 else 3)
theorem jEn_3 (g1 g2 n1 n2 pt lk al ap : Nat) (md : Int32) : ∃ v : Nat, v ≤ 3 ∧ jEn g1 g2 n1 n2 pt lk al ap md = nI v := by
  unfold jEn
  repeat' split
  · exact ⟨3, by omega, rfl⟩
  · exact ⟨2, by omega, rfl⟩
  · exact ⟨1, by omega, rfl⟩
  · exact ⟨0, by omega, rfl⟩
  · exact ⟨3, by omega, rfl⟩
def jAl (n1 n2 g1 g2 : Nat) : Nat := bi (n1 + n2) (g1 + g2)
def jAp (n1 n2 g1 g2 : Nat) : Nat := sN (tm n1 n2 (g1 + g2) (ab (nI g1 * nI n2 - nI g2 * nI n1))) (g1 + g2 + 1)
def jMl (n1 n2 g1 g2 : Nat) : Int32 := nI (if jAp n1 n2 g1 g2 < jAl n1 n2 g1 g2 then mlc (jAl n1 n2 g1 g2) 6 0 (jAp n1 n2 g1 g2) else 1000000)
section JD
variable {K L : Nat → Nat} {M : Mm} {fu a n1 n2 g1 g2 pt lk : Nat}
theorem j_b (h1 : n1 ≤ 30) (h2 : n2 ≤ 30) (hg1 : g1 ≤ n1) (hg2 : g2 ≤ n2) : 0 < jAl n1 n2 g1 g2 ∧ jAl n1 n2 g1 g2 ≤ 118264581564861424 ∧ jAp n1 n2 g1 g2 ≤ jAl n1 n2 g1 g2 := ⟨bi_pos (by omega), bi_le (by omega) _, tm_all _ _ _ _⟩
theorem judge_eq {md : Int32} (h1 : n1 ≤ 30) (h2 : n2 ≤ 30) (hg1 : g1 ≤ n1) (hg2 : g2 ≤ n2) (hp : 1 ≤ pt ∧ pt ≤ 5000) (hl : 1 ≤ lk ∧ lk ≤ 20) (hfu : 1000 ≤ fu) (i2 : mm_I M 322 a = nI pt) (i3 : mm_I M 323 a = nI lk) (i4 : mm_I M 324 a + 1 = md) : f_X10_judge K L fu a (nI n1) (nI n2) (nI g1) (nI g2) M = some (jEn g1 g2 n1 n2 pt lk (jAl n1 n2 g1 g2) (jAp n1 n2 g1 g2) md, jdM M a (nI n1) (nI n2) (nI g1) (nI g2) md (jMl n1 n2 g1 g2) (jEn g1 g2 n1 n2 pt lk (jAl n1 n2 g1 g2) (jAp n1 n2 g1 g2) md)) := by
  obtain ⟨b1, b2, b3⟩ := j_b h1 h2 hg1 hg2
  obtain ⟨N0, hN0⟩ : ∃ N, N = ms_I (ms_I (ms_I (ms_I M 327 a (nI n1)) 328 a (nI n2)) 329 a (nI g1)) 330 a (nI g2) := ⟨_, rfl⟩
  obtain ⟨N1, hN1⟩ : ∃ N, N = ms_I N0 324 a md := ⟨_, rfl⟩
  obtain ⟨N2, hN2⟩ : ∃ N, N = ms_I N1 326 a (jMl n1 n2 g1 g2) := ⟨_, rfl⟩
  have q0 : ∀ x, x ≠ 327 → x ≠ 328 → x ≠ 329 → x ≠ 330 → mm_I N0 x a = mm_I M x a := fun x y1 y2 y3 y4 => by rw [hN0, I_I, if_neg (by omega), I_I, if_neg (by omega), I_I, if_neg (by omega), I_I, if_neg (by omega)]
  have q7 : mm_I N1 327 a = nI n1 := by rw [hN1, I_I, if_neg (by omega), hN0, I_I, if_neg (by omega), I_I, if_neg (by omega), I_I, if_neg (by omega), I_I, if_pos ⟨rfl, rfl⟩]
  have q8 : mm_I N1 328 a = nI n2 := by rw [hN1, I_I, if_neg (by omega), hN0, I_I, if_neg (by omega), I_I, if_neg (by omega), I_I, if_pos ⟨rfl, rfl⟩]
  have q9 : mm_I N1 329 a = nI g1 := by rw [hN1, I_I, if_neg (by omega), hN0, I_I, if_neg (by omega), I_I, if_pos ⟨rfl, rfl⟩]
  have q10 : mm_I N1 330 a = nI g2 := by rw [hN1, I_I, if_neg (by omega), hN0, I_I, if_pos ⟨rfl, rfl⟩]
  have w2 : ∀ x, x ≠ 326 → mm_I N2 x a = mm_I N1 x a := fun x y1 => by rw [hN2, I_I, if_neg (by omega)]
  have w22 : mm_I N2 322 a = nI pt := by rw [w2 _ (by decide), hN1, I_I, if_neg (by omega), q0 _ (by decide) (by decide) (by decide) (by decide), i2]
  have w23 : mm_I N2 323 a = nI lk := by rw [w2 _ (by decide), hN1, I_I, if_neg (by omega), q0 _ (by decide) (by decide) (by decide) (by decide), i3]
  have w24 : mm_I N2 324 a = md := by rw [w2 _ (by decide), hN1, I_I, if_pos ⟨rfl, rfl⟩]
  have hch : f_X10_choose fu (nI n1 + nI n2) (nI g1 + nI g2) = some (qN (jAl n1 n2 g1 g2)) := by rw [nI_add, nI_add]; exact choose_eq (by omega) (by omega) hfu
  have hde : f_X10_dealsAsFarApart K L fu N1 a = some (qN (jAp n1 n2 g1 g2)) := deals_eq h1 h2 hg1 hg2 hfu q7 q8 q9 q10
  have hmi : f_X10_inMillionths fu (qN (jAp n1 n2 g1 g2)) (qN (jAl n1 n2 g1 g2)) = some (jMl n1 n2 g1 g2) := millionths_c b1 b2 b3 hfu
  have hra : f_X10_isRare K L N2 a (qN (jAp n1 n2 g1 g2)) (qN (jAl n1 n2 g1 g2)) = some (if jAp n1 n2 g1 g2 * (10000 * lk) ≤ pt * jAl n1 n2 g1 g2 then 1 else 0) := rare_c hp hl b2 b3 w23 w22
  have hbe : f_X10_better K L N2 a = some (if nI g1 * nI n2 - nI g2 * nI n1 = 0 then 3 else if nI g1 * nI n2 - nI g2 * nI n1 ≤ 0 then 2 else 1) := by
    unfold f_X10_better
    rw [show mm_I N2 (32 * 10 + 9) a = nI g1 from (w2 329 (by decide)).trans q9, show mm_I N2 (32 * 10 + 8) a = nI n2 from (w2 328 (by decide)).trans q8, show mm_I N2 (32 * 10 + 10) a = nI g2 from (w2 330 (by decide)).trans q10, show mm_I N2 (32 * 10 + 7) a = nI n1 from (w2 327 (by decide)).trans q7, bn_eq]
    repeat' split
    all_goals rfl
  have fin : ∀ v : Int32, (mm_I (ms_I N2 325 a v) 325 a, ms_I N2 325 a v) = (v, jdM M a (nI n1) (nI n2) (nI g1) (nI g2) md (jMl n1 n2 g1 g2) v) := by
    intro v
    rw [I_I, if_pos ⟨rfl, rfl⟩, hN2, hN1, hN0]
    rfl
  unfold f_X10_judge
  refine (sb (show f_X10_setLook K L a (nI n1) (nI n2) (nI g1) (nI g2) M = some N0 by rw [hN0]; rfl) _).trans ?_
  rw [show mm_I N0 (32 * 10 + 4) a + 1 = md by rw [show mm_I N0 (32 * 10 + 4) a = mm_I M 324 a from q0 324 (by decide) (by decide) (by decide) (by decide)]; exact i4, show ms_I N0 (32 * 10 + 4) a md = N1 from hN1.symm, bn_eq, show mm_I N1 (32 * 10 + 7) a = _ from q7, show mm_I N1 (32 * 10 + 8) a = _ from q8, show mm_I N1 (32 * 10 + 9) a = _ from q9, show mm_I N1 (32 * 10 + 10) a = _ from q10]
  refine (sb hch _).trans ?_
  refine (sb hde _).trans ?_
  refine (sb hmi _).trans ?_
  rw [show ms_I N1 (32 * 10 + 6) a (jMl n1 n2 g1 g2) = N2 from hN2.symm, bn_eq]
  refine (sb hra _).trans ?_
  unfold jEn
  by_cases q : jAp n1 n2 g1 g2 * (10000 * lk) ≤ pt * jAl n1 n2 g1 g2
  · rw [if_pos q, if_neg (by decide), if_pos q]
    refine (sb hbe _).trans ?_
    rw [bn_eq]
    exact congrArg some (fin _)
  · rw [if_neg q, if_pos rfl, if_neg q, show mm_I N2 (32 * 10 + 4) a = md from w24, show mm_I N2 (32 * 10 + 3) a = nI lk from w23]
    by_cases q2 : md < nI lk
    · rw [if_pos q2, if_pos q2, bn_eq]
      exact congrArg some (fin 0)
    · rw [if_neg q2, if_neg q2, bn_eq]
      exact congrArg some (fin 3)
end JD
/-- the reference's row after a look -/
def jdS (S : Nat → Int32) (o : Nat) (n1 n2 g1 g2 md ml en : Int32) : Nat → Int32 := upd (upd (upd (upd (upd (upd (upd S (o + 81) md) (o + 83) ml) (o + 84) n1) (o + 85) n2) (o + 86) g1) (o + 87) g2) (o + 82) en
theorem jdS_o {S : Nat → Int32} {o i : Nat} {n1 n2 g1 g2 md ml en : Int32} (h : i < o + 81 ∨ o + 87 < i) : jdS S o n1 n2 g1 g2 md ml en i = S i := by
  unfold jdS
  simp only [upd_eq]
  repeat rw [if_neg (by omega)]
theorem rTr_jd {M : Mm} {b o : Nat} {S : Nat → Int32} {n1 n2 g1 g2 md ml en : Int32} (r : rTr M b S o) (he : ∃ v : Nat, v ≤ 3 ∧ en = nI v) : rTr (jdM M (b + 12) n1 n2 g1 g2 md ml en) b (jdS S o n1 n2 g1 g2 md ml en) o := by
  obtain ⟨r1, r2, r3, r4, r5⟩ := r
  have e : ∀ j, 77 ≤ j → j ≤ 80 → jdS S o n1 n2 g1 g2 md ml en (o + j) = S (o + j) := fun j h1 h2 => jdS_o (by omega)
  refine ⟨fun k hk => ?_, by rw [e 77 (by decide) (by decide), e 78 (by decide) (by decide)]; exact r2, by rw [e 79 (by decide) (by decide)]; exact r3, by rw [e 80 (by decide) (by decide)]; exact r4, ?_⟩
  · by_cases q : k < 4
    · have ek : jdM M (b + 12) n1 n2 g1 g2 md ml en = jdM M (b + 12) n1 n2 g1 g2 md ml en := rfl
      rw [show o + 77 + k = o + (77 + k) by omega, e (77 + k) (by omega) (by omega), ← Nat.add_assoc, ← r1 k hk]
      unfold jdM
      simp only [I_I]
      repeat rw [if_neg (by omega)]
    · unfold jdM jdS
      simp only [I_I, upd_eq]
      rcases (show k = 4 ∨ k = 5 ∨ k = 6 ∨ k = 7 ∨ k = 8 ∨ k = 9 ∨ k = 10 by omega) with rfl | rfl | rfl | rfl | rfl | rfl | rfl <;> simp [Nat.add_assoc]
  · obtain ⟨v, v1, v2⟩ := he
    refine ⟨v, v1, ?_⟩
    unfold jdS
    rw [upd_eq, if_pos rfl, v2]
