/-- the reference behind the sums -/
theorem look_ref {B : Nat} {K L : Nat → Nat} {M : Mm} {fu p n1 n2 g1 g2 pt lk : Nat} {S : Nat → Int32} {md : Int32} (hM : MS B K L (mm_R M)) (hp : p < 16) (hS : mm_A M (B + 45) = S) (h1 : n1 ≤ 30) (h2 : n2 ≤ 30) (hg1 : g1 ≤ n1) (hg2 : g2 ≤ n2) (hpt : 1 ≤ pt ∧ pt ≤ 5000) (hl : 1 ≤ lk ∧ lk ≤ 20) (s79 : S (3940 * p + 79) = nI pt) (s80 : S (3940 * p + 80) = nI lk) (s81 : S (3940 * p + 81) + 1 = md) (hfu : 1000 ≤ fu) (i3 : mm_I M 403 (B + 44) = nI n1) (i4 : mm_I M 404 (B + 44) = nI n2) (i5 : mm_I M 405 (B + 44) = nI g1) (i6 : mm_I M 406 (B + 44) = nI g2) :
    ∃ M', scr B M M' ∧ (Option.bind (f_X12_chances K L fu (B + 44) M) (fun x3 => Option.bind (f_X12_of K L x3 (B + 44) (nI p) (81 : Int32)) (fun x5 => Option.bind (f_X12_to K L (B + 44) (nI p) (81 : Int32) (x5 + (1 : Int32)) x3) (fun x7 => Option.bind (f_X12_millionths K L fu x7 (B + 44)) (fun x9 => Option.bind (f_X12_to K L (B + 44) (nI p) (83 : Int32) x9 x7) (fun x11 => Option.bind (f_X12_to K L (B + 44) (nI p) (84 : Int32) (mm_I x11 (32 * 12 + 19) (B + 44)) x11) (fun x13 => Option.bind (f_X12_to K L (B + 44) (nI p) (85 : Int32) (mm_I x13 (32 * 12 + 20) (B + 44)) x13) (fun x15 => Option.bind (f_X12_to K L (B + 44) (nI p) (86 : Int32) (mm_I x15 (32 * 12 + 21) (B + 44)) x15) (fun x17 => Option.bind (f_X12_to K L (B + 44) (nI p) (87 : Int32) (mm_I x17 (32 * 12 + 22) (B + 44)) x17) (fun x19 => bn (((mm_I x19 (32 * 12 + 21) (B + 44)) * (mm_I x19 (32 * 12 + 20) (B + 44))) - ((mm_I x19 (32 * 12 + 22) (B + 44)) * (mm_I x19 (32 * 12 + 19) (B + 44)))) (fun x21 => Option.bind (f_X12_of K L x19 (B + 44) (nI p) (80 : Int32)) (fun x23 => Option.bind (f_X12_of K L x19 (B + 44) (nI p) (79 : Int32)) (fun x25 => Option.bind (f_X12_isAbove (mm_J x19 (32 * 12 + 23) (B + 44)) ((10000 : Int64) * (x23.toInt64)) (mm_J x19 (32 * 12 + 24) (B + 44)) (x25.toInt64)) (fun x27 => if x27 = 0 then f_X12_look_276 K L fu (B + 44) (nI p) x21 (1 : Int32) x19 else f_X12_look_276 K L fu (B + 44) (nI p) x21 (0 : Int32) x19))))))))))))))
      = some (jEn g1 g2 n1 n2 pt lk (jAl n1 n2 g1 g2) (jAp n1 n2 g1 g2) md, ms_A M' (B + 45) (jdS S (3940 * p) (nI n1) (nI n2) (nI g1) (nI g2) md (jMl n1 n2 g1 g2) (jEn g1 g2 n1 n2 pt lk (jAl n1 n2 g1 g2) (jAp n1 n2 g1 g2) md))) := by
  obtain ⟨b1, b2, b3⟩ := j_b h1 h2 hg1 hg2
  obtain ⟨N, c1, c2, c3, c4, c5⟩ := chances_eq (K := K) (L := L) (fu := fu) h1 h2 hg1 hg2 hfu i3 i4 i5 i6
  have c4 : mm_J N 407 (B + 44) = qN (jAp n1 n2 g1 g2) := c4
  have c5 : mm_J N 408 (B + 44) = qN (jAl n1 n2 g1 g2) := c5
  have hN : MS B K L (mm_R N) := c2.MS hM
  have hT : ∀ T, MS B K L (mm_R (ms_A N (B + 45) T)) := fun _ => hN
  have hNS : mm_A N (B + 45) = S := c2.S.trans hS
  have e3 : ∀ T, mm_I (ms_A N (B + 45) T) (32 * 12 + 19) (B + 44) = nI n1 := fun T => by show mm_I N 403 (B + 44) = _; rw [c3]; exact i3
  have e4 : ∀ T, mm_I (ms_A N (B + 45) T) (32 * 12 + 20) (B + 44) = nI n2 := fun T => by show mm_I N 404 (B + 44) = _; rw [c3]; exact i4
  have e5 : ∀ T, mm_I (ms_A N (B + 45) T) (32 * 12 + 21) (B + 44) = nI g1 := fun T => by show mm_I N 405 (B + 44) = _; rw [c3]; exact i5
  have e6 : ∀ T, mm_I (ms_A N (B + 45) T) (32 * 12 + 22) (B + 44) = nI g2 := fun T => by show mm_I N 406 (B + 44) = _; rw [c3]; exact i6
  have to' : ∀ (T : Nat → Int32) (k : Nat) (c v : Int32), c = nI k → k < 3940 → f_X12_to K L (B + 44) (nI p) c v (ms_A N (B + 45) T) = some (ms_A N (B + 45) (upd T (3940 * p + k) v)) := fun T k c v hc hk => by rw [m_to' (c := c) (hT T) hp k hc hk, mp_m]
  have of' : ∀ (T : Nat → Int32) (k : Nat) (c : Int32), c = nI k → k < 3940 → f_X12_of K L (ms_A N (B + 45) T) (B + 44) (nI p) c = some (T (3940 * p + k)) := fun T k c hc hk => by rw [m_of (c := c) (hT T) hp k hc hk, A_A, if_pos rfl]
  refine ⟨N, c2, ?_⟩
  refine (sb c1 _).trans ?_
  refine (sb (show f_X12_of K L N (B + 44) (nI p) 81 = some (S (3940 * p + 81)) by rw [m_of (c := 81) hN hp 81 rfl (by decide), hNS]) _).trans ?_
  rw [s81]
  refine (sb (show f_X12_to K L (B + 44) (nI p) 81 md N = some (ms_A N (B + 45) (upd S (3940 * p + 81) md)) by rw [m_to (c := 81) hN hp 81 rfl (by decide), hNS]) _).trans ?_
  refine (sb (show f_X12_millionths K L fu (ms_A N (B + 45) (upd S (3940 * p + 81) md)) (B + 44) = some (jMl n1 n2 g1 g2) from millionths_m b1 b2 b3 hfu c4 c5) _).trans ?_
  refine (sb (to' _ 83 83 _ rfl (by decide)) _).trans ?_
  rw [e3]
  refine (sb (to' _ 84 84 _ rfl (by decide)) _).trans ?_
  rw [e4]
  refine (sb (to' _ 85 85 _ rfl (by decide)) _).trans ?_
  rw [e5]
  refine (sb (to' _ 86 86 _ rfl (by decide)) _).trans ?_
  rw [e6]
  refine (sb (to' _ 87 87 _ rfl (by decide)) _).trans ?_
  rw [e3, e4, e5, e6, bn_eq]
  generalize hT1 : upd (upd (upd (upd (upd (upd S (3940 * p + 81) md) (3940 * p + 83) (jMl n1 n2 g1 g2)) (3940 * p + 84) (nI n1)) (3940 * p + 85) (nI n2)) (3940 * p + 86) (nI g1)) (3940 * p + 87) (nI g2) = T1
  have t : ∀ j, j ≤ 80 → T1 (3940 * p + j) = S (3940 * p + j) := fun j hj => by
    rw [← hT1]
    simp only [upd_eq]
    repeat rw [if_neg (by omega)]
  have t81 : T1 (3940 * p + 81) = md := by
    rw [← hT1, upd_eq, if_neg (by omega), upd_eq, if_neg (by omega), upd_eq, if_neg (by omega), upd_eq, if_neg (by omega), upd_eq, if_neg (by omega), upd_eq, if_pos rfl]
  refine (sb (show f_X12_of K L (ms_A N (B + 45) T1) (B + 44) (nI p) 80 = some (nI lk) by rw [of' T1 80 80 rfl (by decide), t 80 (by decide), s80]) _).trans ?_
  refine (sb (show f_X12_of K L (ms_A N (B + 45) T1) (B + 44) (nI p) 79 = some (nI pt) by rw [of' T1 79 79 rfl (by decide), t 79 (by decide), s79]) _).trans ?_
  have hab : f_X12_isAbove (mm_J (ms_A N (B + 45) T1) (32 * 12 + 23) (B + 44)) ((10000 : Int64) * (nI lk).toInt64) (mm_J (ms_A N (B + 45) T1) (32 * 12 + 24) (B + 44)) (nI pt).toInt64 = some (if jAp n1 n2 g1 g2 * (10000 * lk) ≤ pt * jAl n1 n2 g1 g2 then 0 else 1) := by
    rw [show mm_J (ms_A N (B + 45) T1) (32 * 12 + 23) (B + 44) = _ from c4, show mm_J (ms_A N (B + 45) T1) (32 * 12 + 24) (B + 44) = _ from c5, nI_q (show lk < 2 ^ 31 by omega), nI_q (show pt < 2 ^ 31 by omega), show (10000 : Int64) = qN 10000 from rfl, qN_mul, above_m (by omega) b2 (by omega) (by omega), Nat.mul_comm (jAl n1 n2 g1 g2) pt]
  refine (sb hab _).trans ?_
  have fin : ∀ v : Int32, f_X12_look_327 K L fu (B + 44) (nI p) v (ms_A N (B + 45) T1) = some (v, ms_A N (B + 45) (jdS S (3940 * p) (nI n1) (nI n2) (nI g1) (nI g2) md (jMl n1 n2 g1 g2) v)) := by
    intro v
    unfold f_X12_look_327
    refine (sb (to' T1 82 82 v rfl (by decide)) _).trans ?_
    rw [← hT1]
    rfl
  unfold jEn
  by_cases q : jAp n1 n2 g1 g2 * (10000 * lk) ≤ pt * jAl n1 n2 g1 g2
  · rw [if_pos q, if_pos q, if_pos rfl]
    unfold f_X12_look_276
    rw [if_neg (by decide), fin, fin, fin]
    generalize nI g1 * nI n2 - nI g2 * nI n1 = v
    by_cases v0 : v = 0
    · subst v0
      rw [if_pos (by decide), if_pos (by decide), if_pos rfl]
    · rw [if_neg v0]
      by_cases v1 : v ≤ 0
      · rw [if_pos v1, if_neg (fun w => v0 (Int32.le_antisymm v1 w)), if_pos v1]
      · rw [if_neg v1, if_neg v1]
  · rw [if_neg q, if_neg q, if_neg (by decide)]
    unfold f_X12_look_276
    rw [if_pos rfl]
    refine (sb (show f_X12_of K L (ms_A N (B + 45) T1) (B + 44) (nI p) 81 = some md by rw [of' T1 81 81 rfl (by decide), t81]) _).trans ?_
    refine (sb (show f_X12_of K L (ms_A N (B + 45) T1) (B + 44) (nI p) 80 = some (nI lk) by rw [of' T1 80 80 rfl (by decide), t 80 (by decide), s80]) _).trans ?_
    by_cases q2 : md < nI lk
    · rw [if_pos q2, if_pos q2, fin]
    · rw [if_neg q2, if_neg q2, fin]
/-- look -/
theorem st_31 {fu : Nat} (hfu : 1000 ≤ fu) : so_31 Iv fu := by
  intro B n K L M w1 w2 iv
  by_cases hw : 0 ≤ w2.toInt ∧ w2.toInt ≤ 239
  · obtain ⟨m, m1, rfl⟩ := n_of (v := w2) (m := 239) hw.1 hw.2 (by decide)
    have hm : m < 240 := by omega
    have e2 : ∀ m', f_X12_look K L fu (B + 44) w1 (nI m) m' = Option.bind (f_X12_why K L m' (B + 44) w1 (nI 3)) (fun x5 => f_X12_look_18 K L fu (B + 44) w1 (nI m) x5 m') := by
      intro m'
      unfold f_X12_look
      rw [isMinute_eq, if_pos hw]
      simp only [Option.bind_some]
      rw [if_neg (by decide)]
      rfl
    refine gated2 iv w1 (kinds := 4) (kind := 3) (by unfold kb; simp) (F2 := fun m' => f_X12_look K L fu (B + 44) w1 (nI m) m') ?_ ?_ ?_
    · intro k _ _ h1 h2
      unfold f_X11_look
      rw [within_eq, show (239 : Int32).toInt = 239 from rfl, if_pos hw]
      simp only [Option.bind_some, (shelf_at iv).1, (shelf_at iv).2, h1, h2, if_true]
      rw [if_neg (by decide)]
      exact bind_eta _
    · intro k m' hk hy
      show f_X12_look K L fu (B + 44) w1 (nI m) m' = _
      rw [e2, hy]
      simp only [Option.bind_some, f_X12_look_18, f_X12_look_62, f_X12_look_79]
      rw [if_neg hk, if_neg hk, if_neg hk]
      exact bind_eta _
    · intro p b hh hv hk g hf hy
      subst hv
      obtain ⟨g1, g2, g3, g4, g5, g6, g7, g8, g9, g10, g11⟩ := id g
      obtain ⟨t0, ⟨x, y, hx, hy', ex, ey⟩, ⟨pt, pt1, pt2, ept⟩, ⟨lk, lk1, lk2, elk⟩, ⟨ev, ev1, eev⟩⟩ := g11.2.2.2.2.2.1
      have cx := g11.ct hx
      have cy := g11.ct hy'
      have i320 : mm_I M (32 * 10 + 0) (b + 12) = nI x := (t0 0 (by decide)).trans ex
      have i321 : mm_I M (32 * 10 + 1) (b + 12) = nI y := (t0 1 (by decide)).trans ey
      have i322 : mm_I M 322 (b + 12) = nI pt := (t0 2 (by decide)).trans ept
      have i323 : mm_I M 323 (b + 12) = nI lk := (t0 3 (by decide)).trans elk
      have i324 : mm_I M 324 (b + 12) = mm_A M (B + 45) (3940 * p + 81) := t0 4 (by decide)
      have i325 : mm_I M (32 * 10 + 5) (b + 12) = nI ev := (t0 5 (by decide)).trans eev
      obtain ⟨N1, G1, a1, a2, a3, a4⟩ := sb2_n (a := rT (mm_A M (B + 45)) (3940 * p) x) (b := rT (mm_A M (B + 45)) (3940 * p) y) (c := rC (mm_A M (B + 45)) (3940 * p) x) (g := rG (mm_A M (B + 45)) (3940 * p) x) (k := m + 1) (fun i hi => (cx.z i (by omega)).2)
      obtain ⟨N2, G2, a5, a6, a7, a8⟩ := sb2_n (a := rT (mm_A M (B + 45)) (3940 * p) x) (b := rT (mm_A M (B + 45)) (3940 * p) y) (c := rC (mm_A M (B + 45)) (3940 * p) y) (g := rG (mm_A M (B + 45)) (3940 * p) y) (k := m + 1) (fun i hi => (cy.z i (by omega)).2)
      have k1 : f_X2_callsBeside K L fu M (b + 14 + 4 * x) (some (b + 14 + 4 * y)) (nI m) = some (nI N1) := (calls_b (fu := fu) g9 hx hy' cx cy hm (m + 1) fu 0 (by omega) (by omega)).trans (by rw [sb1_2 (fun i hi h => ((cx.z i (by omega)).1 h).1), a1])
      have k2 : f_X2_callsBeside K L fu M (b + 14 + 4 * y) (some (b + 14 + 4 * x)) (nI m) = some (nI N2) := (calls_b (fu := fu) g9 hy' hx cy cx hm (m + 1) fu 0 (by omega) (by omega)).trans (by rw [sb1_2' (fun i hi h => ((cy.z i (by omega)).1 h).1), a5])
      have k3 : f_X2_goodsBeside K L fu M (b + 14 + 4 * x) (some (b + 14 + 4 * y)) (nI m) = some (nI G1) := (goods_b (fu := fu) g9 hx hy' cx cy hm (m + 1) fu 0 (by omega) (by omega)).trans (by rw [sb1_2 (fun i hi h => ((cx.z i (by omega)).1 h).2), a2])
      have k4 : f_X2_goodsBeside K L fu M (b + 14 + 4 * y) (some (b + 14 + 4 * x)) (nI m) = some (nI G2) := (goods_b (fu := fu) g9 hy' hx cy cx hm (m + 1) fu 0 (by omega) (by omega)).trans (by rw [sb1_2' (fun i hi h => ((cy.z i (by omega)).1 h).2), a6])
      have z1 : nI N1 = 0 ↔ N1 = 0 := nI_eq (b := 0) (by omega) (by omega)
      have z2 : nI N2 = 0 ↔ N2 = 0 := nI_eq (b := 0) (by omega) (by omega)
      have z3 : (30 : Int32) < nI N1 ↔ 30 < N1 := by rw [t_lt, nI_toInt (by omega), show (30 : Int32).toInt = 30 from rfl]; omega
      have z4 : nI N2 ≤ (30 : Int32) ↔ N2 ≤ 30 := by rw [t_le, nI_toInt (by omega), show (30 : Int32).toInt = 30 from rfl]; omega
      have z5 : nI ev = 0 ↔ ev = 0 := nI_eq (b := 0) (by omega) (by omega)
      have z6 : nI ev ≤ 0 ↔ ev = 0 := by rw [t_le, nI_toInt (by omega), show (0 : Int32).toInt = 0 from rfl]; omega
      have E1 : f_X11_look K L fu B (nI p) (nI m) M = if mm_A M (B + 45) (3940 * p + 90 + x) = 0 ∨ mm_A M (B + 45) (3940 * p + 90 + y) = 0 then f_X11_refuse K L B (-(nI 2)) M else if ev = 0 then (if N1 = 0 ∨ N2 = 0 then f_X11_refuse K L B (-(nI 8)) M else if 30 < N1 ∨ 30 < N2 then f_X11_refuse K L B (-(nI 13)) M else f_X10_judge K L fu (b + 12) (nI N1) (nI N2) (nI G1) (nI G2) M) else f_X11_refuse K L B (-(nI 12)) M := by
        unfold f_X11_look f_X11_look_74 f_X11_look_128 f_X11_look_149
        simp only [within_eq, show (239 : Int32).toInt = 239 from rfl, if_pos hw, Option.bind_some, (shelf_at iv).1, (shelf_at iv).2, hf, rc_ok g9.1.1, show mm_R M (32 * 9 + 11) b = some (b + 12) from g9.1.2.2.2.2.2.1, rc_ok g9.2.2.2.2.2.1, i320, i321, i325, rowOf_eq g9 hx cx, rowOf_eq g9 hy' cy, bind_eta]
        rw [if_neg (by decide), if_neg (by simp)]
        by_cases q1 : mm_A M (B + 45) (3940 * p + 90 + x) = 0
        · rw [if_pos q1, if_pos rfl, if_pos (show mm_A M (B + 45) (3940 * p + 90 + x) = 0 ∨ mm_A M (B + 45) (3940 * p + 90 + y) = 0 from Or.inl q1)]
          rfl
        · rw [if_neg q1, if_neg (by simp)]
          by_cases q2 : mm_A M (B + 45) (3940 * p + 90 + y) = 0
          · rw [if_pos q2, if_pos rfl, if_pos (show mm_A M (B + 45) (3940 * p + 90 + x) = 0 ∨ mm_A M (B + 45) (3940 * p + 90 + y) = 0 from Or.inr q2)]
            rfl
          · rw [if_neg q2, if_neg (by simp), if_neg (show ¬ (mm_A M (B + 45) (3940 * p + 90 + x) = 0 ∨ mm_A M (B + 45) (3940 * p + 90 + y) = 0) from fun q => q.elim q1 q2)]
            by_cases q3 : ev = 0
            · rw [if_pos (z5.mpr q3), if_pos q3, rc_ok (g9.2.2.2.2.2.2.2.2 x hx).2.1, rc_ok (g9.2.2.2.2.2.2.2.2 y hy').2.1]
              simp only [Option.bind_some, k1, k2, k3, k4]
              by_cases q4 : N1 = 0
              · rw [if_pos (z1.mpr q4), if_pos (show N1 = 0 ∨ N2 = 0 from Or.inl q4)]
                rfl
              · rw [if_neg (fun q => q4 (z1.mp q))]
                by_cases q5 : N2 = 0
                · rw [if_pos (z2.mpr q5), if_pos (show N1 = 0 ∨ N2 = 0 from Or.inr q5)]
                  rfl
                · rw [if_neg (fun q => q5 (z2.mp q)), if_neg (show ¬ (N1 = 0 ∨ N2 = 0) by omega)]
                  by_cases q6 : 30 < N1
                  · rw [if_pos (z3.mpr q6), if_pos (show 30 < N1 ∨ 30 < N2 from Or.inl q6)]
                    rfl
                  · rw [if_neg (fun q => q6 (z3.mp q))]
                    by_cases q7 : N2 ≤ 30
                    · rw [if_pos (z4.mpr q7), if_neg (show ¬ (30 < N1 ∨ 30 < N2) by omega)]
                    · rw [if_neg (fun q => q7 (z4.mp q)), if_pos (show 30 < N1 ∨ 30 < N2 by omega)]
                      rfl
            · rw [if_neg (fun q => q3 (z5.mp q)), if_neg q3]
              rfl
      have E2a : ∀ m', sameS B M m' → f_X12_look K L fu (B + 44) (nI p) (nI m) m' = if mm_A M (B + 45) (3940 * p + 90 + x) = 0 ∨ mm_A M (B + 45) (3940 * p + 90 + y) = 0 then f_X12_no K L (B + 44) (-(nI 2)) m' else if ev = 0 then f_X12_look_79 K L fu (B + 44) (nI p) (nI m) 0 m' else f_X12_no K L (B + 44) (-(nI 12)) m' := by
        intro m' hm'
        have hms : MS B K L (mm_R m') := by rw [hm'.1]; exact iv.1.1
        have o77 : f_X12_of K L m' (B + 44) (nI p) 77 = some (nI x) := by rw [m_of (c := 77) hms g1 77 rfl (by decide), hm'.2, ex]
        have o78 : f_X12_of K L m' (B + 44) (nI p) 78 = some (nI y) := by rw [m_of (c := 78) hms g1 78 rfl (by decide), hm'.2, ey]
        have o90 : f_X12_of K L m' (B + 44) (nI p) (90 + nI x) = some (mm_A M (B + 45) (3940 * p + 90 + x)) := by rw [m_of (c := 90 + nI x) hms g1 (90 + x) (nI_add 90 x) (by omega), hm'.2, ← Nat.add_assoc]
        have o91 : f_X12_of K L m' (B + 44) (nI p) (90 + nI y) = some (mm_A M (B + 45) (3940 * p + 90 + y)) := by rw [m_of (c := 90 + nI y) hms g1 (90 + y) (nI_add 90 y) (by omega), hm'.2, ← Nat.add_assoc]
        have o82 : f_X12_of K L m' (B + 44) (nI p) 82 = some (nI ev) := by rw [m_of (c := 82) hms g1 82 rfl (by decide), hm'.2, eev]
        have nn : ∀ k : Nat, 2 ≤ k → k ≤ 13 → f_X12_look_62 K L fu (B + 44) (nI p) (nI m) (-(nI k)) m' = f_X12_no K L (B + 44) (-(nI k)) m' := by
          intro k h1 h2
          unfold f_X12_look_62 f_X12_look_79
          rw [if_neg (ng_ne h1 h2), if_neg (ng_ne h1 h2)]
          exact bind_eta _
        rw [e2]
        refine (sb (hy m' hm') _).trans ?_
        unfold f_X12_look_18 f_X12_look_59
        rw [if_pos rfl]
        refine (sb o77 _).trans ?_
        refine (sb o90 _).trans ?_
        by_cases q1 : mm_A M (B + 45) (3940 * p + 90 + x) = 0
        · rw [if_pos q1, if_pos (show mm_A M (B + 45) (3940 * p + 90 + x) = 0 ∨ mm_A M (B + 45) (3940 * p + 90 + y) = 0 from Or.inl q1)]
          exact nn 2 (by decide) (by decide)
        · rw [if_neg q1]
          refine (sb o78 _).trans ?_
          refine (sb o91 _).trans ?_
          by_cases q2 : mm_A M (B + 45) (3940 * p + 90 + y) = 0
          · rw [if_pos q2, if_pos (show mm_A M (B + 45) (3940 * p + 90 + x) = 0 ∨ mm_A M (B + 45) (3940 * p + 90 + y) = 0 from Or.inr q2)]
            exact nn 2 (by decide) (by decide)
          · rw [if_neg q2, if_neg (show ¬ (mm_A M (B + 45) (3940 * p + 90 + x) = 0 ∨ mm_A M (B + 45) (3940 * p + 90 + y) = 0) from fun q => q.elim q1 q2)]
            unfold f_X12_look_62
            rw [if_pos rfl]
            refine (sb o82 _).trans ?_
            by_cases q3 : ev = 0
            · rw [if_pos (z6.mpr q3), if_pos q3]
            · rw [if_neg (fun q => q3 (z6.mp q)), if_neg q3]
              unfold f_X12_look_79
              rw [if_neg (by decide)]
              exact bind_eta _
      by_cases qA : mm_A M (B + 45) (3940 * p + 90 + x) = 0 ∨ mm_A M (B + 45) (3940 * p + 90 + y) = 0
      · exact Or.inl ⟨2, by decide, by decide, by rw [E1, if_pos qA], fun m' hm' => by show f_X12_look K L fu (B + 44) (nI p) (nI m) m' = _; rw [E2a m' hm', if_pos qA]⟩
      · by_cases qE : ev = 0
        · rw [if_neg qA, if_pos qE] at E1
          have E3 : ∀ m', sameS B M m' → ∃ M', scr B m' M' ∧ sm4 B M' (mm_A M (B + 45)) (3940 * p) x y (m + 1) ∧ f_X12_sums K L fu (B + 44) (nI p) (nI m) m' = some M' := by
            intro m' hm'
            obtain ⟨M', r1, r2, r3⟩ := sums_eq (K := K) (L := L) (fu := fu) g1 hx hy' hm hfu ex ey (M := m') (by rw [hm'.1]; exact iv.1.1) hm'.2
            exact ⟨M', r2, r3, r1⟩
          have E4 : ∀ m', sameS B M m' → f_X12_look K L fu (B + 44) (nI p) (nI m) m' = f_X12_look_79 K L fu (B + 44) (nI p) (nI m) 0 m' := fun m' hm' => by rw [E2a m' hm', if_neg qA, if_pos qE]
          right
          by_cases q4 : N1 = 0 ∨ N2 = 0
          · rw [if_pos q4] at E1
            obtain ⟨M', r1, r2, r3⟩ := E3 (bump M (B + 43) 8) sameS_bump
            refine fin_scr iv 8 (by decide) (by decide) E1 ⟨M', r1, ?_⟩
            show f_X12_look K L fu (B + 44) (nI p) (nI m) (bump M (B + 43) 8) = _
            rw [E4 _ sameS_bump]
            unfold f_X12_look_79 f_X12_look_109
            rw [if_pos rfl]
            refine (sb r3 _).trans ?_
            rw [show mm_I M' (32 * 12 + 19) (B + 44) = nI N1 from r2.1.trans a1, show mm_I M' (32 * 12 + 20) (B + 44) = nI N2 from r2.2.1.trans a5, bind_eta]
            by_cases q5 : N1 = 0
            · rw [if_pos (z1.mpr q5)]
              rfl
            · rw [if_neg (fun q => q5 (z1.mp q)), if_pos (z2.mpr (by omega))]
              rfl
          · rw [if_neg q4] at E1
            by_cases q5 : 30 < N1 ∨ 30 < N2
            · rw [if_pos q5] at E1
              obtain ⟨M', r1, r2, r3⟩ := E3 (bump M (B + 43) 13) sameS_bump
              refine fin_scr iv 13 (by decide) (by decide) E1 ⟨M', r1, ?_⟩
              show f_X12_look K L fu (B + 44) (nI p) (nI m) (bump M (B + 43) 13) = _
              rw [E4 _ sameS_bump]
              unfold f_X12_look_79 f_X12_look_134
              rw [if_pos rfl]
              refine (sb r3 _).trans ?_
              rw [show mm_I M' (32 * 12 + 19) (B + 44) = nI N1 from r2.1.trans a1, show mm_I M' (32 * 12 + 20) (B + 44) = nI N2 from r2.2.1.trans a5, bind_eta, if_neg (fun q => q4 (Or.inl (z1.mp q))), if_neg (fun q => q4 (Or.inr (z2.mp q)))]
              by_cases q6 : 30 < N1
              · rw [if_pos (z3.mpr q6)]
                rfl
              · rw [if_neg (fun q => q6 (z3.mp q)), if_neg (fun q => by have := z4.mp q; omega)]
                rfl
            · rw [if_neg q5, judge_eq (md := mm_A M (B + 45) (3940 * p + 81) + 1) (by omega) (by omega) a3 a7 ⟨pt1, pt2⟩ ⟨lk1, lk2⟩ hfu i322 i323 (by rw [i324])] at E1
              have he := jEn_3 G1 G2 N1 N2 pt lk (jAl N1 N2 G1 G2) (jAp N1 N2 G1 G2) (mm_A M (B + 45) (3940 * p + 81) + 1)
              generalize hen : jEn G1 G2 N1 N2 pt lk (jAl N1 N2 G1 G2) (jAp N1 N2 G1 G2) (mm_A M (B + 45) (3940 * p + 81) + 1) = en at E1 he
              generalize hmd : mm_A M (B + 45) (3940 * p + 81) + 1 = md at E1 hen
              have hsS : sameS B M (jdM M (b + 12) (nI N1) (nI N2) (nI G1) (nI G2) md (jMl N1 N2 G1 G2) en) := ⟨rfl, (jdM_e (by omega)).2.2.2.1⟩
              obtain ⟨M', r1, r2, r3⟩ := E3 _ hsS
              have hms : MS B K L (mm_R (jdM M (b + 12) (nI N1) (nI N2) (nI G1) (nI G2) md (jMl N1 N2 G1 G2) en)) := iv.1.1
              obtain ⟨M'', u1, u2⟩ := look_ref (fu := fu) (S := mm_A M (B + 45)) (r1.MS hms) g1 (r1.S.trans hsS.2) (show N1 ≤ 30 by omega) (show N2 ≤ 30 by omega) a3 a7 ⟨pt1, pt2⟩ ⟨lk1, lk2⟩ ept elk hmd hfu (r2.1.trans a1) (r2.2.1.trans a5) (r2.2.2.1.trans a2) (r2.2.2.2.trans a6)
              rw [hen] at u2
              refine ⟨(en, jdM M (b + 12) (nI N1) (nI N2) (nI G1) (nI G2) md (jMl N1 N2 G1 G2) en), (en, ms_A M'' (B + 45) (jdS (mm_A M (B + 45)) (3940 * p) (nI N1) (nI N2) (nI G1) (nI G2) md (jMl N1 N2 G1 G2) en)), E1, ?_, rfl, ?_⟩
              · show f_X12_look K L fu (B + 44) (nI p) (nI m) (jdM M (b + 12) (nI N1) (nI N2) (nI G1) (nI G2) md (jMl N1 N2 G1 G2) en) = _
                rw [E4 _ hsS]
                unfold f_X12_look_79
                rw [if_pos rfl]
                refine (sb r3 _).trans ?_
                rw [show mm_I M' (32 * 12 + 19) (B + 44) = nI N1 from r2.1.trans a1, show mm_I M' (32 * 12 + 20) (B + 44) = nI N2 from r2.2.1.trans a5, if_neg (fun q => q4 (Or.inl (z1.mp q))), if_neg (fun q => q4 (Or.inr (z2.mp q))), if_neg (fun q => q5 (Or.inl (z3.mp q))), if_pos (z4.mpr (by omega))]
                exact u2
              · refine iv_scr (iv_fin (M3 := jdM M (b + 12) (nI N1) (nI N2) (nI G1) (nI G2) md (jMl N1 N2 G1 G2) en) (S3 := jdS (mm_A M (B + 45)) (3940 * p) (nI N1) (nI N2) (nI G1) (nI G2) md (jMl N1 N2 G1 G2) en) iv g rfl rfl (fun a ha => jdM_e (by omega)) (fun i hi => jdS_o (by omega)) (fun j hj => jdS_o (by omega)) (rOk_upd (fun j hj => jdS_o (by omega)) g10) ?_) (r1.tr u1).ms
                exact but_Tr (fun c _ _ h3 => jdM_e (by omega)) (fun j h1 h2 => jdS_o (by omega)) g11 (rTr_jd g11.2.2.2.2.2.1 he)
        · exact Or.inl ⟨12, by decide, by decide, by rw [E1, if_neg qA, if_neg qE], fun m' hm' => by show f_X12_look K L fu (B + 44) (nI p) (nI m) m' = _; rw [E2a m' hm', if_neg qA, if_neg qE]⟩
  · refine fin_no iv 3 (by decide) (by decide) (F2 := fun m => f_X12_look K L fu (B + 44) w1 w2 m) ?_ ?_
    · unfold f_X11_look
      rw [within_eq, show (239 : Int32).toInt = 239 from rfl, if_neg hw]
      exact bind_eta _
    · show f_X12_look K L fu (B + 44) w1 w2 (bump M (B + 43) 3) = _
      unfold f_X12_look
      rw [isMinute_eq, if_neg hw]
      simp only [Option.bind_some, f_X12_look_18, f_X12_look_62, f_X12_look_79]
      have n3 : ¬ (-3 : Int32) = 0 := by decide
      simp only [if_neg n3, bind_eta, if_true]
      rfl
