/-! steps behind the gate; one switch changes, the rest stays -/
section GT
variable {B n : Nat} {K L : Nat → Nat} {M : Mm}
theorem fin_no2 (iv : Iv B n K L M) (k : Nat) (h1 : 2 ≤ k) (h2 : k ≤ 13) {F1 : Option (Int32 × Mm)} {F2 : Mm → Option (Int32 × Mm)} (e1 : F1 = f_X11_refuse K L B (-(nI k)) M) (e2 : F2 (bump M (B + 43) k) = f_X12_no K L (B + 44) (-(nI k)) (bump M (B + 43) k)) : ∃ x1 x2, F1 = some x1 ∧ sameS B M x1.2 ∧ F2 x1.2 = some x2 ∧ x1.1 = x2.1 ∧ Iv B n K L x2.2 := by
  obtain ⟨a1, a2, a3⟩ := both_no iv h1 h2
  exact ⟨_, (-(nI k), bump (bump M (B + 43) k) (B + 49) k), e1.trans a1, sameS_bump, e2.trans a2, rfl, a3⟩
theorem ng_ne {k : Nat} (h1 : 2 ≤ k) (h2 : k ≤ 13) : ¬ (-(nI k)) = 0 := by
  intro e
  have := congrArg Int32.toInt e
  rw [ng_toInt h1 h2] at this
  have h0 : (0 : Int32).toInt = 0 := rfl
  omega
theorem gated (iv : Iv B n K L M) (v : Int32) {kinds : Int32} {kind : Nat} (hk : kb kinds kind) {F1 : Option (Int32 × Mm)} {F2 : Mm → Option (Int32 × Mm)} {G1 : Option Nat → Option (Int32 × Mm)} {G2 : Mm → Option (Int32 × Mm)}
    (e1 : F1 = Option.bind (rc K (mm_R M (32 * 11 + 0) B) 8) (fun a1 => Option.bind (f_X8_find K L M a1 v kinds) (fun x3 => if x3 = none then Option.bind (f_X11_refuseAt K L B v kinds M) (fun x => some (x.1, x.2)) else G1 x3)))
    (e2 : ∀ m, F2 m = Option.bind (f_X12_why K L m (B + 44) v (nI kind)) (fun x1 => if x1 = 0 then G2 m else Option.bind (f_X12_no K L (B + 44) x1 m) (fun x => some (x.1, x.2))))
    (hG : ∀ p b hh, v = nI p → okk hh kind → Got B K L M p b hh → (∃ k, 2 ≤ k ∧ k ≤ 13 ∧ G1 (some b) = f_X11_refuse K L B (-(nI k)) M ∧ ∀ m, sameS B M m → G2 m = f_X12_no K L (B + 44) (-(nI k)) m) ∨ ∃ x1 x2, G1 (some b) = some x1 ∧ sameS B M x1.2 ∧ G2 x1.2 = some x2 ∧ x1.1 = x2.1 ∧ Iv B n K L x2.2) :
    ∃ x1 x2, F1 = some x1 ∧ F2 x1.2 = some x2 ∧ x1.1 = x2.1 ∧ Iv B n K L x2.2 := by
  rcases gate iv v hk with ⟨k, k1, k2, h1, h2, h3⟩ | ⟨p, b, hh, h1, h2, h3, h4, h5⟩
  · refine fin_no iv k k1 k2 ?_ ?_
    · rw [e1, (shelf_at iv).1, (shelf_at iv).2]
      simp only [Option.bind_some, h1, h2, if_true]
      exact bind_eta _
    · rw [e2, h3 _ sameS_bump]
      simp only [Option.bind_some]
      rw [if_neg (ng_ne k1 k2)]
      exact bind_eta _
  · have hG' : ∃ x1 x2, G1 (some b) = some x1 ∧ sameS B M x1.2 ∧ G2 x1.2 = some x2 ∧ x1.1 = x2.1 ∧ Iv B n K L x2.2 := by
      rcases hG p b hh h1 h2 h3 with ⟨k, k1, k2, q1, q2⟩ | q
      · exact fin_no2 iv k k1 k2 q1 (q2 _ sameS_bump)
      · exact q
    obtain ⟨x1, x2, a1, a2, a3, a4, a5⟩ := hG'
    refine ⟨x1, x2, ?_, ?_, a4, a5⟩
    · rw [e1, (shelf_at iv).1, (shelf_at iv).2]
      simp only [Option.bind_some, h4]
      rw [if_neg (by simp)]
      exact a1
    · rw [e2, h5 _ a2]
      simp only [Option.bind_some, if_true]
      exact a3
theorem iv_upd {p b hh : Nat} (iv : Iv B n K L M) (g : Got B K L M p b hh) {M' : Mm} {S' : Nat → Int32} (hR : mm_R M' = mm_R M) (hC : mm_C M' = mm_C M) (hA : ∀ a, (a < b ∨ b + 30 ≤ a) → a ≠ B + 45 → eqAt M M' a) (hS' : mm_A M' (B + 45) = S')
    (hS : ∀ i, (i < 3940 * p ∨ 3940 * p + 3940 ≤ i) → S' i = mm_A M (B + 45) i) (h0 : S' (3940 * p) = mm_A M (B + 45) (3940 * p)) (h44 : S' (3940 * p + 44) = mm_A M (B + 45) (3940 * p + 44)) (h46 : S' (3940 * p + 46) = mm_A M (B + 45) (3940 * p + 46)) (ok : rOk S' (3940 * p)) (r : rAll M' b S' (3940 * p)) : Iv B n K L M' := by
  obtain ⟨sg, c1, c2, c3, c4, c5, c6, c7, c8⟩ := id iv
  obtain ⟨g1, g2, g3, g4, g5, g6, g7, g8, g9, g10, g11⟩ := id g
  have hq : mm_R M 131 (qA B p) = some b := by rw [qA_lo g1]; exact g6
  have hE : ∀ a, a < B + 55 → a ≠ B + 45 → eqAt M M' a := fun a h1 h2 => hA a (by omega) h2
  have hbl : ∀ q b', q < 32 → q ≠ p → mm_R M 131 (qA B q) = some b' → ∀ c, b' ≤ c → c < b' + 30 → eqAt M M' c := by
    intro q b' h1 h2 h3 c h4 h5
    have := sg.apart (by omega) h1 hq h3 (Ne.symm h2)
    have h6 := (sg.blk h1 h3).1
    exact hA c (by omega) (by omega)
  refine ⟨by rw [hR, hC]; exact sg, ?_, ?_, ?_, ?_, ?_, ?_, ?_, ?_⟩
  · intro p' hp'
    rw [hS', (hE (B + 47) (by omega) (by omega)).2.2.2.2.1]
    by_cases he : p' = p
    · subst he
      have e3 := hE (B + 3 + p') (by omega) (by omega)
      refine ⟨hh, by omega, h0.trans g4, fun e => by omega, fun e => by omega, fun _ _ => ⟨by rw [e3.1]; exact g7, ok, b, by rw [hR]; exact g5, by rw [hR]; exact g6, r⟩⟩
    · refine (c1 p' hp').fr (hE _ (by omega) (by omega)) (fun b' hb' => hbl p' b' (by omega) he (by rw [qA_lo hp']; exact hb')) (fun k hk => hS _ ?_) rfl
      omega
  · intro p' hp'
    rw [(hE (B + 46) (by omega) (by omega)).2.2.2.1, (hE (B + 48) (by omega) (by omega)).2.2.2.2.1]
    exact (c2 p' hp').fr (hE _ (by omega) (by omega)) (fun b' hb' => hbl (16 + p') b' (by omega) (by omega) (by rw [qA_hi hp']; exact hb')) (fun _ _ => rfl) rfl
  · rw [hS']
    refine c3.fr (fun p' hp' => ?_)
    by_cases he : p' = p
    · subst he
      exact ⟨h0, h44, h46⟩
    · exact ⟨hS _ (by omega), hS _ (by omega), hS _ (by omega)⟩
  · rw [(hE (B + 46) (by omega) (by omega)).2.2.2.1]
    exact c4
  · intro i hi
    rw [(hE (B + 43) (by omega) (by omega)).2.2.2.1, (hE (B + 49) (by omega) (by omega)).2.2.2.1]
    exact c5 i hi
  · simp only [(hE (B + 37) (by omega) (by omega)).1, (hE (B + 44) (by omega) (by omega)).1]
    exact c6
  · simp only [(hE B (by omega) (by omega)).1, (hE (B + 44) (by omega) (by omega)).1]
    exact c7
  · obtain ⟨z, z1, z2, z3, z4⟩ := c8
    refine ⟨z, z1, by rw [(hE (B + 39) (by omega) (by omega)).1]; exact z2, by rw [(hE (B + 44) (by omega) (by omega)).1]; exact z3, fun i hi => ?_⟩
    rw [(hE (B + 42) (by omega) (by omega)).2.2.2.1, (hE (B + 50) (by omega) (by omega)).2.2.2.1]
    exact z4 i hi
end GT
section BUT
variable {M M' : Mm} {b o : Nat} {S S' : Nat → Int32}
theorem but_Bu (h : ∀ c, b ≤ c → c < b + 30 → c ≠ b + 11 → eqAt M M' c) (hS : ∀ k, k < 3940 → (k < 70 ∨ 76 < k) → S' (o + k) = S (o + k)) (r : rAll M b S o) (x : rBu M' b S' o) : rAll M' b S' o := by
  obtain ⟨r1, r2, r3, r4, r5, r6, r7, r8, r9, r10⟩ := r
  exact ⟨r1.fr (h b (by omega) (by omega) (by omega)) (fun k hk => hS k (by omega) (by omega)), r2.fr (fun c _ _ => h c (by omega) (by omega) (by omega)) (fun k _ _ => hS k (by omega) (by omega)), r3.fr (fun c _ _ => h c (by omega) (by omega) (by omega)) (fun k _ _ => hS k (by omega) (by omega)), r4.fr (fun c _ _ => h c (by omega) (by omega) (by omega)) (fun k _ _ => hS k (by omega) (by omega)), x, r6.fr (h _ (by omega) (by omega) (by omega)) (fun k _ _ => hS k (by omega) (by omega)), r7.fr (fun c _ _ => h c (by omega) (by omega) (by omega)) (fun k hk => hS k (by omega) (by omega)), r8.fr (fun c _ _ => h c (by omega) (by omega) (by omega)) (fun k hk => hS k (by omega) (by omega)), r9.fr (fun c _ _ => h c (by omega) (by omega) (by omega)) (fun k hk => hS k (by omega) (by omega)), r10.fr (fun c _ _ => h c (by omega) (by omega) (by omega)) (fun k hk => hS k (by omega) (by omega))⟩
theorem but_La (h : ∀ c, b ≤ c → c < b + 30 → c ≠ b + 9 → c ≠ b + 10 → eqAt M M' c) (hS : ∀ k, k < 3940 → (k < 48 ∨ 69 < k) → S' (o + k) = S (o + k)) (r : rAll M b S o) (x : rLa M' b S' o) : rAll M' b S' o := by
  obtain ⟨r1, r2, r3, r4, r5, r6, r7, r8, r9, r10⟩ := r
  exact ⟨r1.fr (h b (by omega) (by omega) (by omega) (by omega)) (fun k hk => hS k (by omega) (by omega)), r2.fr (fun c _ _ => h c (by omega) (by omega) (by omega) (by omega)) (fun k _ _ => hS k (by omega) (by omega)), r3.fr (fun c _ _ => h c (by omega) (by omega) (by omega) (by omega)) (fun k _ _ => hS k (by omega) (by omega)), x, r5.fr (h _ (by omega) (by omega) (by omega) (by omega)) (fun k _ _ => hS k (by omega) (by omega)), r6.fr (h _ (by omega) (by omega) (by omega) (by omega)) (fun k _ _ => hS k (by omega) (by omega)), r7.fr (fun c _ _ => h c (by omega) (by omega) (by omega) (by omega)) (fun k hk => hS k (by omega) (by omega)), r8.fr (fun c _ _ => h c (by omega) (by omega) (by omega) (by omega)) (fun k hk => hS k (by omega) (by omega)), r9.fr (fun c _ _ => h c (by omega) (by omega) (by omega) (by omega)) (fun k hk => hS k (by omega) (by omega)), r10.fr (fun c _ _ => h c (by omega) (by omega) (by omega) (by omega)) (fun k hk => hS k (by omega) (by omega))⟩
theorem but_Ru (h : ∀ c, b ≤ c → c < b + 30 → (c < b + 1 ∨ b + 5 < c) → eqAt M M' c) (hS : ∀ k, k < 3940 → (k < 3 ∨ 27 < k) → S' (o + k) = S (o + k)) (r : rAll M b S o) (x : rRu M' b S' o) : rAll M' b S' o := by
  obtain ⟨r1, r2, r3, r4, r5, r6, r7, r8, r9, r10⟩ := r
  exact ⟨r1.fr (h b (by omega) (by omega) (by omega)) (fun k hk => hS k (by omega) (by omega)), x, r3.fr (fun c _ _ => h c (by omega) (by omega) (by omega)) (fun k _ _ => hS k (by omega) (by omega)), r4.fr (fun c _ _ => h c (by omega) (by omega) (by omega)) (fun k _ _ => hS k (by omega) (by omega)), r5.fr (h _ (by omega) (by omega) (by omega)) (fun k _ _ => hS k (by omega) (by omega)), r6.fr (h _ (by omega) (by omega) (by omega)) (fun k _ _ => hS k (by omega) (by omega)), r7.fr (fun c _ _ => h c (by omega) (by omega) (by omega)) (fun k hk => hS k (by omega) (by omega)), r8.fr (fun c _ _ => h c (by omega) (by omega) (by omega)) (fun k hk => hS k (by omega) (by omega)), r9.fr (fun c _ _ => h c (by omega) (by omega) (by omega)) (fun k hk => hS k (by omega) (by omega)), r10.fr (fun c _ _ => h c (by omega) (by omega) (by omega)) (fun k hk => hS k (by omega) (by omega))⟩
end BUT
theorem rOk_upd {S S' : Nat → Int32} {o : Nat} (h : ∀ k, (k = 0 ∨ k = 1 ∨ k = 2 ∨ k = 44 ∨ k = 46 ∨ k = 47 ∨ k = 69) → S' (o + k) = S (o + k)) (r : rOk S o) : rOk S' o := by
  have h0 : S' o = S o := h 0 (by omega)
  unfold rOk
  rw [h0, h 1 (by omega), h 2 (by omega), h 44 (by omega), h 46 (by omega), h 47 (by omega), h 69 (by omega)]
  exact r
/-- waits -/
theorem st_24 (fu : Nat) : so_24 Iv fu := by
  intro B n K L M w1 w2 iv
  refine gated iv w1 (kinds := 6) (kind := 1) (by unfold kb; simp) (F2 := fun m => f_X12_waits K L (B + 44) w1 w2 m) rfl (fun m => rfl) ?_
  intro p b hh hv hk g
  subst hv
  obtain ⟨g1, g2, g3, g4, g5, g6, g7, g8, g9, g10, g11⟩ := id g
  by_cases hw : 0 ≤ w2.toInt ∧ w2.toInt ≤ 100
  · obtain ⟨v, v1, rfl⟩ := n_of (v := w2) (m := 100) hw.1 hw.2 (by decide)
    have hr : mm_R M (32 * 9 + 10) b = some (b + 11) := g9.1.2.2.2.2.1
    have hc1 : rc K (some b) 9 = some b := rc_ok g9.1.1
    have hc2 : rc K (some (b + 11)) 0 = some (b + 11) := rc_ok g9.2.2.2.2.1
    have hms : MS B K L (mm_R (ms_I M 4 (b + 11) (nI v))) := iv.1.1
    refine Or.inr ⟨(mm_I M 4 (b + 11), ms_I M 4 (b + 11) (nI v)), (mm_A M (B + 45) (3940 * p + 73), ms_A (ms_I M 4 (b + 11) (nI v)) (B + 45) (upd (mm_A M (B + 45)) (3940 * p + 73) (nI v))), ?_, ⟨rfl, rfl⟩, ?_, g11.2.2.2.2.1.2.2.2.2.1, ?_⟩
    · rw [within_eq, show (100 : Int32).toInt = 100 from rfl, if_pos hw]
      simp only [Option.bind_some, hc1, hr, hc2, bn_eq]
      rw [if_neg (by decide)]
    · dsimp only
      rw [isIn_eq, toI64, show (0 : Int64).toInt = 0 from rfl, show (100 : Int64).toInt = 100 from rfl, if_pos hw, m_of (c := 73) hms g1 73 rfl (by decide), m_to (c := 73) hms g1 73 rfl (by decide)]
      simp only [Option.bind_some]
      rw [if_neg (by decide)]
      rfl
    · refine iv_upd iv g rfl rfl (fun a h1 h2 => (eqAt.I (by omega)).tr (eqAt.A h2)) (S' := upd (mm_A M (B + 45)) (3940 * p + 73) (nI v)) (by simp [A_A]) (fun i hi => by rw [upd_eq, if_neg (by omega)]) (by rw [upd_eq, if_neg (by omega)]) (by rw [upd_eq, if_neg (by omega)]) (by rw [upd_eq, if_neg (by omega)]) (rOk_upd (fun k hk => by rw [upd_eq, if_neg (by omega)]) g10) ?_
      refine but_Bu (fun c h1 h2 h3 => (eqAt.I h3).tr (eqAt.A (by omega))) (fun k h1 h2 => by rw [upd_eq, if_neg (by omega)]) g11 ?_
      obtain ⟨b1, b2, b3, b4, b5, b6, b7, b8, b9, b10, b11, b12⟩ := g11.2.2.2.2.1
      have e : ∀ x, mm_I (ms_A (ms_I M 4 (b + 11) (nI v)) (B + 45) (upd (mm_A M (B + 45)) (3940 * p + 73) (nI v))) x (b + 11) = if x = 4 then nI v else mm_I M x (b + 11) := fun x => by simp [I_A, I_I]
      have u : ∀ k, k ≠ 73 → upd (mm_A M (B + 45)) (3940 * p + 73) (nI v) (3940 * p + k) = mm_A M (B + 45) (3940 * p + k) := fun k hk => by rw [upd_eq, if_neg (by omega)]
      have u73 : upd (mm_A M (B + 45)) (3940 * p + 73) (nI v) (3940 * p + 73) = nI v := by rw [upd_eq, if_pos rfl]
      unfold rBu
      simp only [e, u 70 (by decide), u 71 (by decide), u 72 (by decide), u 74 (by decide), u 75 (by decide), u 76 (by decide), u73]
      exact ⟨b1, b2, b3, b4, rfl, b6, b7, b8, b9, b10, ⟨v, v1, rfl⟩, b12⟩
  · refine Or.inl ⟨12, by decide, by decide, ?_, fun m _ => ?_⟩
    · rw [within_eq, show (100 : Int32).toInt = 100 from rfl, if_neg hw]
      exact bind_eta _
    · rw [isIn_eq, toI64, show (0 : Int64).toInt = 0 from rfl, show (100 : Int64).toInt = 100 from rfl, if_neg hw]
      exact bind_eta _
