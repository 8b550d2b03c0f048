/-! the other parts of a switch; budget, trialTold, trial, read -/
section BU2
variable {M M' : Mm} {b o : Nat} {S S' : Nat → Int32}
theorem but_Tr (h : ∀ c, b ≤ c → c < b + 30 → (c < b + 12 ∨ b + 12 < c) → eqAt M M' c) (hS : ∀ k, k < 3940 → (k < 77 ∨ 87 < k) → S' (o + k) = S (o + k)) (r : rAll M b S o) (x : rTr M' b S' o) : rAll M' b S' o := by
  obtain ⟨r1, r2, r3, r4, r5, r6, r7, r8, r9, r10⟩ := r
  exact ⟨r1.fr (h b (by omega) (by omega) (by omega)) (fun k hk => hS k (by omega) (by omega)), r2.fr (fun c _ _ => h c (by omega) (by omega) (by omega)) (fun k _ _ => hS k (by omega) (by omega)), r3.fr (fun c _ _ => h c (by omega) (by omega) (by omega)) (fun k _ _ => hS k (by omega) (by omega)), r4.fr (fun c _ _ => h c (by omega) (by omega) (by omega)) (fun k _ _ => hS k (by omega) (by omega)), r5.fr (h _ (by omega) (by omega) (by omega)) (fun k _ _ => hS k (by omega) (by omega)), x, r7.fr (fun c _ _ => h c (by omega) (by omega) (by omega)) (fun k hk => hS k (by omega) (by omega)), r8.fr (fun c _ _ => h c (by omega) (by omega) (by omega)) (fun k hk => hS k (by omega) (by omega)), r9.fr (fun c _ _ => h c (by omega) (by omega) (by omega)) (fun k hk => hS k (by omega) (by omega)), r10.fr (fun c _ _ => h c (by omega) (by omega) (by omega)) (fun k hk => hS k (by omega) (by omega))⟩
theorem but_Sh (h : ∀ c, b ≤ c → c < b + 30 → (c < b + 7 ∨ b + 8 < c) → eqAt M M' c) (hS : ∀ k, k < 3940 → (k < 29 ∨ 43 < k) → S' (o + k) = S (o + k)) (r : rAll M b S o) (x : rSh M' b S' o) : rAll M' b S' o := by
  obtain ⟨r1, r2, r3, r4, r5, r6, r7, r8, r9, r10⟩ := r
  exact ⟨r1.fr (h b (by omega) (by omega) (by omega)) (fun k hk => hS k (by omega) (by omega)), r2.fr (fun c _ _ => h c (by omega) (by omega) (by omega)) (fun k _ _ => hS k (by omega) (by omega)), x, r4.fr (fun c _ _ => h c (by omega) (by omega) (by omega)) (fun k _ _ => hS k (by omega) (by omega)), r5.fr (h _ (by omega) (by omega) (by omega)) (fun k _ _ => hS k (by omega) (by omega)), r6.fr (h _ (by omega) (by omega) (by omega)) (fun k _ _ => hS k (by omega) (by omega)), r7.fr (fun c _ _ => h c (by omega) (by omega) (by omega)) (fun k hk => hS k (by omega) (by omega)), r8.fr (fun c _ _ => h c (by omega) (by omega) (by omega)) (fun k hk => hS k (by omega) (by omega)), r9.fr (fun c _ _ => h c (by omega) (by omega) (by omega)) (fun k hk => hS k (by omega) (by omega)), r10.fr (fun c _ _ => h c (by omega) (by omega) (by omega)) (fun k hk => hS k (by omega) (by omega))⟩
theorem but_Sw (h : ∀ c, b ≤ c → c < b + 30 → (b < c) → eqAt M M' c) (hS : ∀ k, k < 3940 → (2 < k ∧ (k < 44 ∨ 47 < k)) → S' (o + k) = S (o + k)) (r : rAll M b S o) (x : rSw M' b S' o) : rAll M' b S' o := by
  obtain ⟨r1, r2, r3, r4, r5, r6, r7, r8, r9, r10⟩ := r
  exact ⟨x, r2.fr (fun c _ _ => h c (by omega) (by omega) (by omega)) (fun k _ _ => hS k (by omega) (by omega)), r3.fr (fun c _ _ => h c (by omega) (by omega) (by omega)) (fun k _ _ => hS k (by omega) (by omega)), r4.fr (fun c _ _ => h c (by omega) (by omega) (by omega)) (fun k _ _ => hS k (by omega) (by omega)), r5.fr (h _ (by omega) (by omega) (by omega)) (fun k _ _ => hS k (by omega) (by omega)), r6.fr (h _ (by omega) (by omega) (by omega)) (fun k _ _ => hS k (by omega) (by omega)), r7.fr (fun c _ _ => h c (by omega) (by omega) (by omega)) (fun k hk => hS k (by omega) (by omega)), r8.fr (fun c _ _ => h c (by omega) (by omega) (by omega)) (fun k hk => hS k (by omega) (by omega)), r9.fr (fun c _ _ => h c (by omega) (by omega) (by omega)) (fun k hk => hS k (by omega) (by omega)), r10.fr (fun c _ _ => h c (by omega) (by omega) (by omega)) (fun k hk => hS k (by omega) (by omega))⟩
theorem but_Ct {w : Nat} (hw : w < 4) (h : ∀ c, b ≤ c → c < b + 30 → (c < b + 14 + 4 * w ∨ b + 17 + 4 * w < c) → eqAt M M' c) (hS : ∀ k, k < 3940 → (k ≠ 90 + w ∧ (k < 100 + 960 * w ∨ 1060 + 960 * w ≤ k)) → S' (o + k) = S (o + k)) (r : rAll M b S o) (x : rCt M' b S' o w) : rAll M' b S' o := by
  obtain ⟨r1, r2, r3, r4, r5, r6, r7, r8, r9, r10⟩ := r
  have f : ∀ v, v < 4 → v ≠ w → rCt M b S o v → rCt M' b S' o v := fun v hv hne q => q.fr (fun c _ _ => h c (by omega) (by omega) (by omega)) (fun k hk => hS k (by omega) (by omega))
  have a : ∀ v, v < 4 → rCt M b S o v → rCt M' b S' o v := fun v hv q => if e : v = w then e ▸ x else f v hv e q
  exact ⟨r1.fr (h b (by omega) (by omega) (by omega)) (fun k hk => hS k (by omega) (by omega)), r2.fr (fun c _ _ => h c (by omega) (by omega) (by omega)) (fun k _ _ => hS k (by omega) (by omega)), r3.fr (fun c _ _ => h c (by omega) (by omega) (by omega)) (fun k _ _ => hS k (by omega) (by omega)), r4.fr (fun c _ _ => h c (by omega) (by omega) (by omega)) (fun k _ _ => hS k (by omega) (by omega)), r5.fr (h _ (by omega) (by omega) (by omega)) (fun k _ _ => hS k (by omega) (by omega)), r6.fr (h _ (by omega) (by omega) (by omega)) (fun k _ _ => hS k (by omega) (by omega)), a 0 (by decide) r7, a 1 (by decide) r8, a 2 (by decide) r9, a 3 (by decide) r10⟩
end BU2
/-- trialTold -/
theorem st_32 (fu : Nat) : so_32 Iv fu := by
  intro B n K L M w1 w2 iv
  refine gated iv w1 (kinds := 4) (kind := 3) (by unfold kb; simp) (F2 := fun m => f_X12_trialTold K L (B + 44) w1 w2 m) rfl (fun m => rfl) ?_
  intro p b hh hv hk g
  subst hv
  obtain ⟨g1, g2, g3, g4, g5, g6, g7, g8, g9, g10, g11⟩ := id g
  have hc1 : rc K (some b) 9 = some b := rc_ok g9.1.1
  have hr : mm_R M (32 * 9 + 11) b = some (b + 12) := g9.1.2.2.2.2.2.1
  have hc2 : rc K (some (b + 12)) 10 = some (b + 12) := rc_ok g9.2.2.2.2.2.1
  have hc4 : rc K (some (B + 44)) 12 = some (B + 44) := rc_ok iv.1.1.1.1
  have ht := g11.2.2.2.2.2.1.1
  by_cases hw : 0 ≤ w2.toInt ∧ w2.toInt ≤ 6
  · obtain ⟨v, v1, rfl⟩ := n_of (v := w2) (m := 6) hw.1 hw.2 (by decide)
    have key : ∀ (j : Nat) (c : Int32), j < 11 → c = nI (77 + j) → f_X12_trialTold_62 K L (B + 44) c (nI p) (some (B + 44)) M = some (mm_I M (320 + j) (b + 12), M) := by
      intro j c hj hc
      unfold f_X12_trialTold_62
      rw [hc4]
      simp only [Option.bind_some, m_of (c := c) iv.1.1 g1 (77 + j) hc (by omega)]
      rw [ht j hj, Nat.add_assoc]
    have cl : ∀ j : Nat, Option.bind (rc K (some b) 9) (fun a5 => Option.bind (rc K (mm_R M (32 * 9 + 11) a5) 10) (fun a7 => some (mm_I M (32 * 10 + j) a7, M))) = some (mm_I M (320 + j) (b + 12), M) := by
      intro j
      rw [hc1]
      simp only [Option.bind_some, hr, hc2]
    right
    rcases (show v = 0 ∨ v = 1 ∨ v = 2 ∨ v = 3 ∨ v = 4 ∨ v = 5 ∨ v = 6 by omega) with rfl | rfl | rfl | rfl | rfl | rfl | rfl
    · exact ⟨_, (mm_I M (320 + 6) (b + 12), M), (if_pos (by decide)).trans (cl 6), sameS_rf, by rw [isIn_l _ (a := 0) (c := 6) rfl rfl, if_pos hw]; exact key 6 _ (by decide) rfl, rfl, iv⟩
    · exact ⟨_, (mm_I M (320 + 7) (b + 12), M), (if_neg (by decide)).trans ((if_pos (by decide)).trans (cl 7)), sameS_rf, by rw [isIn_l _ (a := 0) (c := 6) rfl rfl, if_pos hw]; exact key 7 _ (by decide) rfl, rfl, iv⟩
    · exact ⟨_, (mm_I M (320 + 8) (b + 12), M), (if_neg (by decide)).trans ((if_neg (by decide)).trans ((if_pos (by decide)).trans (cl 8))), sameS_rf, by rw [isIn_l _ (a := 0) (c := 6) rfl rfl, if_pos hw]; exact key 8 _ (by decide) rfl, rfl, iv⟩
    · exact ⟨_, (mm_I M (320 + 9) (b + 12), M), (if_neg (by decide)).trans ((if_neg (by decide)).trans ((if_neg (by decide)).trans ((if_pos (by decide)).trans (cl 9)))), sameS_rf, by rw [isIn_l _ (a := 0) (c := 6) rfl rfl, if_pos hw]; exact key 9 _ (by decide) rfl, rfl, iv⟩
    · exact ⟨_, (mm_I M (320 + 10) (b + 12), M), (if_neg (by decide)).trans ((if_neg (by decide)).trans ((if_neg (by decide)).trans ((if_neg (by decide)).trans ((if_pos (by decide)).trans (cl 10))))), sameS_rf, by rw [isIn_l _ (a := 0) (c := 6) rfl rfl, if_pos hw]; exact key 10 _ (by decide) rfl, rfl, iv⟩
    · exact ⟨_, (mm_I M (320 + 4) (b + 12), M), (if_neg (by decide)).trans ((if_neg (by decide)).trans ((if_neg (by decide)).trans ((if_neg (by decide)).trans ((if_neg (by decide)).trans ((if_pos (by decide)).trans (cl 4)))))), sameS_rf, by rw [isIn_l _ (a := 0) (c := 6) rfl rfl, if_pos hw]; exact key 4 _ (by decide) rfl, rfl, iv⟩
    · exact ⟨_, (mm_I M (320 + 5) (b + 12), M), (if_neg (by decide)).trans ((if_neg (by decide)).trans ((if_neg (by decide)).trans ((if_neg (by decide)).trans ((if_neg (by decide)).trans ((if_neg (by decide)).trans ((if_pos (by decide)).trans (cl 5))))))), sameS_rf, by rw [isIn_l _ (a := 0) (c := 6) rfl rfl, if_pos hw]; exact key 5 _ (by decide) rfl, rfl, iv⟩
  · refine Or.inl ⟨12, by decide, by decide, ?_, fun m _ => ?_⟩
    · rw [if_neg (fun e => hw (by rw [e]; decide)), if_neg (fun e => hw (by rw [e]; decide)), if_neg (fun e => hw (by rw [e]; decide)), if_neg (fun e => hw (by rw [e]; decide)), if_neg (fun e => hw (by rw [e]; decide)), if_neg (fun e => hw (by rw [e]; decide)), if_neg (fun e => hw (by rw [e]; decide))]
      exact bind_eta _
    · rw [isIn_l _ (a := 0) (c := 6) rfl rfl, if_neg hw]
      exact bind_eta _
