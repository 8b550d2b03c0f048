/-! where a ladder stands; back -/
def stM (M : Mm) (b : Nat) (v s : Int32) : Mm := ms_A (ms_A (ms_I M 98 (b + 9) v) (b + 7) (upd (mm_A M (b + 7)) 1 (mm_A M (b + 7) 1))) (b + 8) (upd (mm_A M (b + 8)) 1 s)
theorem stM_e {M : Mm} {b a : Nat} {v s : Int32} (h7 : a ≠ b + 7) (h8 : a ≠ b + 8) (h9 : a ≠ b + 9) : eqAt M (stM M b v s) a := ((eqAt.I h9).tr (eqAt.A h7)).tr (eqAt.A h8)
theorem z_toInt {z : Nat} (hz : z ≤ 1000) : (nI z - 1).toInt = (z : Int) - 1 := pk_sub_toInt (a := z) (b := 1) (by omega) (by decide)
theorem z_pred {z : Nat} (hz : 1 ≤ z) : nI z - 1 = nI (z - 1) := by
  obtain ⟨y, rfl⟩ : ∃ y, z = y + 1 := ⟨z - 1, by omega⟩
  rw [← nI_1, Int32.add_sub_cancel]
  rfl
section STN
variable {B n : Nat} {K L : Nat → Nat} {M : Mm} {b o k z p hh : Nat} {S : Nat → Int32} {C : Nat → Nat → Option Nat}
theorem stepAt_eq (h : BS K L (mm_R M) C b) (la : mm_I M 97 (b + 9) = if k = 0 then -1 else nI k) (hk : k ≤ 20) (hz : z ≤ 21) : f_X3_stepAt K L M (b + 9) (nI z - 1) = some (if 1 ≤ z ∧ z ≤ k then mm_A M (b + 10) (z - 1) else 0) := by
  obtain ⟨-, -, -, ⟨-, r1, q1, q2⟩, -⟩ := h
  unfold f_X3_stepAt
  rw [hasStep_eq la hk, z_toInt (by omega)]
  simp only [Option.bind_some]
  by_cases q : 1 ≤ z ∧ z ≤ k
  · rw [if_pos (show 0 ≤ (z : Int) - 1 ∧ (z : Int) - 1 < k by omega), if_neg (by decide), if_pos q, z_pred q.1, show mm_R M (32 * 3 + 0) (b + 9) = some (b + 10) from r1, rx_ok q1 q2 (show z - 1 < 20 by omega) (by decide)]
    simp only [Option.bind_some]
    rw [nI_clamp (by omega)]
  · rw [if_neg (show ¬ (0 ≤ (z : Int) - 1 ∧ (z : Int) - 1 < k) by omega), if_pos rfl, if_neg q]
theorem stand_eq (h : BS K L (mm_R M) C b) (la : mm_I M 97 (b + 9) = if k = 0 then -1 else nI k) (hk : k ≤ 20) (hz : z ≤ 21) : f_X9_standOn K L b (nI z - 1) M = some (stM M b (nI z - 1) (if 1 ≤ z ∧ z ≤ k then mm_A M (b + 10) (z - 1) else 0)) := by
  have h' : BS K L (mm_R (ms_I M 98 (b + 9) (nI z - 1))) C b := h
  have la' : mm_I (ms_I M 98 (b + 9) (nI z - 1)) 97 (b + 9) = if k = 0 then -1 else nI k := by rw [I_I, if_neg (by omega)]; exact la
  have hr9 : mm_R M (32 * 9 + 9) b = some (b + 9) := h.1.2.2.2.1
  have hc9 : rc K (some (b + 9)) 3 = some (b + 9) := rc_ok h.2.2.2.1.1
  have hr4 : mm_R M (32 * 9 + 4) b = some (b + 6) := h.1.2.2.1
  have hc4 : rc K (some (b + 6)) 7 = some (b + 6) := rc_ok h.2.2.1.1
  unfold f_X9_standOn
  simp only [hr9, hc9, Option.bind_some, bn_eq, R_I, hr4, hc4, show (32 * 3 + 2 : Nat) = 98 from rfl, show f_X7_firstOf K L (ms_I M 98 (b + 9) (nI z - 1)) (b + 6) 1 = _ from firstOf_eq h' (w := 1) (by decide) (by decide), stepAt_eq h' la' hk hz, show ∀ x y, f_X7_put K L (b + 6) 1 x y (ms_I M 98 (b + 9) (nI z - 1)) = _ from fun x y => put_eq h' (w := 1) (by decide) (by decide) x y]
  rfl
theorem rAll_stand (r : rAll M b S o) (hz : z ≤ 20) {s : Int32} (hk : ∀ k : Nat, k ≤ 20 → S (o + 48) = nI k → (0 < k → z ≤ k)) (hs : ∃ v : Nat, v ≤ 10000 ∧ s = nI v) : rAll (stM M b (nI z - 1) s) b (upd (upd S (o + 69) (nI z - 1)) (o + 37) s) o := by
  have r1 : rAll (ms_I M 98 (b + 9) (nI z - 1)) b (upd S (o + 69) (nI z - 1)) o := by
    refine but_La (fun c _ _ h3 _ => eqAt.I h3) (fun j h1 h2 => by rw [upd_eq, if_neg (by omega)]) r ?_
    obtain ⟨k, z0, l1, l2, l3, l4, l5, l6, l7, l8⟩ := r.2.2.2.1
    refine ⟨k, z, l1, hz, hk k l1 l4, by rw [upd_eq, if_neg (by omega)]; exact l4, by rw [upd_eq, if_pos rfl], by rw [I_I, if_neg (by omega)]; exact l6, by rw [I_I, if_pos ⟨rfl, rfl⟩], fun i hi => ?_⟩
    rw [upd_eq, if_neg (by omega), A_I]
    exact l8 i hi
  obtain ⟨v, v1, ev⟩ := hs
  obtain ⟨s1, s2, f, s', f1, f2, f3, f4⟩ := r.2.2.1 1 (by decide) (by decide)
  refine but_Sh (fun c _ _ h3 => (eqAt.A (by omega)).tr (eqAt.A (by omega))) (fun j h1 h2 => by rw [upd_eq, if_neg (by omega)]) r1 ?_
  refine rSh_put r1.2.2.1 (w := 1) (by decide) (by decide) f1 v1 ?_ ?_ ?_ ?_ (fun j h1 h2 h3 h4 => ?_)
  · unfold stM
    rw [A_A, if_neg (by omega), A_A, if_pos rfl, A_I, s1, f3]
  · unfold stM
    rw [A_A, if_pos rfl, A_I, ev]
  · rw [upd_eq, if_neg (by omega), upd_eq, if_neg (by omega)]
    exact f3
  · rw [upd_eq, if_pos rfl, ev]
  · rw [upd_eq, if_neg (by omega)]
theorem iv_fin (iv : Iv B n K L M) (g : Got B K L M p b hh) {M3 : Mm} {S3 : Nat → Int32} (hR : mm_R M3 = mm_R M) (hC : mm_C M3 = mm_C M) (hA : ∀ a, (a < b ∨ b + 30 ≤ a) → eqAt M M3 a) (hS : ∀ i, (i < 3940 * p ∨ 3940 * p + 3940 ≤ i) → S3 i = mm_A M (B + 45) i) (h0 : ∀ k, (k = 0 ∨ k = 44 ∨ k = 46) → S3 (3940 * p + k) = mm_A M (B + 45) (3940 * p + k)) (ok : rOk S3 (3940 * p)) (r : rAll M3 b S3 (3940 * p)) : Iv B n K L (ms_A M3 (B + 45) S3) := by
  obtain ⟨g1, g2, g3, g4, g5, g6, g7, g8, g9, g10, g11⟩ := id g
  exact iv_upd iv g hR hC (fun a h1 h2 => (hA a h1).tr (eqAt.A h2)) (by rw [A_A, if_pos rfl]) hS (h0 0 (by omega)) (h0 44 (by omega)) (h0 46 (by omega)) ok (r.fr (fun c h1 h2 => eqAt.A (by omega)) (fun _ _ => rfl))
end STN
theorem mp_0 (M : Mm) (B i : Nat) (v : Int32) : mp M B i v = ms_A M (B + 45) (upd (mm_A M (B + 45)) i v) := rfl
theorem mp_m (M : Mm) (B i : Nat) (g : Nat → Int32) (v : Int32) : mp (ms_A M (B + 45) g) B i v = ms_A M (B + 45) (upd g i v) := by
  unfold mp
  rw [ms_A_A, A_A, if_pos rfl]
theorem goesTo_eq {B : Nat} {K L : Nat → Nat} {M : Mm} {p z : Nat} (hM : MS B K L (mm_R M)) (hp : p < 16) (hz : z ≤ 20) : f_X12_goesTo K L (B + 44) (nI p) (nI z - 1) M = some (mp (mp M B (3940 * p + 69) (nI z - 1)) B (3940 * p + 37) (if 1 ≤ z then mm_A M (B + 45) (3940 * p + 49 + (z - 1)) else 0)) := by
  have h44 : rc K (some (B + 44)) 12 = some (B + 44) := rc_ok hM.1.1
  have hM' : MS B K L (mm_R (mp M B (3940 * p + 69) (nI z - 1))) := hM
  unfold f_X12_goesTo
  rw [m_to' (c := 69) hM hp 69 rfl (by decide)]
  simp only [Option.bind_some, f_X12_goesTo_29, h44]
  by_cases q : 1 ≤ z
  · rw [if_pos (by rw [t_le, z_toInt (by omega), show (0 : Int32).toInt = 0 from rfl]; omega), if_pos q, m_of (c := 49 + (nI z - 1)) hM' hp (49 + (z - 1)) (by rw [z_pred q]; exact nI_add 49 _) (by omega)]
    simp only [Option.bind_some]
    rw [m_to' (c := 37) hM' hp 37 rfl (by decide), mp_S, upd_eq, if_neg (by omega), ← Nat.add_assoc]
    rfl
  · rw [if_neg (by rw [t_le, z_toInt (by omega), show (0 : Int32).toInt = 0 from rfl]; omega), if_neg q, m_to' (c := 37) hM' hp 37 rfl (by decide)]
    rfl
theorem rOk_stand {S : Nat → Int32} {o hh : Nat} {v s : Int32} (r : rOk S o) (h0 : S o = nI hh) (h23 : hh = 2 ∨ hh = 3) : rOk (upd (upd S (o + 69) v) (o + 37) s) o := by
  have e0 : upd (upd S (o + 69) v) (o + 37) s o = S o := by rw [upd_eq, if_neg (by omega), upd_eq, if_neg (by omega)]
  have e : ∀ k, k ≠ 69 → k ≠ 37 → upd (upd S (o + 69) v) (o + 37) s (o + k) = S (o + k) := fun k h1 h2 => by rw [upd_eq, if_neg (by omega), upd_eq, if_neg (by omega)]
  obtain ⟨r1, r2, r3, r4, r5, r6, r7⟩ := r
  unfold rOk
  rw [e0, e 1 (by decide) (by decide), e 2 (by decide) (by decide), e 44 (by decide) (by decide), e 46 (by decide) (by decide), e 47 (by decide) (by decide)]
  refine ⟨r1, r2, r3, r4, r5, ?_, r7⟩
  rcases h23 with h | h
  · exact Or.inl (by rw [h0, h])
  · exact Or.inr (Or.inl (by rw [h0, h]))
theorem okk1 {hh : Nat} (h : okk hh 1) : hh = 2 ∨ hh = 3 := by
  unfold okk at h
  omega
theorem sm1 {k : Nat} (h : k ≤ 20) : ¬ nI k = 0 ↔ ¬ k = 0 := by
  constructor
  · intro a e; exact a (by rw [e]; rfl)
  · intro a; exact nI_ne0 (by omega) (by omega)
/-- back -/
theorem st_21 (fu : Nat) : so_21 Iv fu := by
  intro B n K L M w1 iv
  refine gated iv w1 (kinds := 6) (kind := 1) (by unfold kb; simp) (F2 := fun m => f_X12_back K L (B + 44) w1 m) (G2 := fun m => Option.bind (f_X12_of K L m (B + 44) w1 69) (fun x3 => if x3 ≤ 0 then f_X12_back_34 K L (B + 44) w1 0 m else Option.bind (f_X12_of K L m (B + 44) w1 48) (fun x5 => if x5 = 0 then f_X12_back_34 K L (B + 44) w1 (-2) m else f_X12_back_34 K L (B + 44) w1 0 m))) rfl ?_ ?_
  · intro m
    show f_X12_back K L (B + 44) w1 m = _
    unfold f_X12_back
    congr 1
    funext x1
    by_cases h : x1 = 0
    · rw [if_pos h, if_pos h, h]
    · rw [if_neg h, if_neg h]
      unfold f_X12_back_34 f_X12_back_51
      rw [if_neg h, if_neg h]
  intro p b hh hv hk g
  subst hv
  obtain ⟨g1, g2, g3, g4, g5, g6, g7, g8, g9, g10, g11⟩ := id g
  have hc1 : rc K (some b) 9 = some b := rc_ok g9.1.1
  have hr9 : mm_R M (32 * 9 + 9) b = some (b + 9) := g9.1.2.2.2.1
  have hc9 : rc K (some (b + 9)) 3 = some (b + 9) := rc_ok g9.2.2.2.1.1
  have hr4 : mm_R M (32 * 9 + 4) b = some (b + 6) := g9.1.2.2.1
  have hc4 : rc K (some (b + 6)) 7 = some (b + 6) := rc_ok g9.2.2.1.1
  obtain ⟨k, z, l1, l2, l3, l4, l5, l6, l7, l8⟩ := g11.2.2.2.1
  have hle : ∀ z : Nat, z ≤ 20 → (nI z - 1 ≤ 0 ↔ z ≤ 1) := fun z hz => by rw [t_le, z_toInt (by omega), show (0 : Int32).toInt = 0 from rfl]; omega
  have hge : ∀ z : Nat, z ≤ 20 → ((0 : Int32) ≤ nI z - 1 ↔ 1 ≤ z) := fun z hz => by rw [t_le, z_toInt (by omega), show (0 : Int32).toInt = 0 from rfl]; omega
  have M50 : f_X11_back_50 K L B (some b) M = if z = 0 then f_X11_refuse K L B (-(nI 12)) M else some ((if 1 ≤ z - 1 ∧ z - 1 ≤ k then mm_A M (b + 10) (z - 1 - 1) else 0), stM M b (nI (z - 1) - 1) (if 1 ≤ z - 1 ∧ z - 1 ≤ k then mm_A M (b + 10) (z - 1 - 1) else 0)) := by
    unfold f_X11_back_50
    simp only [hc1, hr9, hc9, Option.bind_some, stood_eq l7 l2, show mm_I M (32 * 3 + 2) (b + 9) = _ from l7]
    by_cases h : z = 0
    · rw [if_pos h, if_pos rfl, if_pos h, bind_eta]
      rfl
    · rw [if_neg h, if_neg (by decide), if_neg h, z_pred (by omega), stand_eq g9 l6 l1 (z := z - 1) (by omega)]
      have h' : BS K L (mm_R (stM M b (nI (z - 1) - 1) (if 1 ≤ z - 1 ∧ z - 1 ≤ k then mm_A M (b + 10) (z - 1 - 1) else 0))) (mm_C M) b := g9
      simp only [Option.bind_some]
      rw [show mm_R (stM M b (nI (z - 1) - 1) (if 1 ≤ z - 1 ∧ z - 1 ≤ k then mm_A M (b + 10) (z - 1 - 1) else 0)) (32 * 9 + 4) b = some (b + 6) from hr4, hc4]
      simp only [Option.bind_some]
      rw [show f_X7_sizeOf K L (stM M b (nI (z - 1) - 1) (if 1 ≤ z - 1 ∧ z - 1 ≤ k then mm_A M (b + 10) (z - 1 - 1) else 0)) (b + 6) 1 = _ from sizeOf_eq h' (w := 1) (by decide) (by decide)]
      simp only [Option.bind_some, stM, A_A, if_true, upd_eq]
  have M51 : ∀ m, sameS B M m → f_X12_back_34 K L (B + 44) (nI p) 0 m = if z = 0 then f_X12_no K L (B + 44) (-(nI 12)) m else Option.bind (f_X12_goesTo K L (B + 44) (nI p) (nI (z - 1) - 1) m) (fun x3 => Option.bind (f_X12_of K L x3 (B + 44) (nI p) 37) (fun x5 => some (x5, x3))) := by
    intro m hm
    have hms : MS B K L (mm_R m) := by rw [hm.1]; exact iv.1.1
    unfold f_X12_back_34
    rw [if_pos rfl, m_of (c := 69) hms g1 69 rfl (by decide), hm.2, l5]
    simp only [Option.bind_some]
    by_cases h : z = 0
    · rw [if_pos h, if_neg (by rw [hge z l2]; omega)]
      unfold f_X12_back_51
      rw [if_neg (by decide), bind_eta]
      rfl
    · rw [if_neg h, if_pos (by rw [hge z l2]; omega)]
      unfold f_X12_back_51
      rw [if_pos rfl, m_of (c := 69) hms g1 69 rfl (by decide), hm.2, l5, z_pred (by omega)]
      rfl
  have E1 : (Option.bind (rc K (some b) 9) (fun a5 => Option.bind (rc K (mm_R M (32 * 9 + 9) a5) 3) (fun a7 => if (mm_I M (32 * 3 + 2) a7) ≤ 0 then f_X11_back_50 K L B (some b) M else Option.bind (f_X3_hasRow K L M a7) (fun x9 => if x9 = 0 then Option.bind (f_X11_refuse K L B (-2 : Int32) M) (fun x11 => some (x11.1, x11.2)) else f_X11_back_50 K L B (some b) M)))) = if 2 ≤ z ∧ k = 0 then f_X11_refuse K L B (-(nI 2)) M else f_X11_back_50 K L B (some b) M := by
    simp only [hc1, hr9, hc9, Option.bind_some, show mm_I M (32 * 3 + 2) (b + 9) = _ from l7, hasRow_eq l6 l1]
    by_cases h : z ≤ 1
    · rw [if_pos ((hle z l2).mpr h), if_neg (by omega)]
    · rw [if_neg (fun q => h ((hle z l2).mp q))]
      by_cases h0 : k = 0
      · rw [if_pos h0, if_pos rfl, if_pos ⟨by omega, h0⟩, bind_eta]
        rfl
      · rw [if_neg h0, if_neg (by decide), if_neg (fun q => h0 q.2)]
  have E2 : ∀ m, sameS B M m → (Option.bind (f_X12_of K L m (B + 44) (nI p) 69) (fun x3 => if x3 ≤ 0 then f_X12_back_34 K L (B + 44) (nI p) 0 m else Option.bind (f_X12_of K L m (B + 44) (nI p) 48) (fun x5 => if x5 = 0 then f_X12_back_34 K L (B + 44) (nI p) (-2) m else f_X12_back_34 K L (B + 44) (nI p) 0 m))) = if 2 ≤ z ∧ k = 0 then f_X12_no K L (B + 44) (-(nI 2)) m else f_X12_back_34 K L (B + 44) (nI p) 0 m := by
    intro m hm
    have hms : MS B K L (mm_R m) := by rw [hm.1]; exact iv.1.1
    rw [m_of (c := 69) hms g1 69 rfl (by decide), m_of (c := 48) hms g1 48 rfl (by decide), hm.2, l5, l4]
    simp only [Option.bind_some]
    by_cases h : z ≤ 1
    · rw [if_pos ((hle z l2).mpr h), if_neg (by omega)]
    · rw [if_neg (fun q => h ((hle z l2).mp q))]
      by_cases h0 : k = 0
      · rw [if_pos (by rw [h0]; rfl), if_pos ⟨by omega, h0⟩]
        unfold f_X12_back_34 f_X12_back_51
        rw [if_neg (by decide), if_neg (by decide), bind_eta]
        rfl
      · rw [if_neg ((sm1 l1).mpr h0), if_neg (fun q => h0 q.2)]
  by_cases hX : 2 ≤ z ∧ k = 0
  · exact Or.inl ⟨2, by decide, by decide, E1.trans (if_pos hX), fun m hm => (E2 m hm).trans (if_pos hX)⟩
  · by_cases h0 : z = 0
    · exact Or.inl ⟨12, by decide, by decide, E1.trans ((if_neg hX).trans (M50.trans (if_pos h0))), fun m hm => (E2 m hm).trans ((if_neg hX).trans ((M51 m hm).trans (if_pos h0)))⟩
    · right
      have hsv : (if 1 ≤ z - 1 ∧ z - 1 ≤ k then mm_A M (b + 10) (z - 1 - 1) else 0) = if 1 ≤ z - 1 then mm_A M (B + 45) (3940 * p + 49 + (z - 1 - 1)) else 0 := by
        by_cases q : 1 ≤ z - 1
        · rw [if_pos q, if_pos (by omega)]
          exact (l8 (z - 1 - 1) (by omega)).1
        · rw [if_neg q, if_neg (by omega)]
      have hsb : ∃ v : Nat, v ≤ 10000 ∧ (if 1 ≤ z - 1 ∧ z - 1 ≤ k then mm_A M (b + 10) (z - 1 - 1) else 0) = nI v := by
        rw [hsv]
        by_cases q : 1 ≤ z - 1
        · rw [if_pos q]
          exact (l8 (z - 1 - 1) (by omega)).2
        · rw [if_neg q]
          exact ⟨0, by omega, rfl⟩
      generalize hs : (if 1 ≤ z - 1 ∧ z - 1 ≤ k then mm_A M (b + 10) (z - 1 - 1) else 0) = s at *
      have hsS : sameS B M (stM M b (nI (z - 1) - 1) s) := ⟨rfl, (stM_e (by omega) (by omega) (by omega)).2.2.2.1⟩
      have hms : MS B K L (mm_R (stM M b (nI (z - 1) - 1) s)) := iv.1.1
      refine ⟨(s, stM M b (nI (z - 1) - 1) s), (s, ms_A (stM M b (nI (z - 1) - 1) s) (B + 45) (upd (upd (mm_A M (B + 45)) (3940 * p + 69) (nI (z - 1) - 1)) (3940 * p + 37) s)), E1.trans ((if_neg hX).trans (M50.trans (if_neg h0))), hsS, ?_, rfl, ?_⟩
      · refine (E2 _ hsS).trans ((if_neg hX).trans ((M51 _ hsS).trans ((if_neg h0).trans ?_)))
        rw [goesTo_eq hms g1 (by omega), hsS.2, ← hsv, mp_0 (stM M b (nI (z - 1) - 1) s), mp_m, hsS.2]
        simp only [Option.bind_some]
        rw [m_of (c := 37) (M := ms_A (stM M b (nI (z - 1) - 1) s) (B + 45) _) hms g1 37 rfl (by decide), A_A, if_pos rfl, upd_eq, if_pos rfl]
        rfl
      · refine iv_fin iv g rfl rfl (fun a h => stM_e (by omega) (by omega) (by omega)) (fun i hi => by rw [upd_eq, if_neg (by omega), upd_eq, if_neg (by omega)]) (fun j hj => by rw [upd_eq, if_neg (by omega), upd_eq, if_neg (by omega)]) (rOk_stand g10 g4 (okk1 hk)) (rAll_stand g11 (by omega) (fun k' h1 h2 h3 => ?_) hsb)
        have : k' = k := (nI_eq (by omega) (by omega)).mp (h2.symm.trans l4)
        have := l3 (by omega)
        omega
