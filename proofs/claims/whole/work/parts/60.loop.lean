/-! the law over an invariant: what the pure part owes (lw_ok), and the claim out of it -/
def mm_0 : Mm := (fun _ _ => 0, fun _ _ => 0, fun _ _ => none, fun _ _ => 0, fun _ _ => 0, fun _ _ => none)
abbrev IvT : Type := Nat → Nat → (Nat → Nat) → (Nat → Nat) → Mm → Prop
def so_0 (Iv : IvT) (fu : Nat) : Prop := ∀ (B n : Nat) (K L : Nat → Nat) (M : Mm) (w1 w2 w3 w4 : Int32), Iv B n K L M → ∃ (x1 : (Int32 × Mm)) (x2 : (Int32 × Mm)), f_X11_caller K L B w1 w2 w3 w4 M = some x1 ∧ f_X12_caller K L (B + 44) w1 w2 w3 w4 (x1.2) = some x2 ∧ (x1.1) = (x2.1) ∧ Iv B n K L (x2.2)
def so_1 (Iv : IvT) (fu : Nat) : Prop := ∀ (B n : Nat) (K L : Nat → Nat) (M : Mm) (w1 : Int32), Iv B n K L M → ∃ (x1 : (Int32 × Mm)) (x2 : (Int32 × Mm)), f_X11_seat K L B w1 M = some x1 ∧ f_X12_seat K L (B + 44) w1 (x1.2) = some x2 ∧ (x1.1) = (x2.1) ∧ Iv B n K L (x2.2)
def so_2 (Iv : IvT) (fu : Nat) : Prop := ∀ (B n : Nat) (K L : Nat → Nat) (M : Mm) (w1 : Int32), Iv B n K L M → ∃ (x1 : (Int32 × Mm)) (x2 : (Int32 × Mm)), f_X11_way K L fu B w1 M = some x1 ∧ f_X12_way K L fu (B + 44) w1 (x1.2) = some x2 ∧ (x1.1) = (x2.1) ∧ Iv B n K L (x2.2)
def so_3 (Iv : IvT) (fu : Nat) : Prop := ∀ (B n : Nat) (K L : Nat → Nat) (M : Mm) (w1 : Int32), Iv B n K L M → ∃ (x1 : (Int32 × Mm)) (x2 : (Int32 × Mm)), f_X11_why K L fu B w1 M = some x1 ∧ f_X12_why_ K L fu (B + 44) w1 (x1.2) = some x2 ∧ (x1.1) = (x2.1) ∧ Iv B n K L (x2.2)
def so_4 (Iv : IvT) (fu : Nat) : Prop := ∀ (B n : Nat) (K L : Nat → Nat) (M : Mm) (w1 w2 w3 w4 : Int32), Iv B n K L M → ∃ (x1 : (Int32 × Nat × (Nat → Nat) × (Nat → Nat) × Mm)) (x2 : (Int32 × Mm)), f_X11_make B fu n B w1 w2 w3 w4 K L M = some x1 ∧ f_X12_make (x1.2.2.1) (x1.2.2.2.1) fu (B + 44) w1 w2 w3 w4 (x1.2.2.2.2) = some x2 ∧ (x1.1) = (x2.1) ∧ n ≤ x1.2.1 ∧ Iv B (x1.2.1) (x1.2.2.1) (x1.2.2.2.1) (x2.2)
def so_5 (Iv : IvT) (fu : Nat) : Prop := ∀ (B n : Nat) (K L : Nat → Nat) (M : Mm) (w1 w2 w3 : Int32), Iv B n K L M → ∃ (x1 : (Int32 × Mm)) (x2 : (Int32 × Mm)), f_X11_note K L B w1 (((w2.toInt64) <<< ((32 : Int32).toInt64 &&& 63)) ||| ((w3.toInt64) &&& (4294967295 : Int64))) M = some x1 ∧ f_X12_note K L fu (B + 44) w1 (((w2.toInt64) <<< ((32 : Int32).toInt64 &&& 63)) ||| ((w3.toInt64) &&& (4294967295 : Int64))) (x1.2) = some x2 ∧ (x1.1) = (x2.1) ∧ Iv B n K L (x2.2)
def so_6 (Iv : IvT) (fu : Nat) : Prop := ∀ (B n : Nat) (K L : Nat → Nat) (M : Mm) (w1 : Int32), Iv B n K L M → ∃ (x1 : (Int32 × Mm)) (x2 : (Int32 × Mm)), f_X11_empty K L B w1 M = some x1 ∧ f_X12_empty K L fu (B + 44) w1 (x1.2) = some x2 ∧ (x1.1) = (x2.1) ∧ Iv B n K L (x2.2)
def so_7 (Iv : IvT) (fu : Nat) : Prop := ∀ (B n : Nat) (K L : Nat → Nat) (M : Mm) (w1 : Int32), Iv B n K L M → ∃ (x1 : (Int32 × Mm)) (x2 : (Int32 × Mm)), f_X11_holds K L B w1 M = some x1 ∧ f_X12_holds K L (B + 44) w1 (x1.2) = some x2 ∧ (x1.1) = (x2.1) ∧ Iv B n K L (x2.2)
def so_8 (Iv : IvT) (fu : Nat) : Prop := ∀ (B n : Nat) (K L : Nat → Nat) (M : Mm) (w1 : Int32), Iv B n K L M → ∃ (x1 : (Int64 × Mm)) (x2 : (Int64 × Mm)), f_X11_read K L B w1 M = some x1 ∧ f_X12_read K L (B + 44) w1 (x1.2) = some x2 ∧ (x1.1) = (x2.1) ∧ Iv B n K L (x2.2)
def so_9 (Iv : IvT) (fu : Nat) : Prop := ∀ (B n : Nat) (K L : Nat → Nat) (M : Mm) (w1 w2 w3 w4 w5 : Int32), Iv B n K L M → ∃ (x1 : (Int32 × Mm)) (x2 : (Int32 × Mm)), f_X11_rule K L B w1 w2 w3 w4 w5 M = some x1 ∧ f_X12_rule K L (B + 44) w1 w2 w3 w4 w5 (x1.2) = some x2 ∧ (x1.1) = (x2.1) ∧ Iv B n K L (x2.2)
def so_10 (Iv : IvT) (fu : Nat) : Prop := ∀ (B n : Nat) (K L : Nat → Nat) (M : Mm) (w1 : Int32), Iv B n K L M → ∃ (x1 : (Int32 × Mm)) (x2 : (Int32 × Mm)), f_X11_unrule K L B w1 M = some x1 ∧ f_X12_unrule K L (B + 44) w1 (x1.2) = some x2 ∧ (x1.1) = (x2.1) ∧ Iv B n K L (x2.2)
def so_11 (Iv : IvT) (fu : Nat) : Prop := ∀ (B n : Nat) (K L : Nat → Nat) (M : Mm) (w1 w2 w3 w4 : Int32), Iv B n K L M → ∃ (x1 : (Int32 × Mm)) (x2 : (Int32 × Mm)), f_X11_share K L fu B w1 w2 w3 w4 M = some x1 ∧ f_X12_share K L fu (B + 44) w1 w2 w3 w4 (x1.2) = some x2 ∧ (x1.1) = (x2.1) ∧ Iv B n K L (x2.2)
def so_12 (Iv : IvT) (fu : Nat) : Prop := ∀ (B n : Nat) (K L : Nat → Nat) (M : Mm) (w1 w2 w3 : Int32), Iv B n K L M → ∃ (x1 : (Int32 × Mm)) (x2 : (Int32 × Mm)), f_X11_shares K L B w1 w2 w3 M = some x1 ∧ f_X12_shares K L (B + 44) w1 w2 w3 (x1.2) = some x2 ∧ (x1.1) = (x2.1) ∧ Iv B n K L (x2.2)
def so_13 (Iv : IvT) (fu : Nat) : Prop := ∀ (B n : Nat) (K L : Nat → Nat) (M : Mm) (w1 w2 w3 : Int32), Iv B n K L M → ∃ (x1 : (Int32 × Mm)) (x2 : (Int32 × Mm)), f_X11_hang K L fu B w1 w2 w3 M = some x1 ∧ f_X12_hang K L fu (B + 44) w1 w2 w3 (x1.2) = some x2 ∧ (x1.1) = (x2.1) ∧ Iv B n K L (x2.2)
def so_14 (Iv : IvT) (fu : Nat) : Prop := ∀ (B n : Nat) (K L : Nat → Nat) (M : Mm) (w1 w2 w3 : Int32), Iv B n K L M → ∃ (x1 : (Int32 × Mm)) (x2 : (Int32 × Mm)), f_X11_stop K L fu B w1 w2 (bz w3) M = some x1 ∧ f_X12_stop K L fu (B + 44) w1 w2 (bz w3) (x1.2) = some x2 ∧ (x1.1) = (x2.1) ∧ Iv B n K L (x2.2)
def so_15 (Iv : IvT) (fu : Nat) : Prop := ∀ (B n : Nat) (K L : Nat → Nat) (M : Mm) (w1 : Int32), Iv B n K L M → ∃ (x1 : (Int32 × Mm)) (x2 : (Int32 × Mm)), f_X11_ring K L B w1 M = some x1 ∧ f_X12_ring K L (B + 44) w1 (x1.2) = some x2 ∧ (x1.1) = (x2.1) ∧ Iv B n K L (x2.2)
def so_16 (Iv : IvT) (fu : Nat) : Prop := ∀ (B n : Nat) (K L : Nat → Nat) (M : Mm) (w1 w2 : Int32), Iv B n K L M → ∃ (x1 : (Int32 × Mm)) (x2 : (Int32 × Mm)), f_X11_row K L fu B w1 w2 M = some x1 ∧ f_X12_row K L fu (B + 44) w1 w2 (x1.2) = some x2 ∧ (x1.1) = (x2.1) ∧ Iv B n K L (x2.2)
def so_17 (Iv : IvT) (fu : Nat) : Prop := ∀ (B n : Nat) (K L : Nat → Nat) (M : Mm) (w1 : Int32), Iv B n K L M → ∃ (x1 : (Int32 × Mm)) (x2 : (Int32 × Mm)), f_X11_tear K L B w1 M = some x1 ∧ f_X12_tear K L (B + 44) w1 (x1.2) = some x2 ∧ (x1.1) = (x2.1) ∧ Iv B n K L (x2.2)
def so_18 (Iv : IvT) (fu : Nat) : Prop := ∀ (B n : Nat) (K L : Nat → Nat) (M : Mm) (w1 w2 w3 : Int32), Iv B n K L M → ∃ (x1 : (Int32 × Mm)) (x2 : (Int32 × Mm)), f_X11_step K L B w1 w2 w3 M = some x1 ∧ f_X12_step K L (B + 44) w1 w2 w3 (x1.2) = some x2 ∧ (x1.1) = (x2.1) ∧ Iv B n K L (x2.2)
def so_19 (Iv : IvT) (fu : Nat) : Prop := ∀ (B n : Nat) (K L : Nat → Nat) (M : Mm) (w1 w2 w3 w4 w5 : Int32), Iv B n K L M → ∃ (x1 : (Int32 × Mm)) (x2 : (Int32 × Mm)), f_X11_copy K L B w1 w2 w3 w4 w5 M = some x1 ∧ f_X12_copy K L fu (B + 44) w1 w2 w3 w4 w5 (x1.2) = some x2 ∧ (x1.1) = (x2.1) ∧ Iv B n K L (x2.2)
def so_20 (Iv : IvT) (fu : Nat) : Prop := ∀ (B n : Nat) (K L : Nat → Nat) (M : Mm) (w1 w2 : Int32), Iv B n K L M → ∃ (x1 : (Int32 × Mm)) (x2 : (Int32 × Mm)), f_X11_grow K L fu B w1 w2 M = some x1 ∧ f_X12_grow K L fu (B + 44) w1 w2 (x1.2) = some x2 ∧ (x1.1) = (x2.1) ∧ Iv B n K L (x2.2)
def so_21 (Iv : IvT) (fu : Nat) : Prop := ∀ (B n : Nat) (K L : Nat → Nat) (M : Mm) (w1 : Int32), Iv B n K L M → ∃ (x1 : (Int32 × Mm)) (x2 : (Int32 × Mm)), f_X11_back K L B w1 M = some x1 ∧ f_X12_back K L (B + 44) w1 (x1.2) = some x2 ∧ (x1.1) = (x2.1) ∧ Iv B n K L (x2.2)
def so_22 (Iv : IvT) (fu : Nat) : Prop := ∀ (B n : Nat) (K L : Nat → Nat) (M : Mm) (w1 w2 : Int32), Iv B n K L M → ∃ (x1 : (Int32 × Mm)) (x2 : (Int32 × Mm)), f_X11_stands K L B w1 w2 M = some x1 ∧ f_X12_stands K L (B + 44) w1 w2 (x1.2) = some x2 ∧ (x1.1) = (x2.1) ∧ Iv B n K L (x2.2)
def so_23 (Iv : IvT) (fu : Nat) : Prop := ∀ (B n : Nat) (K L : Nat → Nat) (M : Mm) (w1 w2 w3 w4 w5 : Int32), Iv B n K L M → ∃ (x1 : (Int32 × Mm)) (x2 : (Int32 × Mm)), f_X11_budget K L B w1 w2 w3 w4 (bz w5) M = some x1 ∧ f_X12_budget K L (B + 44) w1 w2 w3 w4 (bz w5) (x1.2) = some x2 ∧ (x1.1) = (x2.1) ∧ Iv B n K L (x2.2)
def so_24 (Iv : IvT) (fu : Nat) : Prop := ∀ (B n : Nat) (K L : Nat → Nat) (M : Mm) (w1 w2 : Int32), Iv B n K L M → ∃ (x1 : (Int32 × Mm)) (x2 : (Int32 × Mm)), f_X11_waits K L B w1 w2 M = some x1 ∧ f_X12_waits K L (B + 44) w1 w2 (x1.2) = some x2 ∧ (x1.1) = (x2.1) ∧ Iv B n K L (x2.2)
def so_25 (Iv : IvT) (fu : Nat) : Prop := ∀ (B n : Nat) (K L : Nat → Nat) (M : Mm) (w1 w2 w3 w4 w5 : Int32), Iv B n K L M → ∃ (x1 : (Int32 × Mm)) (x2 : (Int32 × Mm)), f_X11_count K L fu B w1 w2 w3 w4 w5 M = some x1 ∧ f_X12_count K L fu (B + 44) w1 w2 w3 w4 w5 (x1.2) = some x2 ∧ (x1.1) = (x2.1) ∧ Iv B n K L (x2.2)
def so_26 (Iv : IvT) (fu : Nat) : Prop := ∀ (B n : Nat) (K L : Nat → Nat) (M : Mm) (w1 w2 w3 w4 : Int32), Iv B n K L M → ∃ (x1 : (Int32 × Mm)) (x2 : (Int32 × Mm)), f_X11_goods K L B w1 w2 w3 w4 M = some x1 ∧ f_X12_goods K L (B + 44) w1 w2 w3 w4 (x1.2) = some x2 ∧ (x1.1) = (x2.1) ∧ Iv B n K L (x2.2)
def so_27 (Iv : IvT) (fu : Nat) : Prop := ∀ (B n : Nat) (K L : Nat → Nat) (M : Mm) (w1 w2 w3 : Int32), Iv B n K L M → ∃ (x1 : (Int32 × Mm)) (x2 : (Int32 × Mm)), f_X11_counts K L B w1 w2 (bz w3) M = some x1 ∧ f_X12_counts K L fu (B + 44) w1 w2 (bz w3) (x1.2) = some x2 ∧ (x1.1) = (x2.1) ∧ Iv B n K L (x2.2)
def so_28 (Iv : IvT) (fu : Nat) : Prop := ∀ (B n : Nat) (K L : Nat → Nat) (M : Mm) (w1 w2 w3 w4 : Int32), Iv B n K L M → ∃ (x1 : (Int32 × Mm)) (x2 : (Int32 × Mm)), f_X11_told K L B w1 w2 w3 w4 M = some x1 ∧ f_X12_told K L (B + 44) w1 w2 w3 w4 (x1.2) = some x2 ∧ (x1.1) = (x2.1) ∧ Iv B n K L (x2.2)
def so_29 (Iv : IvT) (fu : Nat) : Prop := ∀ (B n : Nat) (K L : Nat → Nat) (M : Mm) (w1 w2 : Int32), Iv B n K L M → ∃ (x1 : (Int32 × Mm)) (x2 : (Int32 × Mm)), f_X11_left K L fu B w1 w2 M = some x1 ∧ f_X12_left K L fu (B + 44) w1 w2 (x1.2) = some x2 ∧ (x1.1) = (x2.1) ∧ Iv B n K L (x2.2)
def so_30 (Iv : IvT) (fu : Nat) : Prop := ∀ (B n : Nat) (K L : Nat → Nat) (M : Mm) (w1 w2 w3 w4 w5 : Int32), Iv B n K L M → ∃ (x1 : (Int32 × Mm)) (x2 : (Int32 × Mm)), f_X11_trial K L B w1 w2 w3 w4 w5 M = some x1 ∧ f_X12_trial K L fu (B + 44) w1 w2 w3 w4 w5 (x1.2) = some x2 ∧ (x1.1) = (x2.1) ∧ Iv B n K L (x2.2)
def so_31 (Iv : IvT) (fu : Nat) : Prop := ∀ (B n : Nat) (K L : Nat → Nat) (M : Mm) (w1 w2 : Int32), Iv B n K L M → ∃ (x1 : (Int32 × Mm)) (x2 : (Int32 × Mm)), f_X11_look K L fu B w1 w2 M = some x1 ∧ f_X12_look K L fu (B + 44) w1 w2 (x1.2) = some x2 ∧ (x1.1) = (x2.1) ∧ Iv B n K L (x2.2)
def so_32 (Iv : IvT) (fu : Nat) : Prop := ∀ (B n : Nat) (K L : Nat → Nat) (M : Mm) (w1 w2 : Int32), Iv B n K L M → ∃ (x1 : (Int32 × Mm)) (x2 : (Int32 × Mm)), f_X11_trialTold K L B w1 w2 M = some x1 ∧ f_X12_trialTold K L (B + 44) w1 w2 (x1.2) = some x2 ∧ (x1.1) = (x2.1) ∧ Iv B n K L (x2.2)
def so_33 (Iv : IvT) (fu : Nat) : Prop := ∀ (B n : Nat) (K L : Nat → Nat) (M : Mm) (w1 w2 w3 w4 : Int32), Iv B n K L M → ∃ (x1 : (Int32 × Mm)) (x2 : (Int32 × Mm)), f_X11_among K L fu B w1 w2 w3 w4 M = some x1 ∧ f_X12_among K L fu (B + 44) w1 w2 w3 w4 (x1.2) = some x2 ∧ (x1.1) = (x2.1) ∧ Iv B n K L (x2.2)
def so_34 (Iv : IvT) (fu : Nat) : Prop := ∀ (B n : Nat) (K L : Nat → Nat) (M : Mm) (w1 w2 w3 w4 : Int32), Iv B n K L M → ∃ (x1 : (Int32 × Mm)) (x2 : (Int32 × Mm)), f_X11_both K L fu B w1 w2 w3 w4 M = some x1 ∧ f_X12_both K L fu (B + 44) w1 w2 w3 w4 (x1.2) = some x2 ∧ (x1.1) = (x2.1) ∧ Iv B n K L (x2.2)
def so_35 (Iv : IvT) (fu : Nat) : Prop := ∀ (B n : Nat) (K L : Nat → Nat) (M : Mm) (w1 w2 w3 w4 : Int32), Iv B n K L M → ∃ (x1 : (Int32 × Mm)) (x2 : (Int32 × Mm)), f_X11_moves K L fu B w1 w2 w3 w4 M = some x1 ∧ f_X12_moves K L fu (B + 44) w1 w2 w3 w4 (x1.2) = some x2 ∧ (x1.1) = (x2.1) ∧ Iv B n K L (x2.2)
def so_36 (Iv : IvT) (fu : Nat) : Prop := ∀ (B n : Nat) (K L : Nat → Nat) (M : Mm), Iv B n K L M → ∃ (x1 : (Int32 × Nat × (Nat → Nat) × (Nat → Nat) × Mm)) (x2 : (Int32 × Mm)), f_X11_image B fu n B K L M = some x1 ∧ f_X12_image (x1.2.2.1) (x1.2.2.2.1) fu (B + 44) (x1.2.2.2.2) = some x2 ∧ (x1.1) = (x2.1) ∧ n ≤ x1.2.1 ∧ Iv B (x1.2.1) (x1.2.2.1) (x1.2.2.2.1) (x2.2)
def so_37 (Iv : IvT) (fu : Nat) : Prop := ∀ (B n : Nat) (K L : Nat → Nat) (M : Mm), Iv B n K L M → ∃ (x1 : (Int32 × Nat × (Nat → Nat) × (Nat → Nat) × Mm)) (x2 : (Int32 × Mm)), f_X11_restore B fu n B K L M = some x1 ∧ f_X12_restore (x1.2.2.1) (x1.2.2.2.1) fu (B + 44) (x1.2.2.2.2) = some x2 ∧ (x1.1) = (x2.1) ∧ n ≤ x1.2.1 ∧ Iv B (x1.2.1) (x1.2.2.1) (x1.2.2.2.1) (x2.2)
def so_38 (Iv : IvT) (fu : Nat) : Prop := ∀ (B n : Nat) (K L : Nat → Nat) (M : Mm) (w1 : Int32), Iv B n K L M → ∃ (x1 : (Int32 × Mm)) (x2 : (Int32 × Mm)), f_X11_status K L B w1 M = some x1 ∧ f_X12_status K L (B + 44) w1 (x1.2) = some x2 ∧ (x1.1) = (x2.1) ∧ Iv B n K L (x2.2)
def so_i (Iv : IvT) : Prop := ∀ B : Nat, ∃ (x y : (Nat → Nat) × (Nat → Nat) × Mm), f_X11_init B 1 B (va_up (fun _ => 99) B 11) (va_up (fun _ => 0) B 0) (mz mm_0 B) = some x ∧ f_X12_init B 45 (B + 44) (va_up x.1 (B + 44) 12) (va_up x.2.1 (B + 44) 0) (mz x.2.2 (B + 44)) = some y ∧ x.1 B = 11 ∧ Iv B 55 y.1 y.2.1 y.2.2
def so_k (Iv : IvT) : Prop := ∀ (B n : Nat) (K L : Nat → Nat) (M : Mm), Iv B n K L M → K B = 11 ∧ K (B + 44) = 12 ∧ 55 ≤ n ∧ n ≤ 2000
def lw_ok (Iv : IvT) (fu : Nat) : Prop := so_i Iv ∧ so_k Iv ∧ so_0 Iv fu ∧ so_1 Iv fu ∧ so_2 Iv fu ∧ so_3 Iv fu ∧ so_4 Iv fu ∧ so_5 Iv fu ∧ so_6 Iv fu ∧ so_7 Iv fu ∧ so_8 Iv fu ∧ so_9 Iv fu ∧ so_10 Iv fu ∧ so_11 Iv fu ∧ so_12 Iv fu ∧ so_13 Iv fu ∧ so_14 Iv fu ∧ so_15 Iv fu ∧ so_16 Iv fu ∧ so_17 Iv fu ∧ so_18 Iv fu ∧ so_19 Iv fu ∧ so_20 Iv fu ∧ so_21 Iv fu ∧ so_22 Iv fu ∧ so_23 Iv fu ∧ so_24 Iv fu ∧ so_25 Iv fu ∧ so_26 Iv fu ∧ so_27 Iv fu ∧ so_28 Iv fu ∧ so_29 Iv fu ∧ so_30 Iv fu ∧ so_31 Iv fu ∧ so_32 Iv fu ∧ so_33 Iv fu ∧ so_34 Iv fu ∧ so_35 Iv fu ∧ so_36 Iv fu ∧ so_37 Iv fu ∧ so_38 Iv fu
def lw_sl (n : Nat) : Nat := 126493 + 101 * (n - 55)
set_option maxHeartbeats 16000000 in
set_option maxRecDepth 20000 in
theorem lw_loop {Iv : IvT} {fu : Nat} (ok : lw_ok Iv fu) {X : Cx} {b Ls : Nat} {xs : Nat → Int32} (o : cOk X cL_law RL 2048) (hL : cL X = 4) (sX : va_X b Ls xs (cs X) (cs X).heap) (sb : b < (cs X).heap.size) (sB : cB X = (cs X).heap.size) (hLs : Ls ≤ 3072) (hc : 50000 ≤ (cR X).cells) (hs : 5000000 ≤ (cR X).slots)
    (done : ∀ (n : Nat) (K L : Nat → Nat) (M : Mm) (j : Nat), Iv (cB X) n K L M → gW X n (lw_sl n) n K L M 1786 [(0, va_rf (some b)), (1, va_rf (some (cB X))), (2, va_rf (some (cB X + 44))), (3, .int (nI j))] []) :
    ∀ (g : Nat) (n : Nat) (K L : Nat → Nat) (M : Mm) (j : Nat), Ls + 6 - j < g → j ≤ Ls + 6 → Iv (cB X) n K L M → gW X n (lw_sl n) n K L M 18 [(0, va_rf (some b)), (1, va_rf (some (cB X))), (2, va_rf (some (cB X + 44))), (3, .int (nI j))] [] := by
  obtain ⟨-, ok2, s0, s1, s2, s3, s4, s5, s6, s7, s8, s9, s10, s11, s12, s13, s14, s15, s16, s17, s18, s19, s20, s21, s22, s23, s24, s25, s26, s27, s28, s29, s30, s31, s32, s33, s34, s35, s36, s37, s38⟩ := ok
  intro g
  induction g with
  | zero => intro n K L M j h; omega
  | succ g ih =>
    intro n K L M j hg hj iv
    obtain ⟨hk1, hk2, hn1, hn2⟩ := ok2 _ _ _ _ _ iv
    refine g_iload_n o dL_law_18 3 rfl ?_
    refine g_aload_n o dL_law_19 0 rfl ?_
    refine g_slen o sX sb sB dL_law_20 ?_
    refine g_bipush (v := (6 : Int32)) o dL_law_21 (by decide) ?_
    refine g_isub o dL_law_23 ?_
    refine g_icmp_gt (tgt := 1786) o dL_law_24 (by decide) (fun _ => done n K L M j iv) (fun z => ?_)
    have e6 : (nI j).toInt = (j : Int) := nI_toInt (by omega)
    have eL : (Int32.ofNat Ls - 6).toInt = (Ls : Int) - 6 := pk_sub_toInt (a := Ls) (b := 6) (by omega) (by omega)
    have hj6 : j + 6 ≤ Ls := by
      have z1 : ¬ ((Int32.ofNat Ls - 6).toInt < (nI j).toInt) := fun h => z (Int32.lt_iff_toInt_lt.mpr h)
      omega
    have hq : ∀ k : Nat, k < 6 → vp_in (nI j + nI k) Ls := fun k hk => by rw [nI_add]; exact vp_in_nI (by omega) (by omega)
    have next : ∀ (n' : Nat) (K' L' : Nat → Nat) (M' : Mm), Iv (cB X) n' K' L' M' → gW X n' (lw_sl n') n' K' L' M' 1780 [(0, va_rf (some b)), (1, va_rf (some (cB X))), (2, va_rf (some (cB X + 44))), (3, .int (nI j))] [] := by
      intro n' K' L' M' iv'
      refine g_iinc (i := 3) (v := nI (j + 6)) (ls' := [(3, .int (nI (j + 6))), (0, va_rf (some b)), (1, va_rf (some (cB X))), (2, va_rf (some (cB X + 44)))]) o dL_law_1780 3 rfl (by rw [← nI_add]; rfl) (ltL hL (by decide)) (by simp [cat_rf]) ?_
      refine g_goto (tgt := 18) o dL_law_1783 (by decide) ?_
      refine gsub [1, 2, 3, 0] rfl ?_
      exact ih n' K' L' M' (j + 6) (by omega) (by omega) iv'
    refine ld_all (w0 := xs (nI j).toNatClampNeg) o sX sb sB (vp_in_nI (by omega) (by omega)) rfl ?_ ?_ ?_ ?_ ?_ ?_ ?_ ?_ ?_ ?_ ?_ ?_ ?_ ?_ ?_ ?_ ?_ ?_ ?_ ?_ ?_ ?_ ?_ ?_ ?_ ?_ ?_ ?_ ?_ ?_ ?_ ?_ ?_ ?_ ?_ ?_ ?_ ?_ ?_ (next n K L M iv)
    · intro _
      obtain ⟨x1, x2, h1, h2, he, iv'⟩ := s0 (cB X) n K L M (xs (nI j + 1).toNatClampNeg) (xs (nI j + 2).toNatClampNeg) (xs (nI j + 3).toNatClampNeg) (xs (nI j + 4).toNatClampNeg) iv
      exact lc_0 (d := 2047) (fu := fu) o (by decide) sX sb sB hk1 hk2 (hq 1 (by decide)) rfl (hq 2 (by decide)) rfl (hq 3 (by decide)) rfl (hq 4 (by decide)) rfl h1 h2 he ⟨by omega, by unfold lw_sl; omega⟩ (next _ _ _ _ iv')
    · intro _
      obtain ⟨x1, x2, h1, h2, he, iv'⟩ := s1 (cB X) n K L M (xs (nI j + 1).toNatClampNeg) iv
      exact lc_1 (d := 2047) (fu := fu) o (by decide) sX sb sB hk1 hk2 (hq 1 (by decide)) rfl h1 h2 he ⟨by omega, by unfold lw_sl; omega⟩ (next _ _ _ _ iv')
    · intro _
      obtain ⟨x1, x2, h1, h2, he, iv'⟩ := s2 (cB X) n K L M (xs (nI j + 1).toNatClampNeg) iv
      exact lc_2 (d := 2047) (fu := fu) o (by decide) sX sb sB hk1 hk2 (hq 1 (by decide)) rfl h1 h2 he ⟨by omega, by unfold lw_sl; omega⟩ (next _ _ _ _ iv')
    · intro _
      obtain ⟨x1, x2, h1, h2, he, iv'⟩ := s3 (cB X) n K L M (xs (nI j + 1).toNatClampNeg) iv
      exact lc_3 (d := 2047) (fu := fu) o (by decide) sX sb sB hk1 hk2 (hq 1 (by decide)) rfl h1 h2 he ⟨by omega, by unfold lw_sl; omega⟩ (next _ _ _ _ iv')
    · intro _
      obtain ⟨x1, x2, h1, h2, he, hm, iv'⟩ := s4 (cB X) n K L M (xs (nI j + 1).toNatClampNeg) (xs (nI j + 2).toNatClampNeg) (xs (nI j + 3).toNatClampNeg) (xs (nI j + 4).toNatClampNeg) iv
      obtain ⟨-, hk3, hn3, hn4⟩ := ok2 _ _ _ _ _ iv'
      have hsl : lw_sl n + 101 * (x1.2.1 - n) = lw_sl x1.2.1 := by unfold lw_sl; omega
      exact lc_4 (d := 2047) (fu := fu) o (by decide) sX sb sB hk1 hk2 hk3 (hq 1 (by decide)) rfl (hq 2 (by decide)) rfl (hq 3 (by decide)) rfl (hq 4 (by decide)) rfl h1 h2 he ⟨by omega, by rw [hsl]; unfold lw_sl; omega⟩ (g_nrm (by omega) hsl rfl (next _ _ _ _ iv'))
    · intro _
      obtain ⟨x1, x2, h1, h2, he, iv'⟩ := s5 (cB X) n K L M (xs (nI j + 1).toNatClampNeg) (xs (nI j + 2).toNatClampNeg) (xs (nI j + 3).toNatClampNeg) iv
      exact lc_5 (d := 2047) (fu := fu) o (by decide) sX sb sB hk1 hk2 (hq 1 (by decide)) rfl (hq 2 (by decide)) rfl (hq 3 (by decide)) rfl h1 h2 he ⟨by omega, by unfold lw_sl; omega⟩ (next _ _ _ _ iv')
    · intro _
      obtain ⟨x1, x2, h1, h2, he, iv'⟩ := s6 (cB X) n K L M (xs (nI j + 1).toNatClampNeg) iv
      exact lc_6 (d := 2047) (fu := fu) o (by decide) sX sb sB hk1 hk2 (hq 1 (by decide)) rfl h1 h2 he ⟨by omega, by unfold lw_sl; omega⟩ (next _ _ _ _ iv')
    · intro _
      obtain ⟨x1, x2, h1, h2, he, iv'⟩ := s7 (cB X) n K L M (xs (nI j + 1).toNatClampNeg) iv
      exact lc_7 (d := 2047) (fu := fu) o (by decide) sX sb sB hk1 hk2 (hq 1 (by decide)) rfl h1 h2 he ⟨by omega, by unfold lw_sl; omega⟩ (next _ _ _ _ iv')
    · intro _
      obtain ⟨x1, x2, h1, h2, he, iv'⟩ := s8 (cB X) n K L M (xs (nI j + 1).toNatClampNeg) iv
      exact lc_8 (d := 2047) (fu := fu) o (by decide) sX sb sB hk1 hk2 (hq 1 (by decide)) rfl h1 h2 he ⟨by omega, by unfold lw_sl; omega⟩ (next _ _ _ _ iv')
    · intro _
      obtain ⟨x1, x2, h1, h2, he, iv'⟩ := s9 (cB X) n K L M (xs (nI j + 1).toNatClampNeg) (xs (nI j + 2).toNatClampNeg) (xs (nI j + 3).toNatClampNeg) (xs (nI j + 4).toNatClampNeg) (xs (nI j + 5).toNatClampNeg) iv
      exact lc_9 (d := 2047) (fu := fu) o (by decide) sX sb sB hk1 hk2 (hq 1 (by decide)) rfl (hq 2 (by decide)) rfl (hq 3 (by decide)) rfl (hq 4 (by decide)) rfl (hq 5 (by decide)) rfl h1 h2 he ⟨by omega, by unfold lw_sl; omega⟩ (next _ _ _ _ iv')
    · intro _
      obtain ⟨x1, x2, h1, h2, he, iv'⟩ := s10 (cB X) n K L M (xs (nI j + 1).toNatClampNeg) iv
      exact lc_10 (d := 2047) (fu := fu) o (by decide) sX sb sB hk1 hk2 (hq 1 (by decide)) rfl h1 h2 he ⟨by omega, by unfold lw_sl; omega⟩ (next _ _ _ _ iv')
    · intro _
      obtain ⟨x1, x2, h1, h2, he, iv'⟩ := s11 (cB X) n K L M (xs (nI j + 1).toNatClampNeg) (xs (nI j + 2).toNatClampNeg) (xs (nI j + 3).toNatClampNeg) (xs (nI j + 4).toNatClampNeg) iv
      exact lc_11 (d := 2047) (fu := fu) o (by decide) sX sb sB hk1 hk2 (hq 1 (by decide)) rfl (hq 2 (by decide)) rfl (hq 3 (by decide)) rfl (hq 4 (by decide)) rfl h1 h2 he ⟨by omega, by unfold lw_sl; omega⟩ (next _ _ _ _ iv')
    · intro _
      obtain ⟨x1, x2, h1, h2, he, iv'⟩ := s12 (cB X) n K L M (xs (nI j + 1).toNatClampNeg) (xs (nI j + 2).toNatClampNeg) (xs (nI j + 3).toNatClampNeg) iv
      exact lc_12 (d := 2047) (fu := fu) o (by decide) sX sb sB hk1 hk2 (hq 1 (by decide)) rfl (hq 2 (by decide)) rfl (hq 3 (by decide)) rfl h1 h2 he ⟨by omega, by unfold lw_sl; omega⟩ (next _ _ _ _ iv')
    · intro _
      obtain ⟨x1, x2, h1, h2, he, iv'⟩ := s13 (cB X) n K L M (xs (nI j + 1).toNatClampNeg) (xs (nI j + 2).toNatClampNeg) (xs (nI j + 3).toNatClampNeg) iv
      exact lc_13 (d := 2047) (fu := fu) o (by decide) sX sb sB hk1 hk2 (hq 1 (by decide)) rfl (hq 2 (by decide)) rfl (hq 3 (by decide)) rfl h1 h2 he ⟨by omega, by unfold lw_sl; omega⟩ (next _ _ _ _ iv')
    · intro _
      obtain ⟨x1, x2, h1, h2, he, iv'⟩ := s14 (cB X) n K L M (xs (nI j + 1).toNatClampNeg) (xs (nI j + 2).toNatClampNeg) (xs (nI j + 3).toNatClampNeg) iv
      exact lc_14 (d := 2047) (fu := fu) o (by decide) sX sb sB hk1 hk2 (hq 1 (by decide)) rfl (hq 2 (by decide)) rfl (hq 3 (by decide)) rfl h1 h2 he ⟨by omega, by unfold lw_sl; omega⟩ (next _ _ _ _ iv')
    · intro _
      obtain ⟨x1, x2, h1, h2, he, iv'⟩ := s15 (cB X) n K L M (xs (nI j + 1).toNatClampNeg) iv
      exact lc_15 (d := 2047) (fu := fu) o (by decide) sX sb sB hk1 hk2 (hq 1 (by decide)) rfl h1 h2 he ⟨by omega, by unfold lw_sl; omega⟩ (next _ _ _ _ iv')
    · intro _
      obtain ⟨x1, x2, h1, h2, he, iv'⟩ := s16 (cB X) n K L M (xs (nI j + 1).toNatClampNeg) (xs (nI j + 2).toNatClampNeg) iv
      exact lc_16 (d := 2047) (fu := fu) o (by decide) sX sb sB hk1 hk2 (hq 1 (by decide)) rfl (hq 2 (by decide)) rfl h1 h2 he ⟨by omega, by unfold lw_sl; omega⟩ (next _ _ _ _ iv')
    · intro _
      obtain ⟨x1, x2, h1, h2, he, iv'⟩ := s17 (cB X) n K L M (xs (nI j + 1).toNatClampNeg) iv
      exact lc_17 (d := 2047) (fu := fu) o (by decide) sX sb sB hk1 hk2 (hq 1 (by decide)) rfl h1 h2 he ⟨by omega, by unfold lw_sl; omega⟩ (next _ _ _ _ iv')
    · intro _
      obtain ⟨x1, x2, h1, h2, he, iv'⟩ := s18 (cB X) n K L M (xs (nI j + 1).toNatClampNeg) (xs (nI j + 2).toNatClampNeg) (xs (nI j + 3).toNatClampNeg) iv
      exact lc_18 (d := 2047) (fu := fu) o (by decide) sX sb sB hk1 hk2 (hq 1 (by decide)) rfl (hq 2 (by decide)) rfl (hq 3 (by decide)) rfl h1 h2 he ⟨by omega, by unfold lw_sl; omega⟩ (next _ _ _ _ iv')
    · intro _
      obtain ⟨x1, x2, h1, h2, he, iv'⟩ := s19 (cB X) n K L M (xs (nI j + 1).toNatClampNeg) (xs (nI j + 2).toNatClampNeg) (xs (nI j + 3).toNatClampNeg) (xs (nI j + 4).toNatClampNeg) (xs (nI j + 5).toNatClampNeg) iv
      exact lc_19 (d := 2047) (fu := fu) o (by decide) sX sb sB hk1 hk2 (hq 1 (by decide)) rfl (hq 2 (by decide)) rfl (hq 3 (by decide)) rfl (hq 4 (by decide)) rfl (hq 5 (by decide)) rfl h1 h2 he ⟨by omega, by unfold lw_sl; omega⟩ (next _ _ _ _ iv')
    · intro _
      obtain ⟨x1, x2, h1, h2, he, iv'⟩ := s20 (cB X) n K L M (xs (nI j + 1).toNatClampNeg) (xs (nI j + 2).toNatClampNeg) iv
      exact lc_20 (d := 2047) (fu := fu) o (by decide) sX sb sB hk1 hk2 (hq 1 (by decide)) rfl (hq 2 (by decide)) rfl h1 h2 he ⟨by omega, by unfold lw_sl; omega⟩ (next _ _ _ _ iv')
    · intro _
      obtain ⟨x1, x2, h1, h2, he, iv'⟩ := s21 (cB X) n K L M (xs (nI j + 1).toNatClampNeg) iv
      exact lc_21 (d := 2047) (fu := fu) o (by decide) sX sb sB hk1 hk2 (hq 1 (by decide)) rfl h1 h2 he ⟨by omega, by unfold lw_sl; omega⟩ (next _ _ _ _ iv')
    · intro _
      obtain ⟨x1, x2, h1, h2, he, iv'⟩ := s22 (cB X) n K L M (xs (nI j + 1).toNatClampNeg) (xs (nI j + 2).toNatClampNeg) iv
      exact lc_22 (d := 2047) (fu := fu) o (by decide) sX sb sB hk1 hk2 (hq 1 (by decide)) rfl (hq 2 (by decide)) rfl h1 h2 he ⟨by omega, by unfold lw_sl; omega⟩ (next _ _ _ _ iv')
    · intro _
      obtain ⟨x1, x2, h1, h2, he, iv'⟩ := s23 (cB X) n K L M (xs (nI j + 1).toNatClampNeg) (xs (nI j + 2).toNatClampNeg) (xs (nI j + 3).toNatClampNeg) (xs (nI j + 4).toNatClampNeg) (xs (nI j + 5).toNatClampNeg) iv
      exact lc_23 (d := 2047) (fu := fu) o (by decide) sX sb sB hk1 hk2 (hq 1 (by decide)) rfl (hq 2 (by decide)) rfl (hq 3 (by decide)) rfl (hq 4 (by decide)) rfl (hq 5 (by decide)) rfl h1 h2 he ⟨by omega, by unfold lw_sl; omega⟩ (next _ _ _ _ iv')
    · intro _
      obtain ⟨x1, x2, h1, h2, he, iv'⟩ := s24 (cB X) n K L M (xs (nI j + 1).toNatClampNeg) (xs (nI j + 2).toNatClampNeg) iv
      exact lc_24 (d := 2047) (fu := fu) o (by decide) sX sb sB hk1 hk2 (hq 1 (by decide)) rfl (hq 2 (by decide)) rfl h1 h2 he ⟨by omega, by unfold lw_sl; omega⟩ (next _ _ _ _ iv')
    · intro _
      obtain ⟨x1, x2, h1, h2, he, iv'⟩ := s25 (cB X) n K L M (xs (nI j + 1).toNatClampNeg) (xs (nI j + 2).toNatClampNeg) (xs (nI j + 3).toNatClampNeg) (xs (nI j + 4).toNatClampNeg) (xs (nI j + 5).toNatClampNeg) iv
      exact lc_25 (d := 2047) (fu := fu) o (by decide) sX sb sB hk1 hk2 (hq 1 (by decide)) rfl (hq 2 (by decide)) rfl (hq 3 (by decide)) rfl (hq 4 (by decide)) rfl (hq 5 (by decide)) rfl h1 h2 he ⟨by omega, by unfold lw_sl; omega⟩ (next _ _ _ _ iv')
    · intro _
      obtain ⟨x1, x2, h1, h2, he, iv'⟩ := s26 (cB X) n K L M (xs (nI j + 1).toNatClampNeg) (xs (nI j + 2).toNatClampNeg) (xs (nI j + 3).toNatClampNeg) (xs (nI j + 4).toNatClampNeg) iv
      exact lc_26 (d := 2047) (fu := fu) o (by decide) sX sb sB hk1 hk2 (hq 1 (by decide)) rfl (hq 2 (by decide)) rfl (hq 3 (by decide)) rfl (hq 4 (by decide)) rfl h1 h2 he ⟨by omega, by unfold lw_sl; omega⟩ (next _ _ _ _ iv')
    · intro _
      obtain ⟨x1, x2, h1, h2, he, iv'⟩ := s27 (cB X) n K L M (xs (nI j + 1).toNatClampNeg) (xs (nI j + 2).toNatClampNeg) (xs (nI j + 3).toNatClampNeg) iv
      exact lc_27 (d := 2047) (fu := fu) o (by decide) sX sb sB hk1 hk2 (hq 1 (by decide)) rfl (hq 2 (by decide)) rfl (hq 3 (by decide)) rfl h1 h2 he ⟨by omega, by unfold lw_sl; omega⟩ (next _ _ _ _ iv')
    · intro _
      obtain ⟨x1, x2, h1, h2, he, iv'⟩ := s28 (cB X) n K L M (xs (nI j + 1).toNatClampNeg) (xs (nI j + 2).toNatClampNeg) (xs (nI j + 3).toNatClampNeg) (xs (nI j + 4).toNatClampNeg) iv
      exact lc_28 (d := 2047) (fu := fu) o (by decide) sX sb sB hk1 hk2 (hq 1 (by decide)) rfl (hq 2 (by decide)) rfl (hq 3 (by decide)) rfl (hq 4 (by decide)) rfl h1 h2 he ⟨by omega, by unfold lw_sl; omega⟩ (next _ _ _ _ iv')
    · intro _
      obtain ⟨x1, x2, h1, h2, he, iv'⟩ := s29 (cB X) n K L M (xs (nI j + 1).toNatClampNeg) (xs (nI j + 2).toNatClampNeg) iv
      exact lc_29 (d := 2047) (fu := fu) o (by decide) sX sb sB hk1 hk2 (hq 1 (by decide)) rfl (hq 2 (by decide)) rfl h1 h2 he ⟨by omega, by unfold lw_sl; omega⟩ (next _ _ _ _ iv')
    · intro _
      obtain ⟨x1, x2, h1, h2, he, iv'⟩ := s30 (cB X) n K L M (xs (nI j + 1).toNatClampNeg) (xs (nI j + 2).toNatClampNeg) (xs (nI j + 3).toNatClampNeg) (xs (nI j + 4).toNatClampNeg) (xs (nI j + 5).toNatClampNeg) iv
      exact lc_30 (d := 2047) (fu := fu) o (by decide) sX sb sB hk1 hk2 (hq 1 (by decide)) rfl (hq 2 (by decide)) rfl (hq 3 (by decide)) rfl (hq 4 (by decide)) rfl (hq 5 (by decide)) rfl h1 h2 he ⟨by omega, by unfold lw_sl; omega⟩ (next _ _ _ _ iv')
    · intro _
      obtain ⟨x1, x2, h1, h2, he, iv'⟩ := s31 (cB X) n K L M (xs (nI j + 1).toNatClampNeg) (xs (nI j + 2).toNatClampNeg) iv
      exact lc_31 (d := 2047) (fu := fu) o (by decide) sX sb sB hk1 hk2 (hq 1 (by decide)) rfl (hq 2 (by decide)) rfl h1 h2 he ⟨by omega, by unfold lw_sl; omega⟩ (next _ _ _ _ iv')
    · intro _
      obtain ⟨x1, x2, h1, h2, he, iv'⟩ := s32 (cB X) n K L M (xs (nI j + 1).toNatClampNeg) (xs (nI j + 2).toNatClampNeg) iv
      exact lc_32 (d := 2047) (fu := fu) o (by decide) sX sb sB hk1 hk2 (hq 1 (by decide)) rfl (hq 2 (by decide)) rfl h1 h2 he ⟨by omega, by unfold lw_sl; omega⟩ (next _ _ _ _ iv')
    · intro _
      obtain ⟨x1, x2, h1, h2, he, iv'⟩ := s33 (cB X) n K L M (xs (nI j + 1).toNatClampNeg) (xs (nI j + 2).toNatClampNeg) (xs (nI j + 3).toNatClampNeg) (xs (nI j + 4).toNatClampNeg) iv
      exact lc_33 (d := 2047) (fu := fu) o (by decide) sX sb sB hk1 hk2 (hq 1 (by decide)) rfl (hq 2 (by decide)) rfl (hq 3 (by decide)) rfl (hq 4 (by decide)) rfl h1 h2 he ⟨by omega, by unfold lw_sl; omega⟩ (next _ _ _ _ iv')
    · intro _
      obtain ⟨x1, x2, h1, h2, he, iv'⟩ := s34 (cB X) n K L M (xs (nI j + 1).toNatClampNeg) (xs (nI j + 2).toNatClampNeg) (xs (nI j + 3).toNatClampNeg) (xs (nI j + 4).toNatClampNeg) iv
      exact lc_34 (d := 2047) (fu := fu) o (by decide) sX sb sB hk1 hk2 (hq 1 (by decide)) rfl (hq 2 (by decide)) rfl (hq 3 (by decide)) rfl (hq 4 (by decide)) rfl h1 h2 he ⟨by omega, by unfold lw_sl; omega⟩ (next _ _ _ _ iv')
    · intro _
      obtain ⟨x1, x2, h1, h2, he, iv'⟩ := s35 (cB X) n K L M (xs (nI j + 1).toNatClampNeg) (xs (nI j + 2).toNatClampNeg) (xs (nI j + 3).toNatClampNeg) (xs (nI j + 4).toNatClampNeg) iv
      exact lc_35 (d := 2047) (fu := fu) o (by decide) sX sb sB hk1 hk2 (hq 1 (by decide)) rfl (hq 2 (by decide)) rfl (hq 3 (by decide)) rfl (hq 4 (by decide)) rfl h1 h2 he ⟨by omega, by unfold lw_sl; omega⟩ (next _ _ _ _ iv')
    · intro _
      obtain ⟨x1, x2, h1, h2, he, hm, iv'⟩ := s36 (cB X) n K L M  iv
      obtain ⟨-, hk3, hn3, hn4⟩ := ok2 _ _ _ _ _ iv'
      have hsl : lw_sl n + 101 * (x1.2.1 - n) = lw_sl x1.2.1 := by unfold lw_sl; omega
      exact lc_36 (d := 2047) (fu := fu) o (by decide) sX sb sB hk1 hk2 hk3  h1 h2 he ⟨by omega, by rw [hsl]; unfold lw_sl; omega⟩ (g_nrm (by omega) hsl rfl (next _ _ _ _ iv'))
    · intro _
      obtain ⟨x1, x2, h1, h2, he, hm, iv'⟩ := s37 (cB X) n K L M  iv
      obtain ⟨-, hk3, hn3, hn4⟩ := ok2 _ _ _ _ _ iv'
      have hsl : lw_sl n + 101 * (x1.2.1 - n) = lw_sl x1.2.1 := by unfold lw_sl; omega
      exact lc_37 (d := 2047) (fu := fu) o (by decide) sX sb sB hk1 hk2 hk3  h1 h2 he ⟨by omega, by rw [hsl]; unfold lw_sl; omega⟩ (g_nrm (by omega) hsl rfl (next _ _ _ _ iv'))
    · intro _
      obtain ⟨x1, x2, h1, h2, he, iv'⟩ := s38 (cB X) n K L M (xs (nI j + 1).toNatClampNeg) iv
      exact lc_38 (d := 2047) (fu := fu) o (by decide) sX sb sB hk1 hk2 (hq 1 (by decide)) rfl h1 h2 he ⟨by omega, by unfold lw_sl; omega⟩ (next _ _ _ _ iv')
set_option maxHeartbeats 16000000 in
set_option maxRecDepth 20000 in
theorem lw_start {Iv : IvT} {fu : Nat} (ok : lw_ok Iv fu) {p : Program} {e : Env} {s : State} {m : MethodId} {below : List Frame} {meth : Method} {c : Code} (l : Launch) {b L : Nat} {xs : Nat → Int32} (hL : L ≤ 3072) (C0 : lw_At p s m meth c b L xs) : W p l e room_1 s m #[Value.ref b] below meth c s.heap [] 0 0 (lw_Z below #[Value.ref b] s) (entryFrame m ([Value.ref b] : List Value).toArray 4) := by
  obtain ⟨hx, hb, hr, hml, hown, hts, hX, hbl, hlocks, hgv⟩ := id C0
  have hg : ∀ w ∈ gwl, w.before #[Value.ref b] s = true := fun w hw => hts w (List.mem_filter.mp hw).1
  have hkn : ∀ c, c < 13 → ∃ (cC : ClassId) (iS : Nat → Nat), u_Kn s (kC c) (kT c) (kN c) cC iS := by
    intro c hc
    refine u_known (n := kN c) hg (kw_in hc) (hg _ ?_)
    rcases (show c = 0 ∨ c = 1 ∨ c = 2 ∨ c = 3 ∨ c = 4 ∨ c = 5 ∨ c = 6 ∨ c = 7 ∨ c = 8 ∨ c = 9 ∨ c = 10 ∨ c = 11 ∨ c = 12 by omega) with rfl | rfl | rfl | rfl | rfl | rfl | rfl | rfl | rfl | rfl | rfl | rfl | rfl
    all_goals first | exact ki_X0.1 | exact ki_X1.1 | exact ki_X2.1 | exact ki_X3.1 | exact ki_X4.1 | exact ki_X5.1 | exact ki_X6.1 | exact ki_X7.1 | exact ki_X8.1 | exact ki_X9.1 | exact ki_X10.1 | exact ki_X11.1 | exact ki_X12.1
  have hprim : ∀ ty, Cond.arrayClass ty ∈ gwl → refKind ty = false → ∃ cA : ClassId, ArrOfT s cA ty ∧ va_RA s cA ty := by
    intro ty hw hp
    obtain ⟨cA, kA, comp, h1, h2, h3⟩ := Cond.arrayClass_spec (hg _ hw)
    refine ⟨cA, fun n z => ⟨fun k h => (by cases h), kA, h2, comp, h3⟩, ?_⟩
    cases ty <;> first | exact h1 | (exact absurd hp (by simp [refKind]))
  have hover : ∀ C, va_AO C s → ∃ cA : ClassId, ArrOfT s cA (.object C) ∧ va_RA s cA (.object C) := by
    intro C h
    obtain ⟨comp, cA, kA, h1, h2, h3, h4, h5⟩ := Cond.arrayOver_spec h
    exact ⟨cA, fun n z => ⟨fun k h => (by cases h), kA, h3, comp, h4⟩, kA, comp, h3, h4, h1, h5⟩
  have ao4 : va_AO RX4 s := va_AO.of (hts _ (List.mem_append_right _ (List.mem_of_getElem? (i := 32) (by decide +kernel))))
  have ao2 : va_AO RX2 s := va_AO.of (hts _ (List.mem_append_right _ (List.mem_of_getElem? (i := 409) (by decide +kernel))))
  obtain ⟨y13, hy13⟩ := hprim .int (gw_inT (i := 92) (by decide +kernel) (by decide +kernel)) rfl
  obtain ⟨y14, hy14⟩ := hprim .long (gw_inT (i := 1080) (by decide +kernel) (by decide +kernel)) rfl
  obtain ⟨y15, hy15⟩ := hprim .boolean (gw_inT (i := 1081) (by decide +kernel) (by decide +kernel)) rfl
  obtain ⟨y16, hy16⟩ := hover RX2 ao2
  obtain ⟨y17, hy17⟩ := hover RX4 ao4
  obtain ⟨Y, hY13, hY14, hY15, hY16, hY17⟩ : ∃ Y : Nat → ClassId, Y 13 = y13 ∧ Y 14 = y14 ∧ Y 15 = y15 ∧ Y 16 = y16 ∧ Y 17 = y17 := ⟨fun k => if k = 13 then y13 else if k = 14 then y14 else if k = 15 then y15 else if k = 16 then y16 else y17, rfl, rfl, rfl, rfl, rfl⟩
  obtain ⟨dC, dI, hD⟩ : ∃ (dC : Nat → ClassId) (dI : Nat → Nat → Nat), ∀ c, c < 13 → u_Kn s (kC c) (kT c) (kN c) (dC c) (dI c) := by
    refine ⟨fun c => if h : c < 13 then Classical.choose (hkn c h) else 0, fun c => if h : c < 13 then Classical.choose (Classical.choose_spec (hkn c h)) else fun _ => 0, fun c hc => ?_⟩
    simp only [hc, dif_pos]
    exact Classical.choose_spec (Classical.choose_spec (hkn c hc))
  have hK : va_K (dC, dI) vwCl (mm_tys Y) s := by
    refine ⟨fun c q hq => ?_, fun k q hq => ?_⟩
    · have hc : c < 13 := (List.getElem?_eq_some_iff.mp hq).1
      rw [kl_at hc] at hq
      cases hq
      exact hD c hc
    · have hk : k < 5 := (List.getElem?_eq_some_iff.mp hq).1
      rcases (show k = 0 ∨ k = 1 ∨ k = 2 ∨ k = 3 ∨ k = 4 by omega) with rfl | rfl | rfl | rfl | rfl <;> cases hq
      · rw [hY13]; exact hy13
      · rw [hY14]; exact hy14
      · rw [hY15]; exact hy15
      · rw [hY16]; exact hy16
      · rw [hY17]; exact hy17
  have hN : mm_N s := ⟨fun w hw => va_Nw.of (by
    have h2 := (List.mem_filter.mp hw).2
    cases w <;> first | rfl | (exact absurd h2 (by simp))) (hts w (List.mem_append_right _ (List.mem_filter.mp hw).1)), ao4, ao2⟩
  obtain ⟨X, hXe⟩ : ∃ X : Cx, X = (p, l, e, room_1, s, m, #[Value.ref b], below, meth, c, lw_Z below #[Value.ref b] s, (dC, dI), Y, s.heap.size, 4) := ⟨_, rfl⟩
  have o : cOk X cL_law RL 2048 := by
    rw [hXe]
    exact ⟨hx, hb, hml, hown, hg, hK, hN, Nat.le_refl _, hlocks, show 2048 ≤ room_1.frames by decide, show 41 * 2048 ≤ room_1.locals by decide⟩
  have hL4 : cL X = 4 := by rw [hXe]
  have sX : va_X b L xs (cs X) (cs X).heap := by rw [hXe]; exact hX
  have sb : b < (cs X).heap.size := by rw [hXe]; exact hbl
  have sB : cB X = (cs X).heap.size := by rw [hXe]
  have r1 : 50000 ≤ room_1.cells := by decide
  have r2 : 5000000 ≤ room_1.slots := by decide
  have hc : 50000 ≤ (cR X).cells := by rw [hXe]; exact r1
  have hs : 5000000 ≤ (cR X).slots := by rw [hXe]; exact r2
  have done : ∀ (n : Nat) (K L : Nat → Nat) (M : Mm) (j : Nat), Iv (cB X) n K L M → gW X n (lw_sl n) n K L M 1786 [(0, va_rf (some b)), (1, va_rf (some (cB X))), (2, va_rf (some (cB X + 44))), (3, .int (nI j))] [] := by
    intro n K L M j iv
    obtain ⟨-, -, hn1, hn2⟩ := ok.2.1 _ _ _ _ _ iv
    refine g_iconst (v := (1 : Int32)) o dL_law_1786 (by decide) ?_
    refine g_wid (k1 := room_1.cells) (k2 := room_1.slots) (by omega) (by unfold lw_sl; omega) ?_
    intro H locs ar h1 h2 h3
    refine va_forget (fun q hq => ?_) ?_
    · have := h2.2.2 q hq
      rw [sB] at this
      exact this
    · rw [hXe]
      exact lw_ret hx hb hr hlocks dL_law_1787
  have start : gW X 0 0 0 (fun _ => 99) (fun _ => 0) mm_0 0 [(0, va_rf (some b))] [] := by
    obtain ⟨x, y, h1, h2, h3, h4⟩ := ok.1 (cB X)
    refine g_new (c := 11) o (by omega) (by decide) ⟨kl_L_7, ki_X11.1, ki_X11.2⟩ (by omega) (show _ + 6 ≤ _ by omega) dL_law_0 ?_
    refine g_nrm (k1 := 1) (k2 := 6) (n := 1) rfl rfl rfl ?_
    refine g_dup o dL_law_3 (cat_rf _) ?_
    refine g_invI o ml_L_9 kb_X11_init kv_X11_init (c_X11_init (cq X) (cD X) (cY X) (cB X) (d := 2047) (by decide) (va_up_self _ _ _) h1) rfl rfl (by simp [cat_i, cat_l, cat_rf]) ⟨by omega, by omega⟩ dL_law_4 ?_
    refine g_nrm (k1 := 44) (k2 := 258) (n := 44) rfl rfl rfl ?_
    refine g_astore_n (i := 1) (ls' := [(1, va_rf (some (cB X))), (0, va_rf (some b))]) o dL_law_7 rfl (ltL hL4 (by decide)) rfl ?_
    refine g_new (c := 12) o (by omega) (by decide) ⟨kl_L_10, ki_X12.1, ki_X12.2⟩ (by omega) (show _ + 25 ≤ _ by omega) dL_law_8 ?_
    refine g_nrm (k1 := 45) (k2 := 283) (n := 45) rfl rfl rfl ?_
    refine g_dup o dL_law_11 (cat_rf _) ?_
    refine g_invI o ml_L_12 kb_X12_init kv_X12_init (c_X12_init (cq X) (cD X) (cY X) (cB X) (d := 2047) (by decide) (va_up_self _ _ _) h2) rfl rfl (by simp [cat_i, cat_l, cat_rf]) ⟨by omega, by omega⟩ dL_law_12 ?_
    refine g_nrm (k1 := 55) (k2 := 126493) (n := 55) rfl rfl rfl ?_
    refine g_astore_n (i := 2) (ls' := [(2, va_rf (some (cB X + 44))), (1, va_rf (some (cB X))), (0, va_rf (some b))]) o dL_law_15 rfl (ltL hL4 (by decide)) rfl ?_
    refine g_iconst (v := (0 : Int32)) o dL_law_16 (by decide) ?_
    refine g_istore_n (i := 3) (ls' := [(3, .int 0), (2, va_rf (some (cB X + 44))), (1, va_rf (some (cB X))), (0, va_rf (some b))]) o dL_law_17 rfl (ltL hL4 (by decide)) rfl ?_
    refine gsub [3, 2, 1, 0] rfl ?_
    exact lw_loop ok o hL4 sX sb sB hL hc hs done (L + 7) 55 _ _ _ 0 (by omega) (by omega) h4
  have hl := lv_entry ([.ref b]) (n := 4) (Nat.le_of_ble_eq_true rfl)
  rw [lg_entry_eq]
  have hf := start s.heap [] _ ⟨by rw [sB]; rw [hXe]; rfl, fun a => ⟨fun h => by omega, fun h => absurd h (by simp)⟩, fun k q h => by simp [mm_W, va_pl] at h⟩ (by rw [hXe]; exact va_S.rf) (by rw [hL4]; exact hl)
  rw [hXe] at hf
  exact hf
