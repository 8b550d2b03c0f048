/-! the law: a lemma a case -/
def bz (w : Int32) : Int32 := if w = 0 then 0 else 1
theorem bz_t {w : Int32} (h : w = 0) : bz w = 0 := by simp [bz, h]
theorem bz_f {w : Int32} (h : ¬ w = 0) : bz w = 1 := by simp [bz, h]
section LW
variable {X : Cx} {bt : ByteArray} {own : String} {d k1 k2 n : Nat} {K L : Nat → Nat} {M : Mm} {pc : Nat} {ls : List (Nat × Value)} {st : List Value}
theorem g_sld (o : cOk X bt own d) {b Ls : Nat} {xs : Nat → Int32} {i w : Int32} (sX : va_X b Ls xs (cs X) (cs X).heap) (sb : b < (cs X).heap.size) (sB : cB X = (cs X).heap.size) (hi : vp_in i Ls) (hw : xs i.toNatClampNeg = w) (hd : decode bt pc = .ok (.iaload, 1)) (kk : gW X k1 k2 n K L M (pc + 1) ls (.int w :: st)) : gW X k1 k2 n K L M pc ls (.int i :: va_rf (some b) :: st) := fun H locs ar h1 h2 h3 => by
  subst hw
  exact va_sld o.1 o.2.1 sX sb (by show ¬ cB X ≤ b; omega) h2 hi hd (kk H locs ar h1 h2 h3)
theorem g_slen (o : cOk X bt own d) {b Ls : Nat} {xs : Nat → Int32} (sX : va_X b Ls xs (cs X) (cs X).heap) (sb : b < (cs X).heap.size) (sB : cB X = (cs X).heap.size) (hd : decode bt pc = .ok (.arraylength, 1)) (kk : gW X k1 k2 n K L M (pc + 1) ls (.int (Int32.ofNat Ls) :: st)) : gW X k1 k2 n K L M pc ls (va_rf (some b) :: st) := fun H locs ar h1 h2 h3 =>
  va_slen o.1 o.2.1 sX sb (by show ¬ cB X ≤ b; omega) h2 hd (kk H locs ar h1 h2 h3)
end LW
theorem lgc_self (x : Int64) : lg_cmp x x = 0 := by simp [lg_cmp]
set_option maxHeartbeats 4000000 in
theorem lc_0 {X : Cx} {d n fu b Ls ax am k1 k2 : Nat} {K L : Nat → Nat} {M : Mm} {xs : Nat → Int32} {i w1 w2 w3 w4 : Int32} {x1 : (Int32 × Mm)} {x2 : (Int32 × Mm)} (o : cOk X cL_law RL (d + 1)) (hd : 200 ≤ d) (sX : va_X b Ls xs (cs X) (cs X).heap) (sb : b < (cs X).heap.size) (sB : cB X = (cs X).heap.size) (hk1 : K ax = 11) (hk2 : K am = 12) (q1 : vp_in (i + 1) Ls) (hw1 : xs (i + (1 : Int32)).toNatClampNeg = w1) (q2 : vp_in (i + 2) Ls) (hw2 : xs (i + (2 : Int32)).toNatClampNeg = w2) (q3 : vp_in (i + 3) Ls) (hw3 : xs (i + (3 : Int32)).toNatClampNeg = w3) (q4 : vp_in (i + 4) Ls) (hw4 : xs (i + (4 : Int32)).toNatClampNeg = w4) (h1 : f_X11_caller K L ax w1 w2 w3 w4 M = some x1) (h2 : f_X12_caller K L am w1 w2 w3 w4 (x1.2) = some x2) (he : (x1.1) = (x2.1)) (hf : k1 ≤ (cR X).cells ∧ k2 ≤ (cR X).slots) (kk : gW X k1 k2 n K L (x2.2) 1780 [(0, va_rf (some b)), (1, va_rf (some ax)), (2, va_rf (some am)), (3, .int i)] []) : gW X k1 k2 n K L M 204 [(0, va_rf (some b)), (1, va_rf (some ax)), (2, va_rf (some am)), (3, .int i)] [] := by
  refine g_aload_n o dL_law_204 1 rfl ?_
  refine g_aload_n o dL_law_205 0 rfl ?_
  refine g_iload_n o dL_law_206 3 rfl ?_
  refine g_iconst (v := (1 : Int32)) o dL_law_207 (by decide) ?_
  refine g_iadd o dL_law_208 ?_
  refine g_sld (w := w1) o sX sb sB q1 hw1 dL_law_209 ?_
  refine g_aload_n o dL_law_210 0 rfl ?_
  refine g_iload_n o dL_law_211 3 rfl ?_
  refine g_iconst (v := (2 : Int32)) o dL_law_212 (by decide) ?_
  refine g_iadd o dL_law_213 ?_
  refine g_sld (w := w2) o sX sb sB q2 hw2 dL_law_214 ?_
  refine g_aload_n o dL_law_215 0 rfl ?_
  refine g_iload_n o dL_law_216 3 rfl ?_
  refine g_iconst (v := (3 : Int32)) o dL_law_217 (by decide) ?_
  refine g_iadd o dL_law_218 ?_
  refine g_sld (w := w3) o sX sb sB q3 hw3 dL_law_219 ?_
  refine g_aload_n o dL_law_220 0 rfl ?_
  refine g_iload_n o dL_law_221 3 rfl ?_
  refine g_iconst (v := (4 : Int32)) o dL_law_222 (by decide) ?_
  refine g_iadd o dL_law_223 ?_
  refine g_sld (w := w4) o sX sb sB q4 hw4 dL_law_224 ?_
  refine g_invV o (rc_self hk1) (by decide) ml_L_13 kb_X11_caller kv_X11_caller rfl (c_X11_caller (cq X) (cD X) (cY X) (cB X) (d := d) (by omega) hk1 h1) rfl rfl (by simp [cat_i, cat_l, cat_rf]) ⟨by omega, by omega⟩ dL_law_225 ?_
  refine g_aload_n o dL_law_228 2 rfl ?_
  refine g_aload_n o dL_law_229 0 rfl ?_
  refine g_iload_n o dL_law_230 3 rfl ?_
  refine g_iconst (v := (1 : Int32)) o dL_law_231 (by decide) ?_
  refine g_iadd o dL_law_232 ?_
  refine g_sld (w := w1) o sX sb sB q1 hw1 dL_law_233 ?_
  refine g_aload_n o dL_law_234 0 rfl ?_
  refine g_iload_n o dL_law_235 3 rfl ?_
  refine g_iconst (v := (2 : Int32)) o dL_law_236 (by decide) ?_
  refine g_iadd o dL_law_237 ?_
  refine g_sld (w := w2) o sX sb sB q2 hw2 dL_law_238 ?_
  refine g_aload_n o dL_law_239 0 rfl ?_
  refine g_iload_n o dL_law_240 3 rfl ?_
  refine g_iconst (v := (3 : Int32)) o dL_law_241 (by decide) ?_
  refine g_iadd o dL_law_242 ?_
  refine g_sld (w := w3) o sX sb sB q3 hw3 dL_law_243 ?_
  refine g_aload_n o dL_law_244 0 rfl ?_
  refine g_iload_n o dL_law_245 3 rfl ?_
  refine g_iconst (v := (4 : Int32)) o dL_law_246 (by decide) ?_
  refine g_iadd o dL_law_247 ?_
  refine g_sld (w := w4) o sX sb sB q4 hw4 dL_law_248 ?_
  refine g_invV o (rc_self hk2) (by decide) ml_L_17 kb_X12_caller kv_X12_caller rfl (c_X12_caller (cq X) (cD X) (cY X) (cB X) (d := d) (by omega) hk2 h2) rfl rfl (by simp [cat_i, cat_l, cat_rf]) ⟨by omega, by omega⟩ dL_law_249 ?_
  refine g_icmp_eq (tgt := 1780) o dL_law_252 (by decide) (fun _ => kk) (fun q => absurd he q)
set_option maxHeartbeats 4000000 in
theorem lc_1 {X : Cx} {d n fu b Ls ax am k1 k2 : Nat} {K L : Nat → Nat} {M : Mm} {xs : Nat → Int32} {i w1 : Int32} {x1 : (Int32 × Mm)} {x2 : (Int32 × Mm)} (o : cOk X cL_law RL (d + 1)) (hd : 200 ≤ d) (sX : va_X b Ls xs (cs X) (cs X).heap) (sb : b < (cs X).heap.size) (sB : cB X = (cs X).heap.size) (hk1 : K ax = 11) (hk2 : K am = 12) (q1 : vp_in (i + 1) Ls) (hw1 : xs (i + (1 : Int32)).toNatClampNeg = w1) (h1 : f_X11_seat K L ax w1 M = some x1) (h2 : f_X12_seat K L am w1 (x1.2) = some x2) (he : (x1.1) = (x2.1)) (hf : k1 ≤ (cR X).cells ∧ k2 ≤ (cR X).slots) (kk : gW X k1 k2 n K L (x2.2) 1780 [(0, va_rf (some b)), (1, va_rf (some ax)), (2, va_rf (some am)), (3, .int i)] []) : gW X k1 k2 n K L M 257 [(0, va_rf (some b)), (1, va_rf (some ax)), (2, va_rf (some am)), (3, .int i)] [] := by
  refine g_aload_n o dL_law_257 1 rfl ?_
  refine g_aload_n o dL_law_258 0 rfl ?_
  refine g_iload_n o dL_law_259 3 rfl ?_
  refine g_iconst (v := (1 : Int32)) o dL_law_260 (by decide) ?_
  refine g_iadd o dL_law_261 ?_
  refine g_sld (w := w1) o sX sb sB q1 hw1 dL_law_262 ?_
  refine g_invV o (rc_self hk1) (by decide) ml_L_18 kb_X11_seat kv_X11_seat rfl (c_X11_seat (cq X) (cD X) (cY X) (cB X) (d := d) (by omega) hk1 h1) rfl rfl (by simp [cat_i, cat_l, cat_rf]) ⟨by omega, by omega⟩ dL_law_263 ?_
  refine g_aload_n o dL_law_266 2 rfl ?_
  refine g_aload_n o dL_law_267 0 rfl ?_
  refine g_iload_n o dL_law_268 3 rfl ?_
  refine g_iconst (v := (1 : Int32)) o dL_law_269 (by decide) ?_
  refine g_iadd o dL_law_270 ?_
  refine g_sld (w := w1) o sX sb sB q1 hw1 dL_law_271 ?_
  refine g_invV o (rc_self hk2) (by decide) ml_L_22 kb_X12_seat kv_X12_seat rfl (c_X12_seat (cq X) (cD X) (cY X) (cB X) (d := d) (by omega) hk2 h2) rfl rfl (by simp [cat_i, cat_l, cat_rf]) ⟨by omega, by omega⟩ dL_law_272 ?_
  refine g_icmp_eq (tgt := 1780) o dL_law_275 (by decide) (fun _ => kk) (fun q => absurd he q)
set_option maxHeartbeats 4000000 in
theorem lc_2 {X : Cx} {d n fu b Ls ax am k1 k2 : Nat} {K L : Nat → Nat} {M : Mm} {xs : Nat → Int32} {i w1 : Int32} {x1 : (Int32 × Mm)} {x2 : (Int32 × Mm)} (o : cOk X cL_law RL (d + 1)) (hd : 200 ≤ d) (sX : va_X b Ls xs (cs X) (cs X).heap) (sb : b < (cs X).heap.size) (sB : cB X = (cs X).heap.size) (hk1 : K ax = 11) (hk2 : K am = 12) (q1 : vp_in (i + 1) Ls) (hw1 : xs (i + (1 : Int32)).toNatClampNeg = w1) (h1 : f_X11_way K L fu ax w1 M = some x1) (h2 : f_X12_way K L fu am w1 (x1.2) = some x2) (he : (x1.1) = (x2.1)) (hf : k1 ≤ (cR X).cells ∧ k2 ≤ (cR X).slots) (kk : gW X k1 k2 n K L (x2.2) 1780 [(0, va_rf (some b)), (1, va_rf (some ax)), (2, va_rf (some am)), (3, .int i)] []) : gW X k1 k2 n K L M 280 [(0, va_rf (some b)), (1, va_rf (some ax)), (2, va_rf (some am)), (3, .int i)] [] := by
  refine g_aload_n o dL_law_280 1 rfl ?_
  refine g_aload_n o dL_law_281 0 rfl ?_
  refine g_iload_n o dL_law_282 3 rfl ?_
  refine g_iconst (v := (1 : Int32)) o dL_law_283 (by decide) ?_
  refine g_iadd o dL_law_284 ?_
  refine g_sld (w := w1) o sX sb sB q1 hw1 dL_law_285 ?_
  refine g_invV o (rc_self hk1) (by decide) ml_L_23 kb_X11_way kv_X11_way rfl (c_X11_way (cq X) (cD X) (cY X) (cB X) (d := d) (by omega) hk1 h1) rfl rfl (by simp [cat_i, cat_l, cat_rf]) ⟨by omega, by omega⟩ dL_law_286 ?_
  refine g_aload_n o dL_law_289 2 rfl ?_
  refine g_aload_n o dL_law_290 0 rfl ?_
  refine g_iload_n o dL_law_291 3 rfl ?_
  refine g_iconst (v := (1 : Int32)) o dL_law_292 (by decide) ?_
  refine g_iadd o dL_law_293 ?_
  refine g_sld (w := w1) o sX sb sB q1 hw1 dL_law_294 ?_
  refine g_invV o (rc_self hk2) (by decide) ml_L_26 kb_X12_way kv_X12_way rfl (c_X12_way (cq X) (cD X) (cY X) (cB X) (d := d) (by omega) hk2 h2) rfl rfl (by simp [cat_i, cat_l, cat_rf]) ⟨by omega, by omega⟩ dL_law_295 ?_
  refine g_icmp_eq (tgt := 1780) o dL_law_298 (by decide) (fun _ => kk) (fun q => absurd he q)
set_option maxHeartbeats 4000000 in
theorem lc_3 {X : Cx} {d n fu b Ls ax am k1 k2 : Nat} {K L : Nat → Nat} {M : Mm} {xs : Nat → Int32} {i w1 : Int32} {x1 : (Int32 × Mm)} {x2 : (Int32 × Mm)} (o : cOk X cL_law RL (d + 1)) (hd : 200 ≤ d) (sX : va_X b Ls xs (cs X) (cs X).heap) (sb : b < (cs X).heap.size) (sB : cB X = (cs X).heap.size) (hk1 : K ax = 11) (hk2 : K am = 12) (q1 : vp_in (i + 1) Ls) (hw1 : xs (i + (1 : Int32)).toNatClampNeg = w1) (h1 : f_X11_why K L fu ax w1 M = some x1) (h2 : f_X12_why_ K L fu am w1 (x1.2) = some x2) (he : (x1.1) = (x2.1)) (hf : k1 ≤ (cR X).cells ∧ k2 ≤ (cR X).slots) (kk : gW X k1 k2 n K L (x2.2) 1780 [(0, va_rf (some b)), (1, va_rf (some ax)), (2, va_rf (some am)), (3, .int i)] []) : gW X k1 k2 n K L M 303 [(0, va_rf (some b)), (1, va_rf (some ax)), (2, va_rf (some am)), (3, .int i)] [] := by
  refine g_aload_n o dL_law_303 1 rfl ?_
  refine g_aload_n o dL_law_304 0 rfl ?_
  refine g_iload_n o dL_law_305 3 rfl ?_
  refine g_iconst (v := (1 : Int32)) o dL_law_306 (by decide) ?_
  refine g_iadd o dL_law_307 ?_
  refine g_sld (w := w1) o sX sb sB q1 hw1 dL_law_308 ?_
  refine g_invV o (rc_self hk1) (by decide) ml_L_27 kb_X11_why kv_X11_why rfl (c_X11_why (cq X) (cD X) (cY X) (cB X) (d := d) (by omega) hk1 h1) rfl rfl (by simp [cat_i, cat_l, cat_rf]) ⟨by omega, by omega⟩ dL_law_309 ?_
  refine g_aload_n o dL_law_312 2 rfl ?_
  refine g_aload_n o dL_law_313 0 rfl ?_
  refine g_iload_n o dL_law_314 3 rfl ?_
  refine g_iconst (v := (1 : Int32)) o dL_law_315 (by decide) ?_
  refine g_iadd o dL_law_316 ?_
  refine g_sld (w := w1) o sX sb sB q1 hw1 dL_law_317 ?_
  refine g_invV o (rc_self hk2) (by decide) ml_L_30 kb_X12_why_ kv_X12_why_ rfl (c_X12_why_ (cq X) (cD X) (cY X) (cB X) (d := d) (by omega) hk2 h2) rfl rfl (by simp [cat_i, cat_l, cat_rf]) ⟨by omega, by omega⟩ dL_law_318 ?_
  refine g_icmp_eq (tgt := 1780) o dL_law_321 (by decide) (fun _ => kk) (fun q => absurd he q)
set_option maxHeartbeats 4000000 in
theorem lc_4 {X : Cx} {d n fu b Ls ax am k1 k2 : Nat} {K L : Nat → Nat} {M : Mm} {xs : Nat → Int32} {i w1 w2 w3 w4 : Int32} {x1 : (Int32 × Nat × (Nat → Nat) × (Nat → Nat) × Mm)} {x2 : (Int32 × Mm)} (o : cOk X cL_law RL (d + 1)) (hd : 200 ≤ d) (sX : va_X b Ls xs (cs X) (cs X).heap) (sb : b < (cs X).heap.size) (sB : cB X = (cs X).heap.size) (hk1 : K ax = 11) (hk2 : K am = 12) (hk3 : x1.2.2.1 am = 12) (q1 : vp_in (i + 1) Ls) (hw1 : xs (i + (1 : Int32)).toNatClampNeg = w1) (q2 : vp_in (i + 2) Ls) (hw2 : xs (i + (2 : Int32)).toNatClampNeg = w2) (q3 : vp_in (i + 3) Ls) (hw3 : xs (i + (3 : Int32)).toNatClampNeg = w3) (q4 : vp_in (i + 4) Ls) (hw4 : xs (i + (4 : Int32)).toNatClampNeg = w4) (h1 : f_X11_make (cB X) fu n ax w1 w2 w3 w4 K L M = some x1) (h2 : f_X12_make (x1.2.2.1) (x1.2.2.2.1) fu am w1 w2 w3 w4 (x1.2.2.2.2) = some x2) (he : (x1.1) = (x2.1)) (hf : (k1 + (x1.2.1 - n)) ≤ (cR X).cells ∧ (k2 + 101 * (x1.2.1 - n)) ≤ (cR X).slots) (kk : gW X (k1 + (x1.2.1 - n)) (k2 + 101 * (x1.2.1 - n)) (x1.2.1) (x1.2.2.1) (x1.2.2.2.1) (x2.2) 1780 [(0, va_rf (some b)), (1, va_rf (some ax)), (2, va_rf (some am)), (3, .int i)] []) : gW X k1 k2 n K L M 326 [(0, va_rf (some b)), (1, va_rf (some ax)), (2, va_rf (some am)), (3, .int i)] [] := by
  refine g_aload_n o dL_law_326 1 rfl ?_
  refine g_aload_n o dL_law_327 0 rfl ?_
  refine g_iload_n o dL_law_328 3 rfl ?_
  refine g_iconst (v := (1 : Int32)) o dL_law_329 (by decide) ?_
  refine g_iadd o dL_law_330 ?_
  refine g_sld (w := w1) o sX sb sB q1 hw1 dL_law_331 ?_
  refine g_aload_n o dL_law_332 0 rfl ?_
  refine g_iload_n o dL_law_333 3 rfl ?_
  refine g_iconst (v := (2 : Int32)) o dL_law_334 (by decide) ?_
  refine g_iadd o dL_law_335 ?_
  refine g_sld (w := w2) o sX sb sB q2 hw2 dL_law_336 ?_
  refine g_aload_n o dL_law_337 0 rfl ?_
  refine g_iload_n o dL_law_338 3 rfl ?_
  refine g_iconst (v := (3 : Int32)) o dL_law_339 (by decide) ?_
  refine g_iadd o dL_law_340 ?_
  refine g_sld (w := w3) o sX sb sB q3 hw3 dL_law_341 ?_
  refine g_aload_n o dL_law_342 0 rfl ?_
  refine g_iload_n o dL_law_343 3 rfl ?_
  refine g_iconst (v := (4 : Int32)) o dL_law_344 (by decide) ?_
  refine g_iadd o dL_law_345 ?_
  refine g_sld (w := w4) o sX sb sB q4 hw4 dL_law_346 ?_
  refine g_invV o (rc_self hk1) (by decide) ml_L_31 kb_X11_make kv_X11_make rfl (c_X11_make (cq X) (cD X) (cY X) (cB X) (d := d) (by omega) hk1 h1) rfl rfl (by simp [cat_i, cat_l, cat_rf]) ⟨by omega, by omega⟩ dL_law_347 ?_
  refine g_nrm (k1 := k1 + (x1.2.1 - n)) (k2 := k2 + 101 * (x1.2.1 - n)) (n := x1.2.1) rfl rfl rfl ?_
  refine g_aload_n o dL_law_350 2 rfl ?_
  refine g_aload_n o dL_law_351 0 rfl ?_
  refine g_iload_n o dL_law_352 3 rfl ?_
  refine g_iconst (v := (1 : Int32)) o dL_law_353 (by decide) ?_
  refine g_iadd o dL_law_354 ?_
  refine g_sld (w := w1) o sX sb sB q1 hw1 dL_law_355 ?_
  refine g_aload_n o dL_law_356 0 rfl ?_
  refine g_iload_n o dL_law_357 3 rfl ?_
  refine g_iconst (v := (2 : Int32)) o dL_law_358 (by decide) ?_
  refine g_iadd o dL_law_359 ?_
  refine g_sld (w := w2) o sX sb sB q2 hw2 dL_law_360 ?_
  refine g_aload_n o dL_law_361 0 rfl ?_
  refine g_iload_n o dL_law_362 3 rfl ?_
  refine g_iconst (v := (3 : Int32)) o dL_law_363 (by decide) ?_
  refine g_iadd o dL_law_364 ?_
  refine g_sld (w := w3) o sX sb sB q3 hw3 dL_law_365 ?_
  refine g_aload_n o dL_law_366 0 rfl ?_
  refine g_iload_n o dL_law_367 3 rfl ?_
  refine g_iconst (v := (4 : Int32)) o dL_law_368 (by decide) ?_
  refine g_iadd o dL_law_369 ?_
  refine g_sld (w := w4) o sX sb sB q4 hw4 dL_law_370 ?_
  refine g_invV o (rc_self hk3) (by decide) ml_L_34 kb_X12_make kv_X12_make rfl (c_X12_make (cq X) (cD X) (cY X) (cB X) (d := d) (by omega) hk3 h2) rfl rfl (by simp [cat_i, cat_l, cat_rf]) ⟨by omega, by omega⟩ dL_law_371 ?_
  refine g_icmp_eq (tgt := 1780) o dL_law_374 (by decide) (fun _ => kk) (fun q => absurd he q)
set_option maxHeartbeats 4000000 in
theorem lc_5 {X : Cx} {d n fu b Ls ax am k1 k2 : Nat} {K L : Nat → Nat} {M : Mm} {xs : Nat → Int32} {i w1 w2 w3 : Int32} {x1 : (Int32 × Mm)} {x2 : (Int32 × Mm)} (o : cOk X cL_law RL (d + 1)) (hd : 200 ≤ d) (sX : va_X b Ls xs (cs X) (cs X).heap) (sb : b < (cs X).heap.size) (sB : cB X = (cs X).heap.size) (hk1 : K ax = 11) (hk2 : K am = 12) (q1 : vp_in (i + 1) Ls) (hw1 : xs (i + (1 : Int32)).toNatClampNeg = w1) (q2 : vp_in (i + 2) Ls) (hw2 : xs (i + (2 : Int32)).toNatClampNeg = w2) (q3 : vp_in (i + 3) Ls) (hw3 : xs (i + (3 : Int32)).toNatClampNeg = w3) (h1 : f_X11_note K L ax w1 (((w2.toInt64) <<< ((32 : Int32).toInt64 &&& 63)) ||| ((w3.toInt64) &&& (4294967295 : Int64))) M = some x1) (h2 : f_X12_note K L fu am w1 (((w2.toInt64) <<< ((32 : Int32).toInt64 &&& 63)) ||| ((w3.toInt64) &&& (4294967295 : Int64))) (x1.2) = some x2) (he : (x1.1) = (x2.1)) (hf : k1 ≤ (cR X).cells ∧ k2 ≤ (cR X).slots) (kk : gW X k1 k2 n K L (x2.2) 1780 [(0, va_rf (some b)), (1, va_rf (some ax)), (2, va_rf (some am)), (3, .int i)] []) : gW X k1 k2 n K L M 379 [(0, va_rf (some b)), (1, va_rf (some ax)), (2, va_rf (some am)), (3, .int i)] [] := by
  refine g_aload_n o dL_law_379 1 rfl ?_
  refine g_aload_n o dL_law_380 0 rfl ?_
  refine g_iload_n o dL_law_381 3 rfl ?_
  refine g_iconst (v := (1 : Int32)) o dL_law_382 (by decide) ?_
  refine g_iadd o dL_law_383 ?_
  refine g_sld (w := w1) o sX sb sB q1 hw1 dL_law_384 ?_
  refine g_aload_n o dL_law_385 0 rfl ?_
  refine g_iload_n o dL_law_386 3 rfl ?_
  refine g_iconst (v := (2 : Int32)) o dL_law_387 (by decide) ?_
  refine g_iadd o dL_law_388 ?_
  refine g_sld (w := w2) o sX sb sB q2 hw2 dL_law_389 ?_
  refine g_i2l o dL_law_390 ?_
  refine g_bipush (v := (32 : Int32)) o dL_law_391 (by decide) ?_
  refine g_lshl o dL_law_393 ?_
  refine g_aload_n o dL_law_394 0 rfl ?_
  refine g_iload_n o dL_law_395 3 rfl ?_
  refine g_iconst (v := (3 : Int32)) o dL_law_396 (by decide) ?_
  refine g_iadd o dL_law_397 ?_
  refine g_sld (w := w3) o sX sb sB q3 hw3 dL_law_398 ?_
  refine g_i2l o dL_law_399 ?_
  refine g_ldc2 (v := (4294967295 : Int64)) o kc_L_35 dL_law_400 ?_
  refine g_land o dL_law_403 ?_
  refine g_lor o dL_law_404 ?_
  refine g_invV o (rc_self hk1) (by decide) ml_L_37 kb_X11_note kv_X11_note rfl (c_X11_note (cq X) (cD X) (cY X) (cB X) (d := d) (by omega) hk1 h1) rfl rfl (by simp [cat_i, cat_l, cat_rf]) ⟨by omega, by omega⟩ dL_law_405 ?_
  refine g_aload_n o dL_law_408 2 rfl ?_
  refine g_aload_n o dL_law_409 0 rfl ?_
  refine g_iload_n o dL_law_410 3 rfl ?_
  refine g_iconst (v := (1 : Int32)) o dL_law_411 (by decide) ?_
  refine g_iadd o dL_law_412 ?_
  refine g_sld (w := w1) o sX sb sB q1 hw1 dL_law_413 ?_
  refine g_aload_n o dL_law_414 0 rfl ?_
  refine g_iload_n o dL_law_415 3 rfl ?_
  refine g_iconst (v := (2 : Int32)) o dL_law_416 (by decide) ?_
  refine g_iadd o dL_law_417 ?_
  refine g_sld (w := w2) o sX sb sB q2 hw2 dL_law_418 ?_
  refine g_i2l o dL_law_419 ?_
  refine g_bipush (v := (32 : Int32)) o dL_law_420 (by decide) ?_
  refine g_lshl o dL_law_422 ?_
  refine g_aload_n o dL_law_423 0 rfl ?_
  refine g_iload_n o dL_law_424 3 rfl ?_
  refine g_iconst (v := (3 : Int32)) o dL_law_425 (by decide) ?_
  refine g_iadd o dL_law_426 ?_
  refine g_sld (w := w3) o sX sb sB q3 hw3 dL_law_427 ?_
  refine g_i2l o dL_law_428 ?_
  refine g_ldc2 (v := (4294967295 : Int64)) o kc_L_35 dL_law_429 ?_
  refine g_land o dL_law_432 ?_
  refine g_lor o dL_law_433 ?_
  refine g_invV o (rc_self hk2) (by decide) ml_L_41 kb_X12_note kv_X12_note rfl (c_X12_note (cq X) (cD X) (cY X) (cB X) (d := d) (by omega) hk2 h2) rfl rfl (by simp [cat_i, cat_l, cat_rf]) ⟨by omega, by omega⟩ dL_law_434 ?_
  refine g_icmp_eq (tgt := 1780) o dL_law_437 (by decide) (fun _ => kk) (fun q => absurd he q)
set_option maxHeartbeats 4000000 in
theorem lc_6 {X : Cx} {d n fu b Ls ax am k1 k2 : Nat} {K L : Nat → Nat} {M : Mm} {xs : Nat → Int32} {i w1 : Int32} {x1 : (Int32 × Mm)} {x2 : (Int32 × Mm)} (o : cOk X cL_law RL (d + 1)) (hd : 200 ≤ d) (sX : va_X b Ls xs (cs X) (cs X).heap) (sb : b < (cs X).heap.size) (sB : cB X = (cs X).heap.size) (hk1 : K ax = 11) (hk2 : K am = 12) (q1 : vp_in (i + 1) Ls) (hw1 : xs (i + (1 : Int32)).toNatClampNeg = w1) (h1 : f_X11_empty K L ax w1 M = some x1) (h2 : f_X12_empty K L fu am w1 (x1.2) = some x2) (he : (x1.1) = (x2.1)) (hf : k1 ≤ (cR X).cells ∧ k2 ≤ (cR X).slots) (kk : gW X k1 k2 n K L (x2.2) 1780 [(0, va_rf (some b)), (1, va_rf (some ax)), (2, va_rf (some am)), (3, .int i)] []) : gW X k1 k2 n K L M 442 [(0, va_rf (some b)), (1, va_rf (some ax)), (2, va_rf (some am)), (3, .int i)] [] := by
  refine g_aload_n o dL_law_442 1 rfl ?_
  refine g_aload_n o dL_law_443 0 rfl ?_
  refine g_iload_n o dL_law_444 3 rfl ?_
  refine g_iconst (v := (1 : Int32)) o dL_law_445 (by decide) ?_
  refine g_iadd o dL_law_446 ?_
  refine g_sld (w := w1) o sX sb sB q1 hw1 dL_law_447 ?_
  refine g_invV o (rc_self hk1) (by decide) ml_L_42 kb_X11_empty kv_X11_empty rfl (c_X11_empty (cq X) (cD X) (cY X) (cB X) (d := d) (by omega) hk1 h1) rfl rfl (by simp [cat_i, cat_l, cat_rf]) ⟨by omega, by omega⟩ dL_law_448 ?_
  refine g_aload_n o dL_law_451 2 rfl ?_
  refine g_aload_n o dL_law_452 0 rfl ?_
  refine g_iload_n o dL_law_453 3 rfl ?_
  refine g_iconst (v := (1 : Int32)) o dL_law_454 (by decide) ?_
  refine g_iadd o dL_law_455 ?_
  refine g_sld (w := w1) o sX sb sB q1 hw1 dL_law_456 ?_
  refine g_invV o (rc_self hk2) (by decide) ml_L_45 kb_X12_empty kv_X12_empty rfl (c_X12_empty (cq X) (cD X) (cY X) (cB X) (d := d) (by omega) hk2 h2) rfl rfl (by simp [cat_i, cat_l, cat_rf]) ⟨by omega, by omega⟩ dL_law_457 ?_
  refine g_icmp_eq (tgt := 1780) o dL_law_460 (by decide) (fun _ => kk) (fun q => absurd he q)
set_option maxHeartbeats 4000000 in
theorem lc_7 {X : Cx} {d n fu b Ls ax am k1 k2 : Nat} {K L : Nat → Nat} {M : Mm} {xs : Nat → Int32} {i w1 : Int32} {x1 : (Int32 × Mm)} {x2 : (Int32 × Mm)} (o : cOk X cL_law RL (d + 1)) (hd : 200 ≤ d) (sX : va_X b Ls xs (cs X) (cs X).heap) (sb : b < (cs X).heap.size) (sB : cB X = (cs X).heap.size) (hk1 : K ax = 11) (hk2 : K am = 12) (q1 : vp_in (i + 1) Ls) (hw1 : xs (i + (1 : Int32)).toNatClampNeg = w1) (h1 : f_X11_holds K L ax w1 M = some x1) (h2 : f_X12_holds K L am w1 (x1.2) = some x2) (he : (x1.1) = (x2.1)) (hf : k1 ≤ (cR X).cells ∧ k2 ≤ (cR X).slots) (kk : gW X k1 k2 n K L (x2.2) 1780 [(0, va_rf (some b)), (1, va_rf (some ax)), (2, va_rf (some am)), (3, .int i)] []) : gW X k1 k2 n K L M 465 [(0, va_rf (some b)), (1, va_rf (some ax)), (2, va_rf (some am)), (3, .int i)] [] := by
  refine g_aload_n o dL_law_465 1 rfl ?_
  refine g_aload_n o dL_law_466 0 rfl ?_
  refine g_iload_n o dL_law_467 3 rfl ?_
  refine g_iconst (v := (1 : Int32)) o dL_law_468 (by decide) ?_
  refine g_iadd o dL_law_469 ?_
  refine g_sld (w := w1) o sX sb sB q1 hw1 dL_law_470 ?_
  refine g_invV o (rc_self hk1) (by decide) ml_L_46 kb_X11_holds kv_X11_holds rfl (c_X11_holds (cq X) (cD X) (cY X) (cB X) (d := d) (by omega) hk1 h1) rfl rfl (by simp [cat_i, cat_l, cat_rf]) ⟨by omega, by omega⟩ dL_law_471 ?_
  refine g_aload_n o dL_law_474 2 rfl ?_
  refine g_aload_n o dL_law_475 0 rfl ?_
  refine g_iload_n o dL_law_476 3 rfl ?_
  refine g_iconst (v := (1 : Int32)) o dL_law_477 (by decide) ?_
  refine g_iadd o dL_law_478 ?_
  refine g_sld (w := w1) o sX sb sB q1 hw1 dL_law_479 ?_
  refine g_invV o (rc_self hk2) (by decide) ml_L_49 kb_X12_holds kv_X12_holds rfl (c_X12_holds (cq X) (cD X) (cY X) (cB X) (d := d) (by omega) hk2 h2) rfl rfl (by simp [cat_i, cat_l, cat_rf]) ⟨by omega, by omega⟩ dL_law_480 ?_
  refine g_icmp_eq (tgt := 1780) o dL_law_483 (by decide) (fun _ => kk) (fun q => absurd he q)
set_option maxHeartbeats 4000000 in
theorem lc_8 {X : Cx} {d n fu b Ls ax am k1 k2 : Nat} {K L : Nat → Nat} {M : Mm} {xs : Nat → Int32} {i w1 : Int32} {x1 : (Int64 × Mm)} {x2 : (Int64 × Mm)} (o : cOk X cL_law RL (d + 1)) (hd : 200 ≤ d) (sX : va_X b Ls xs (cs X) (cs X).heap) (sb : b < (cs X).heap.size) (sB : cB X = (cs X).heap.size) (hk1 : K ax = 11) (hk2 : K am = 12) (q1 : vp_in (i + 1) Ls) (hw1 : xs (i + (1 : Int32)).toNatClampNeg = w1) (h1 : f_X11_read K L ax w1 M = some x1) (h2 : f_X12_read K L am w1 (x1.2) = some x2) (he : (x1.1) = (x2.1)) (hf : k1 ≤ (cR X).cells ∧ k2 ≤ (cR X).slots) (kk : gW X k1 k2 n K L (x2.2) 1780 [(0, va_rf (some b)), (1, va_rf (some ax)), (2, va_rf (some am)), (3, .int i)] []) : gW X k1 k2 n K L M 488 [(0, va_rf (some b)), (1, va_rf (some ax)), (2, va_rf (some am)), (3, .int i)] [] := by
  refine g_aload_n o dL_law_488 1 rfl ?_
  refine g_aload_n o dL_law_489 0 rfl ?_
  refine g_iload_n o dL_law_490 3 rfl ?_
  refine g_iconst (v := (1 : Int32)) o dL_law_491 (by decide) ?_
  refine g_iadd o dL_law_492 ?_
  refine g_sld (w := w1) o sX sb sB q1 hw1 dL_law_493 ?_
  refine g_invV o (rc_self hk1) (by decide) ml_L_50 kb_X11_read kv_X11_read rfl (c_X11_read (cq X) (cD X) (cY X) (cB X) (d := d) (by omega) hk1 h1) rfl rfl (by simp [cat_i, cat_l, cat_rf]) ⟨by omega, by omega⟩ dL_law_494 ?_
  refine g_aload_n o dL_law_497 2 rfl ?_
  refine g_aload_n o dL_law_498 0 rfl ?_
  refine g_iload_n o dL_law_499 3 rfl ?_
  refine g_iconst (v := (1 : Int32)) o dL_law_500 (by decide) ?_
  refine g_iadd o dL_law_501 ?_
  refine g_sld (w := w1) o sX sb sB q1 hw1 dL_law_502 ?_
  refine g_invV o (rc_self hk2) (by decide) ml_L_54 kb_X12_read kv_X12_read rfl (c_X12_read (cq X) (cD X) (cY X) (cB X) (d := d) (by omega) hk2 h2) rfl rfl (by simp [cat_i, cat_l, cat_rf]) ⟨by omega, by omega⟩ dL_law_503 ?_
  refine g_lcmp o dL_law_506 ?_
  rw [he, lgc_self]
  refine g_if_eq (tgt := 1780) o dL_law_507 (by decide) (fun _ => kk) (fun q => absurd rfl q)
set_option maxHeartbeats 4000000 in
theorem lc_9 {X : Cx} {d n fu b Ls ax am k1 k2 : Nat} {K L : Nat → Nat} {M : Mm} {xs : Nat → Int32} {i w1 w2 w3 w4 w5 : Int32} {x1 : (Int32 × Mm)} {x2 : (Int32 × Mm)} (o : cOk X cL_law RL (d + 1)) (hd : 200 ≤ d) (sX : va_X b Ls xs (cs X) (cs X).heap) (sb : b < (cs X).heap.size) (sB : cB X = (cs X).heap.size) (hk1 : K ax = 11) (hk2 : K am = 12) (q1 : vp_in (i + 1) Ls) (hw1 : xs (i + (1 : Int32)).toNatClampNeg = w1) (q2 : vp_in (i + 2) Ls) (hw2 : xs (i + (2 : Int32)).toNatClampNeg = w2) (q3 : vp_in (i + 3) Ls) (hw3 : xs (i + (3 : Int32)).toNatClampNeg = w3) (q4 : vp_in (i + 4) Ls) (hw4 : xs (i + (4 : Int32)).toNatClampNeg = w4) (q5 : vp_in (i + 5) Ls) (hw5 : xs (i + (5 : Int32)).toNatClampNeg = w5) (h1 : f_X11_rule K L ax w1 w2 w3 w4 w5 M = some x1) (h2 : f_X12_rule K L am w1 w2 w3 w4 w5 (x1.2) = some x2) (he : (x1.1) = (x2.1)) (hf : k1 ≤ (cR X).cells ∧ k2 ≤ (cR X).slots) (kk : gW X k1 k2 n K L (x2.2) 1780 [(0, va_rf (some b)), (1, va_rf (some ax)), (2, va_rf (some am)), (3, .int i)] []) : gW X k1 k2 n K L M 512 [(0, va_rf (some b)), (1, va_rf (some ax)), (2, va_rf (some am)), (3, .int i)] [] := by
  refine g_aload_n o dL_law_512 1 rfl ?_
  refine g_aload_n o dL_law_513 0 rfl ?_
  refine g_iload_n o dL_law_514 3 rfl ?_
  refine g_iconst (v := (1 : Int32)) o dL_law_515 (by decide) ?_
  refine g_iadd o dL_law_516 ?_
  refine g_sld (w := w1) o sX sb sB q1 hw1 dL_law_517 ?_
  refine g_aload_n o dL_law_518 0 rfl ?_
  refine g_iload_n o dL_law_519 3 rfl ?_
  refine g_iconst (v := (2 : Int32)) o dL_law_520 (by decide) ?_
  refine g_iadd o dL_law_521 ?_
  refine g_sld (w := w2) o sX sb sB q2 hw2 dL_law_522 ?_
  refine g_aload_n o dL_law_523 0 rfl ?_
  refine g_iload_n o dL_law_524 3 rfl ?_
  refine g_iconst (v := (3 : Int32)) o dL_law_525 (by decide) ?_
  refine g_iadd o dL_law_526 ?_
  refine g_sld (w := w3) o sX sb sB q3 hw3 dL_law_527 ?_
  refine g_aload_n o dL_law_528 0 rfl ?_
  refine g_iload_n o dL_law_529 3 rfl ?_
  refine g_iconst (v := (4 : Int32)) o dL_law_530 (by decide) ?_
  refine g_iadd o dL_law_531 ?_
  refine g_sld (w := w4) o sX sb sB q4 hw4 dL_law_532 ?_
  refine g_aload_n o dL_law_533 0 rfl ?_
  refine g_iload_n o dL_law_534 3 rfl ?_
  refine g_iconst (v := (5 : Int32)) o dL_law_535 (by decide) ?_
  refine g_iadd o dL_law_536 ?_
  refine g_sld (w := w5) o sX sb sB q5 hw5 dL_law_537 ?_
  refine g_invV o (rc_self hk1) (by decide) ml_L_55 kb_X11_rule kv_X11_rule rfl (c_X11_rule (cq X) (cD X) (cY X) (cB X) (d := d) (by omega) hk1 h1) rfl rfl (by simp [cat_i, cat_l, cat_rf]) ⟨by omega, by omega⟩ dL_law_538 ?_
  refine g_aload_n o dL_law_541 2 rfl ?_
  refine g_aload_n o dL_law_542 0 rfl ?_
  refine g_iload_n o dL_law_543 3 rfl ?_
  refine g_iconst (v := (1 : Int32)) o dL_law_544 (by decide) ?_
  refine g_iadd o dL_law_545 ?_
  refine g_sld (w := w1) o sX sb sB q1 hw1 dL_law_546 ?_
  refine g_aload_n o dL_law_547 0 rfl ?_
  refine g_iload_n o dL_law_548 3 rfl ?_
  refine g_iconst (v := (2 : Int32)) o dL_law_549 (by decide) ?_
  refine g_iadd o dL_law_550 ?_
  refine g_sld (w := w2) o sX sb sB q2 hw2 dL_law_551 ?_
  refine g_aload_n o dL_law_552 0 rfl ?_
  refine g_iload_n o dL_law_553 3 rfl ?_
  refine g_iconst (v := (3 : Int32)) o dL_law_554 (by decide) ?_
  refine g_iadd o dL_law_555 ?_
  refine g_sld (w := w3) o sX sb sB q3 hw3 dL_law_556 ?_
  refine g_aload_n o dL_law_557 0 rfl ?_
  refine g_iload_n o dL_law_558 3 rfl ?_
  refine g_iconst (v := (4 : Int32)) o dL_law_559 (by decide) ?_
  refine g_iadd o dL_law_560 ?_
  refine g_sld (w := w4) o sX sb sB q4 hw4 dL_law_561 ?_
  refine g_aload_n o dL_law_562 0 rfl ?_
  refine g_iload_n o dL_law_563 3 rfl ?_
  refine g_iconst (v := (5 : Int32)) o dL_law_564 (by decide) ?_
  refine g_iadd o dL_law_565 ?_
  refine g_sld (w := w5) o sX sb sB q5 hw5 dL_law_566 ?_
  refine g_invV o (rc_self hk2) (by decide) ml_L_59 kb_X12_rule kv_X12_rule rfl (c_X12_rule (cq X) (cD X) (cY X) (cB X) (d := d) (by omega) hk2 h2) rfl rfl (by simp [cat_i, cat_l, cat_rf]) ⟨by omega, by omega⟩ dL_law_567 ?_
  refine g_icmp_eq (tgt := 1780) o dL_law_570 (by decide) (fun _ => kk) (fun q => absurd he q)
set_option maxHeartbeats 4000000 in
theorem lc_10 {X : Cx} {d n fu b Ls ax am k1 k2 : Nat} {K L : Nat → Nat} {M : Mm} {xs : Nat → Int32} {i w1 : Int32} {x1 : (Int32 × Mm)} {x2 : (Int32 × Mm)} (o : cOk X cL_law RL (d + 1)) (hd : 200 ≤ d) (sX : va_X b Ls xs (cs X) (cs X).heap) (sb : b < (cs X).heap.size) (sB : cB X = (cs X).heap.size) (hk1 : K ax = 11) (hk2 : K am = 12) (q1 : vp_in (i + 1) Ls) (hw1 : xs (i + (1 : Int32)).toNatClampNeg = w1) (h1 : f_X11_unrule K L ax w1 M = some x1) (h2 : f_X12_unrule K L am w1 (x1.2) = some x2) (he : (x1.1) = (x2.1)) (hf : k1 ≤ (cR X).cells ∧ k2 ≤ (cR X).slots) (kk : gW X k1 k2 n K L (x2.2) 1780 [(0, va_rf (some b)), (1, va_rf (some ax)), (2, va_rf (some am)), (3, .int i)] []) : gW X k1 k2 n K L M 575 [(0, va_rf (some b)), (1, va_rf (some ax)), (2, va_rf (some am)), (3, .int i)] [] := by
  refine g_aload_n o dL_law_575 1 rfl ?_
  refine g_aload_n o dL_law_576 0 rfl ?_
  refine g_iload_n o dL_law_577 3 rfl ?_
  refine g_iconst (v := (1 : Int32)) o dL_law_578 (by decide) ?_
  refine g_iadd o dL_law_579 ?_
  refine g_sld (w := w1) o sX sb sB q1 hw1 dL_law_580 ?_
  refine g_invV o (rc_self hk1) (by decide) ml_L_60 kb_X11_unrule kv_X11_unrule rfl (c_X11_unrule (cq X) (cD X) (cY X) (cB X) (d := d) (by omega) hk1 h1) rfl rfl (by simp [cat_i, cat_l, cat_rf]) ⟨by omega, by omega⟩ dL_law_581 ?_
  refine g_aload_n o dL_law_584 2 rfl ?_
  refine g_aload_n o dL_law_585 0 rfl ?_
  refine g_iload_n o dL_law_586 3 rfl ?_
  refine g_iconst (v := (1 : Int32)) o dL_law_587 (by decide) ?_
  refine g_iadd o dL_law_588 ?_
  refine g_sld (w := w1) o sX sb sB q1 hw1 dL_law_589 ?_
  refine g_invV o (rc_self hk2) (by decide) ml_L_63 kb_X12_unrule kv_X12_unrule rfl (c_X12_unrule (cq X) (cD X) (cY X) (cB X) (d := d) (by omega) hk2 h2) rfl rfl (by simp [cat_i, cat_l, cat_rf]) ⟨by omega, by omega⟩ dL_law_590 ?_
  refine g_icmp_eq (tgt := 1780) o dL_law_593 (by decide) (fun _ => kk) (fun q => absurd he q)
set_option maxHeartbeats 4000000 in
theorem lc_11 {X : Cx} {d n fu b Ls ax am k1 k2 : Nat} {K L : Nat → Nat} {M : Mm} {xs : Nat → Int32} {i w1 w2 w3 w4 : Int32} {x1 : (Int32 × Mm)} {x2 : (Int32 × Mm)} (o : cOk X cL_law RL (d + 1)) (hd : 200 ≤ d) (sX : va_X b Ls xs (cs X) (cs X).heap) (sb : b < (cs X).heap.size) (sB : cB X = (cs X).heap.size) (hk1 : K ax = 11) (hk2 : K am = 12) (q1 : vp_in (i + 1) Ls) (hw1 : xs (i + (1 : Int32)).toNatClampNeg = w1) (q2 : vp_in (i + 2) Ls) (hw2 : xs (i + (2 : Int32)).toNatClampNeg = w2) (q3 : vp_in (i + 3) Ls) (hw3 : xs (i + (3 : Int32)).toNatClampNeg = w3) (q4 : vp_in (i + 4) Ls) (hw4 : xs (i + (4 : Int32)).toNatClampNeg = w4) (h1 : f_X11_share K L fu ax w1 w2 w3 w4 M = some x1) (h2 : f_X12_share K L fu am w1 w2 w3 w4 (x1.2) = some x2) (he : (x1.1) = (x2.1)) (hf : k1 ≤ (cR X).cells ∧ k2 ≤ (cR X).slots) (kk : gW X k1 k2 n K L (x2.2) 1780 [(0, va_rf (some b)), (1, va_rf (some ax)), (2, va_rf (some am)), (3, .int i)] []) : gW X k1 k2 n K L M 598 [(0, va_rf (some b)), (1, va_rf (some ax)), (2, va_rf (some am)), (3, .int i)] [] := by
  refine g_aload_n o dL_law_598 1 rfl ?_
  refine g_aload_n o dL_law_599 0 rfl ?_
  refine g_iload_n o dL_law_600 3 rfl ?_
  refine g_iconst (v := (1 : Int32)) o dL_law_601 (by decide) ?_
  refine g_iadd o dL_law_602 ?_
  refine g_sld (w := w1) o sX sb sB q1 hw1 dL_law_603 ?_
  refine g_aload_n o dL_law_604 0 rfl ?_
  refine g_iload_n o dL_law_605 3 rfl ?_
  refine g_iconst (v := (2 : Int32)) o dL_law_606 (by decide) ?_
  refine g_iadd o dL_law_607 ?_
  refine g_sld (w := w2) o sX sb sB q2 hw2 dL_law_608 ?_
  refine g_aload_n o dL_law_609 0 rfl ?_
  refine g_iload_n o dL_law_610 3 rfl ?_
  refine g_iconst (v := (3 : Int32)) o dL_law_611 (by decide) ?_
  refine g_iadd o dL_law_612 ?_
  refine g_sld (w := w3) o sX sb sB q3 hw3 dL_law_613 ?_
  refine g_aload_n o dL_law_614 0 rfl ?_
  refine g_iload_n o dL_law_615 3 rfl ?_
  refine g_iconst (v := (4 : Int32)) o dL_law_616 (by decide) ?_
  refine g_iadd o dL_law_617 ?_
  refine g_sld (w := w4) o sX sb sB q4 hw4 dL_law_618 ?_
  refine g_invV o (rc_self hk1) (by decide) ml_L_64 kb_X11_share kv_X11_share rfl (c_X11_share (cq X) (cD X) (cY X) (cB X) (d := d) (by omega) hk1 h1) rfl rfl (by simp [cat_i, cat_l, cat_rf]) ⟨by omega, by omega⟩ dL_law_619 ?_
  refine g_aload_n o dL_law_622 2 rfl ?_
  refine g_aload_n o dL_law_623 0 rfl ?_
  refine g_iload_n o dL_law_624 3 rfl ?_
  refine g_iconst (v := (1 : Int32)) o dL_law_625 (by decide) ?_
  refine g_iadd o dL_law_626 ?_
  refine g_sld (w := w1) o sX sb sB q1 hw1 dL_law_627 ?_
  refine g_aload_n o dL_law_628 0 rfl ?_
  refine g_iload_n o dL_law_629 3 rfl ?_
  refine g_iconst (v := (2 : Int32)) o dL_law_630 (by decide) ?_
  refine g_iadd o dL_law_631 ?_
  refine g_sld (w := w2) o sX sb sB q2 hw2 dL_law_632 ?_
  refine g_aload_n o dL_law_633 0 rfl ?_
  refine g_iload_n o dL_law_634 3 rfl ?_
  refine g_iconst (v := (3 : Int32)) o dL_law_635 (by decide) ?_
  refine g_iadd o dL_law_636 ?_
  refine g_sld (w := w3) o sX sb sB q3 hw3 dL_law_637 ?_
  refine g_aload_n o dL_law_638 0 rfl ?_
  refine g_iload_n o dL_law_639 3 rfl ?_
  refine g_iconst (v := (4 : Int32)) o dL_law_640 (by decide) ?_
  refine g_iadd o dL_law_641 ?_
  refine g_sld (w := w4) o sX sb sB q4 hw4 dL_law_642 ?_
  refine g_invV o (rc_self hk2) (by decide) ml_L_67 kb_X12_share kv_X12_share rfl (c_X12_share (cq X) (cD X) (cY X) (cB X) (d := d) (by omega) hk2 h2) rfl rfl (by simp [cat_i, cat_l, cat_rf]) ⟨by omega, by omega⟩ dL_law_643 ?_
  refine g_icmp_eq (tgt := 1780) o dL_law_646 (by decide) (fun _ => kk) (fun q => absurd he q)
set_option maxHeartbeats 4000000 in
theorem lc_12 {X : Cx} {d n fu b Ls ax am k1 k2 : Nat} {K L : Nat → Nat} {M : Mm} {xs : Nat → Int32} {i w1 w2 w3 : Int32} {x1 : (Int32 × Mm)} {x2 : (Int32 × Mm)} (o : cOk X cL_law RL (d + 1)) (hd : 200 ≤ d) (sX : va_X b Ls xs (cs X) (cs X).heap) (sb : b < (cs X).heap.size) (sB : cB X = (cs X).heap.size) (hk1 : K ax = 11) (hk2 : K am = 12) (q1 : vp_in (i + 1) Ls) (hw1 : xs (i + (1 : Int32)).toNatClampNeg = w1) (q2 : vp_in (i + 2) Ls) (hw2 : xs (i + (2 : Int32)).toNatClampNeg = w2) (q3 : vp_in (i + 3) Ls) (hw3 : xs (i + (3 : Int32)).toNatClampNeg = w3) (h1 : f_X11_shares K L ax w1 w2 w3 M = some x1) (h2 : f_X12_shares K L am w1 w2 w3 (x1.2) = some x2) (he : (x1.1) = (x2.1)) (hf : k1 ≤ (cR X).cells ∧ k2 ≤ (cR X).slots) (kk : gW X k1 k2 n K L (x2.2) 1780 [(0, va_rf (some b)), (1, va_rf (some ax)), (2, va_rf (some am)), (3, .int i)] []) : gW X k1 k2 n K L M 651 [(0, va_rf (some b)), (1, va_rf (some ax)), (2, va_rf (some am)), (3, .int i)] [] := by
  refine g_aload_n o dL_law_651 1 rfl ?_
  refine g_aload_n o dL_law_652 0 rfl ?_
  refine g_iload_n o dL_law_653 3 rfl ?_
  refine g_iconst (v := (1 : Int32)) o dL_law_654 (by decide) ?_
  refine g_iadd o dL_law_655 ?_
  refine g_sld (w := w1) o sX sb sB q1 hw1 dL_law_656 ?_
  refine g_aload_n o dL_law_657 0 rfl ?_
  refine g_iload_n o dL_law_658 3 rfl ?_
  refine g_iconst (v := (2 : Int32)) o dL_law_659 (by decide) ?_
  refine g_iadd o dL_law_660 ?_
  refine g_sld (w := w2) o sX sb sB q2 hw2 dL_law_661 ?_
  refine g_aload_n o dL_law_662 0 rfl ?_
  refine g_iload_n o dL_law_663 3 rfl ?_
  refine g_iconst (v := (3 : Int32)) o dL_law_664 (by decide) ?_
  refine g_iadd o dL_law_665 ?_
  refine g_sld (w := w3) o sX sb sB q3 hw3 dL_law_666 ?_
  refine g_invV o (rc_self hk1) (by decide) ml_L_68 kb_X11_shares kv_X11_shares rfl (c_X11_shares (cq X) (cD X) (cY X) (cB X) (d := d) (by omega) hk1 h1) rfl rfl (by simp [cat_i, cat_l, cat_rf]) ⟨by omega, by omega⟩ dL_law_667 ?_
  refine g_aload_n o dL_law_670 2 rfl ?_
  refine g_aload_n o dL_law_671 0 rfl ?_
  refine g_iload_n o dL_law_672 3 rfl ?_
  refine g_iconst (v := (1 : Int32)) o dL_law_673 (by decide) ?_
  refine g_iadd o dL_law_674 ?_
  refine g_sld (w := w1) o sX sb sB q1 hw1 dL_law_675 ?_
  refine g_aload_n o dL_law_676 0 rfl ?_
  refine g_iload_n o dL_law_677 3 rfl ?_
  refine g_iconst (v := (2 : Int32)) o dL_law_678 (by decide) ?_
  refine g_iadd o dL_law_679 ?_
  refine g_sld (w := w2) o sX sb sB q2 hw2 dL_law_680 ?_
  refine g_aload_n o dL_law_681 0 rfl ?_
  refine g_iload_n o dL_law_682 3 rfl ?_
  refine g_iconst (v := (3 : Int32)) o dL_law_683 (by decide) ?_
  refine g_iadd o dL_law_684 ?_
  refine g_sld (w := w3) o sX sb sB q3 hw3 dL_law_685 ?_
  refine g_invV o (rc_self hk2) (by decide) ml_L_72 kb_X12_shares kv_X12_shares rfl (c_X12_shares (cq X) (cD X) (cY X) (cB X) (d := d) (by omega) hk2 h2) rfl rfl (by simp [cat_i, cat_l, cat_rf]) ⟨by omega, by omega⟩ dL_law_686 ?_
  refine g_icmp_eq (tgt := 1780) o dL_law_689 (by decide) (fun _ => kk) (fun q => absurd he q)
set_option maxHeartbeats 4000000 in
theorem lc_13 {X : Cx} {d n fu b Ls ax am k1 k2 : Nat} {K L : Nat → Nat} {M : Mm} {xs : Nat → Int32} {i w1 w2 w3 : Int32} {x1 : (Int32 × Mm)} {x2 : (Int32 × Mm)} (o : cOk X cL_law RL (d + 1)) (hd : 200 ≤ d) (sX : va_X b Ls xs (cs X) (cs X).heap) (sb : b < (cs X).heap.size) (sB : cB X = (cs X).heap.size) (hk1 : K ax = 11) (hk2 : K am = 12) (q1 : vp_in (i + 1) Ls) (hw1 : xs (i + (1 : Int32)).toNatClampNeg = w1) (q2 : vp_in (i + 2) Ls) (hw2 : xs (i + (2 : Int32)).toNatClampNeg = w2) (q3 : vp_in (i + 3) Ls) (hw3 : xs (i + (3 : Int32)).toNatClampNeg = w3) (h1 : f_X11_hang K L fu ax w1 w2 w3 M = some x1) (h2 : f_X12_hang K L fu am w1 w2 w3 (x1.2) = some x2) (he : (x1.1) = (x2.1)) (hf : k1 ≤ (cR X).cells ∧ k2 ≤ (cR X).slots) (kk : gW X k1 k2 n K L (x2.2) 1780 [(0, va_rf (some b)), (1, va_rf (some ax)), (2, va_rf (some am)), (3, .int i)] []) : gW X k1 k2 n K L M 694 [(0, va_rf (some b)), (1, va_rf (some ax)), (2, va_rf (some am)), (3, .int i)] [] := by
  refine g_aload_n o dL_law_694 1 rfl ?_
  refine g_aload_n o dL_law_695 0 rfl ?_
  refine g_iload_n o dL_law_696 3 rfl ?_
  refine g_iconst (v := (1 : Int32)) o dL_law_697 (by decide) ?_
  refine g_iadd o dL_law_698 ?_
  refine g_sld (w := w1) o sX sb sB q1 hw1 dL_law_699 ?_
  refine g_aload_n o dL_law_700 0 rfl ?_
  refine g_iload_n o dL_law_701 3 rfl ?_
  refine g_iconst (v := (2 : Int32)) o dL_law_702 (by decide) ?_
  refine g_iadd o dL_law_703 ?_
  refine g_sld (w := w2) o sX sb sB q2 hw2 dL_law_704 ?_
  refine g_aload_n o dL_law_705 0 rfl ?_
  refine g_iload_n o dL_law_706 3 rfl ?_
  refine g_iconst (v := (3 : Int32)) o dL_law_707 (by decide) ?_
  refine g_iadd o dL_law_708 ?_
  refine g_sld (w := w3) o sX sb sB q3 hw3 dL_law_709 ?_
  refine g_invV o (rc_self hk1) (by decide) ml_L_73 kb_X11_hang kv_X11_hang rfl (c_X11_hang (cq X) (cD X) (cY X) (cB X) (d := d) (by omega) hk1 h1) rfl rfl (by simp [cat_i, cat_l, cat_rf]) ⟨by omega, by omega⟩ dL_law_710 ?_
  refine g_aload_n o dL_law_713 2 rfl ?_
  refine g_aload_n o dL_law_714 0 rfl ?_
  refine g_iload_n o dL_law_715 3 rfl ?_
  refine g_iconst (v := (1 : Int32)) o dL_law_716 (by decide) ?_
  refine g_iadd o dL_law_717 ?_
  refine g_sld (w := w1) o sX sb sB q1 hw1 dL_law_718 ?_
  refine g_aload_n o dL_law_719 0 rfl ?_
  refine g_iload_n o dL_law_720 3 rfl ?_
  refine g_iconst (v := (2 : Int32)) o dL_law_721 (by decide) ?_
  refine g_iadd o dL_law_722 ?_
  refine g_sld (w := w2) o sX sb sB q2 hw2 dL_law_723 ?_
  refine g_aload_n o dL_law_724 0 rfl ?_
  refine g_iload_n o dL_law_725 3 rfl ?_
  refine g_iconst (v := (3 : Int32)) o dL_law_726 (by decide) ?_
  refine g_iadd o dL_law_727 ?_
  refine g_sld (w := w3) o sX sb sB q3 hw3 dL_law_728 ?_
  refine g_invV o (rc_self hk2) (by decide) ml_L_76 kb_X12_hang kv_X12_hang rfl (c_X12_hang (cq X) (cD X) (cY X) (cB X) (d := d) (by omega) hk2 h2) rfl rfl (by simp [cat_i, cat_l, cat_rf]) ⟨by omega, by omega⟩ dL_law_729 ?_
  refine g_icmp_eq (tgt := 1780) o dL_law_732 (by decide) (fun _ => kk) (fun q => absurd he q)
set_option maxHeartbeats 4000000 in
theorem lc_14 {X : Cx} {d n fu b Ls ax am k1 k2 : Nat} {K L : Nat → Nat} {M : Mm} {xs : Nat → Int32} {i w1 w2 w3 : Int32} {x1 : (Int32 × Mm)} {x2 : (Int32 × Mm)} (o : cOk X cL_law RL (d + 1)) (hd : 200 ≤ d) (sX : va_X b Ls xs (cs X) (cs X).heap) (sb : b < (cs X).heap.size) (sB : cB X = (cs X).heap.size) (hk1 : K ax = 11) (hk2 : K am = 12) (q1 : vp_in (i + 1) Ls) (hw1 : xs (i + (1 : Int32)).toNatClampNeg = w1) (q2 : vp_in (i + 2) Ls) (hw2 : xs (i + (2 : Int32)).toNatClampNeg = w2) (q3 : vp_in (i + 3) Ls) (hw3 : xs (i + (3 : Int32)).toNatClampNeg = w3) (h1 : f_X11_stop K L fu ax w1 w2 (bz w3) M = some x1) (h2 : f_X12_stop K L fu am w1 w2 (bz w3) (x1.2) = some x2) (he : (x1.1) = (x2.1)) (hf : k1 ≤ (cR X).cells ∧ k2 ≤ (cR X).slots) (kk : gW X k1 k2 n K L (x2.2) 1780 [(0, va_rf (some b)), (1, va_rf (some ax)), (2, va_rf (some am)), (3, .int i)] []) : gW X k1 k2 n K L M 737 [(0, va_rf (some b)), (1, va_rf (some ax)), (2, va_rf (some am)), (3, .int i)] [] := by
  by_cases z : w3 = 0
  · rw [bz_t z] at h1 h2
    refine g_aload_n o dL_law_737 1 rfl ?_
    refine g_aload_n o dL_law_738 0 rfl ?_
    refine g_iload_n o dL_law_739 3 rfl ?_
    refine g_iconst (v := (1 : Int32)) o dL_law_740 (by decide) ?_
    refine g_iadd o dL_law_741 ?_
    refine g_sld (w := w1) o sX sb sB q1 hw1 dL_law_742 ?_
    refine g_aload_n o dL_law_743 0 rfl ?_
    refine g_iload_n o dL_law_744 3 rfl ?_
    refine g_iconst (v := (2 : Int32)) o dL_law_745 (by decide) ?_
    refine g_iadd o dL_law_746 ?_
    refine g_sld (w := w2) o sX sb sB q2 hw2 dL_law_747 ?_
    refine g_aload_n o dL_law_748 0 rfl ?_
    refine g_iload_n o dL_law_749 3 rfl ?_
    refine g_iconst (v := (3 : Int32)) o dL_law_750 (by decide) ?_
    refine g_iadd o dL_law_751 ?_
    refine g_sld (w := w3) o sX sb sB q3 hw3 dL_law_752 ?_
    refine g_if_eq (tgt := 760) o dL_law_753 (by decide) (fun _ => ?_) (fun q => absurd z q)
    refine g_iconst (v := (0 : Int32)) o dL_law_760 (by decide) ?_
    refine g_invV o (rc_self hk1) (by decide) ml_L_77 kb_X11_stop kv_X11_stop rfl (c_X11_stop (cq X) (cD X) (cY X) (cB X) (d := d) (by omega) hk1 h1) rfl rfl (by simp [cat_i, cat_l, cat_rf]) ⟨by omega, by omega⟩ dL_law_761 ?_
    refine g_aload_n o dL_law_764 2 rfl ?_
    refine g_aload_n o dL_law_765 0 rfl ?_
    refine g_iload_n o dL_law_766 3 rfl ?_
    refine g_iconst (v := (1 : Int32)) o dL_law_767 (by decide) ?_
    refine g_iadd o dL_law_768 ?_
    refine g_sld (w := w1) o sX sb sB q1 hw1 dL_law_769 ?_
    refine g_aload_n o dL_law_770 0 rfl ?_
    refine g_iload_n o dL_law_771 3 rfl ?_
    refine g_iconst (v := (2 : Int32)) o dL_law_772 (by decide) ?_
    refine g_iadd o dL_law_773 ?_
    refine g_sld (w := w2) o sX sb sB q2 hw2 dL_law_774 ?_
    refine g_aload_n o dL_law_775 0 rfl ?_
    refine g_iload_n o dL_law_776 3 rfl ?_
    refine g_iconst (v := (3 : Int32)) o dL_law_777 (by decide) ?_
    refine g_iadd o dL_law_778 ?_
    refine g_sld (w := w3) o sX sb sB q3 hw3 dL_law_779 ?_
    refine g_if_eq (tgt := 787) o dL_law_780 (by decide) (fun _ => ?_) (fun q => absurd z q)
    refine g_iconst (v := (0 : Int32)) o dL_law_787 (by decide) ?_
    refine g_invV o (rc_self hk2) (by decide) ml_L_81 kb_X12_stop kv_X12_stop rfl (c_X12_stop (cq X) (cD X) (cY X) (cB X) (d := d) (by omega) hk2 h2) rfl rfl (by simp [cat_i, cat_l, cat_rf]) ⟨by omega, by omega⟩ dL_law_788 ?_
    refine g_icmp_eq (tgt := 1780) o dL_law_791 (by decide) (fun _ => kk) (fun q => absurd he q)
  · rw [bz_f z] at h1 h2
    refine g_aload_n o dL_law_737 1 rfl ?_
    refine g_aload_n o dL_law_738 0 rfl ?_
    refine g_iload_n o dL_law_739 3 rfl ?_
    refine g_iconst (v := (1 : Int32)) o dL_law_740 (by decide) ?_
    refine g_iadd o dL_law_741 ?_
    refine g_sld (w := w1) o sX sb sB q1 hw1 dL_law_742 ?_
    refine g_aload_n o dL_law_743 0 rfl ?_
    refine g_iload_n o dL_law_744 3 rfl ?_
    refine g_iconst (v := (2 : Int32)) o dL_law_745 (by decide) ?_
    refine g_iadd o dL_law_746 ?_
    refine g_sld (w := w2) o sX sb sB q2 hw2 dL_law_747 ?_
    refine g_aload_n o dL_law_748 0 rfl ?_
    refine g_iload_n o dL_law_749 3 rfl ?_
    refine g_iconst (v := (3 : Int32)) o dL_law_750 (by decide) ?_
    refine g_iadd o dL_law_751 ?_
    refine g_sld (w := w3) o sX sb sB q3 hw3 dL_law_752 ?_
    refine g_if_eq (tgt := 760) o dL_law_753 (by decide) (fun q => absurd q z) (fun _ => ?_)
    refine g_iconst (v := (1 : Int32)) o dL_law_756 (by decide) ?_
    refine g_goto (tgt := 761) o dL_law_757 (by decide) ?_
    refine g_invV o (rc_self hk1) (by decide) ml_L_77 kb_X11_stop kv_X11_stop rfl (c_X11_stop (cq X) (cD X) (cY X) (cB X) (d := d) (by omega) hk1 h1) rfl rfl (by simp [cat_i, cat_l, cat_rf]) ⟨by omega, by omega⟩ dL_law_761 ?_
    refine g_aload_n o dL_law_764 2 rfl ?_
    refine g_aload_n o dL_law_765 0 rfl ?_
    refine g_iload_n o dL_law_766 3 rfl ?_
    refine g_iconst (v := (1 : Int32)) o dL_law_767 (by decide) ?_
    refine g_iadd o dL_law_768 ?_
    refine g_sld (w := w1) o sX sb sB q1 hw1 dL_law_769 ?_
    refine g_aload_n o dL_law_770 0 rfl ?_
    refine g_iload_n o dL_law_771 3 rfl ?_
    refine g_iconst (v := (2 : Int32)) o dL_law_772 (by decide) ?_
    refine g_iadd o dL_law_773 ?_
    refine g_sld (w := w2) o sX sb sB q2 hw2 dL_law_774 ?_
    refine g_aload_n o dL_law_775 0 rfl ?_
    refine g_iload_n o dL_law_776 3 rfl ?_
    refine g_iconst (v := (3 : Int32)) o dL_law_777 (by decide) ?_
    refine g_iadd o dL_law_778 ?_
    refine g_sld (w := w3) o sX sb sB q3 hw3 dL_law_779 ?_
    refine g_if_eq (tgt := 787) o dL_law_780 (by decide) (fun q => absurd q z) (fun _ => ?_)
    refine g_iconst (v := (1 : Int32)) o dL_law_783 (by decide) ?_
    refine g_goto (tgt := 788) o dL_law_784 (by decide) ?_
    refine g_invV o (rc_self hk2) (by decide) ml_L_81 kb_X12_stop kv_X12_stop rfl (c_X12_stop (cq X) (cD X) (cY X) (cB X) (d := d) (by omega) hk2 h2) rfl rfl (by simp [cat_i, cat_l, cat_rf]) ⟨by omega, by omega⟩ dL_law_788 ?_
    refine g_icmp_eq (tgt := 1780) o dL_law_791 (by decide) (fun _ => kk) (fun q => absurd he q)
set_option maxHeartbeats 4000000 in
theorem lc_15 {X : Cx} {d n fu b Ls ax am k1 k2 : Nat} {K L : Nat → Nat} {M : Mm} {xs : Nat → Int32} {i w1 : Int32} {x1 : (Int32 × Mm)} {x2 : (Int32 × Mm)} (o : cOk X cL_law RL (d + 1)) (hd : 200 ≤ d) (sX : va_X b Ls xs (cs X) (cs X).heap) (sb : b < (cs X).heap.size) (sB : cB X = (cs X).heap.size) (hk1 : K ax = 11) (hk2 : K am = 12) (q1 : vp_in (i + 1) Ls) (hw1 : xs (i + (1 : Int32)).toNatClampNeg = w1) (h1 : f_X11_ring K L ax w1 M = some x1) (h2 : f_X12_ring K L am w1 (x1.2) = some x2) (he : (x1.1) = (x2.1)) (hf : k1 ≤ (cR X).cells ∧ k2 ≤ (cR X).slots) (kk : gW X k1 k2 n K L (x2.2) 1780 [(0, va_rf (some b)), (1, va_rf (some ax)), (2, va_rf (some am)), (3, .int i)] []) : gW X k1 k2 n K L M 796 [(0, va_rf (some b)), (1, va_rf (some ax)), (2, va_rf (some am)), (3, .int i)] [] := by
  refine g_aload_n o dL_law_796 1 rfl ?_
  refine g_aload_n o dL_law_797 0 rfl ?_
  refine g_iload_n o dL_law_798 3 rfl ?_
  refine g_iconst (v := (1 : Int32)) o dL_law_799 (by decide) ?_
  refine g_iadd o dL_law_800 ?_
  refine g_sld (w := w1) o sX sb sB q1 hw1 dL_law_801 ?_
  refine g_invV o (rc_self hk1) (by decide) ml_L_82 kb_X11_ring kv_X11_ring rfl (c_X11_ring (cq X) (cD X) (cY X) (cB X) (d := d) (by omega) hk1 h1) rfl rfl (by simp [cat_i, cat_l, cat_rf]) ⟨by omega, by omega⟩ dL_law_802 ?_
  refine g_aload_n o dL_law_805 2 rfl ?_
  refine g_aload_n o dL_law_806 0 rfl ?_
  refine g_iload_n o dL_law_807 3 rfl ?_
  refine g_iconst (v := (1 : Int32)) o dL_law_808 (by decide) ?_
  refine g_iadd o dL_law_809 ?_
  refine g_sld (w := w1) o sX sb sB q1 hw1 dL_law_810 ?_
  refine g_invV o (rc_self hk2) (by decide) ml_L_85 kb_X12_ring kv_X12_ring rfl (c_X12_ring (cq X) (cD X) (cY X) (cB X) (d := d) (by omega) hk2 h2) rfl rfl (by simp [cat_i, cat_l, cat_rf]) ⟨by omega, by omega⟩ dL_law_811 ?_
  refine g_icmp_eq (tgt := 1780) o dL_law_814 (by decide) (fun _ => kk) (fun q => absurd he q)
set_option maxHeartbeats 4000000 in
theorem lc_16 {X : Cx} {d n fu b Ls ax am k1 k2 : Nat} {K L : Nat → Nat} {M : Mm} {xs : Nat → Int32} {i w1 w2 : Int32} {x1 : (Int32 × Mm)} {x2 : (Int32 × Mm)} (o : cOk X cL_law RL (d + 1)) (hd : 200 ≤ d) (sX : va_X b Ls xs (cs X) (cs X).heap) (sb : b < (cs X).heap.size) (sB : cB X = (cs X).heap.size) (hk1 : K ax = 11) (hk2 : K am = 12) (q1 : vp_in (i + 1) Ls) (hw1 : xs (i + (1 : Int32)).toNatClampNeg = w1) (q2 : vp_in (i + 2) Ls) (hw2 : xs (i + (2 : Int32)).toNatClampNeg = w2) (h1 : f_X11_row K L fu ax w1 w2 M = some x1) (h2 : f_X12_row K L fu am w1 w2 (x1.2) = some x2) (he : (x1.1) = (x2.1)) (hf : k1 ≤ (cR X).cells ∧ k2 ≤ (cR X).slots) (kk : gW X k1 k2 n K L (x2.2) 1780 [(0, va_rf (some b)), (1, va_rf (some ax)), (2, va_rf (some am)), (3, .int i)] []) : gW X k1 k2 n K L M 819 [(0, va_rf (some b)), (1, va_rf (some ax)), (2, va_rf (some am)), (3, .int i)] [] := by
  refine g_aload_n o dL_law_819 1 rfl ?_
  refine g_aload_n o dL_law_820 0 rfl ?_
  refine g_iload_n o dL_law_821 3 rfl ?_
  refine g_iconst (v := (1 : Int32)) o dL_law_822 (by decide) ?_
  refine g_iadd o dL_law_823 ?_
  refine g_sld (w := w1) o sX sb sB q1 hw1 dL_law_824 ?_
  refine g_aload_n o dL_law_825 0 rfl ?_
  refine g_iload_n o dL_law_826 3 rfl ?_
  refine g_iconst (v := (2 : Int32)) o dL_law_827 (by decide) ?_
  refine g_iadd o dL_law_828 ?_
  refine g_sld (w := w2) o sX sb sB q2 hw2 dL_law_829 ?_
  refine g_invV o (rc_self hk1) (by decide) ml_L_86 kb_X11_row kv_X11_row rfl (c_X11_row (cq X) (cD X) (cY X) (cB X) (d := d) (by omega) hk1 h1) rfl rfl (by simp [cat_i, cat_l, cat_rf]) ⟨by omega, by omega⟩ dL_law_830 ?_
  refine g_aload_n o dL_law_833 2 rfl ?_
  refine g_aload_n o dL_law_834 0 rfl ?_
  refine g_iload_n o dL_law_835 3 rfl ?_
  refine g_iconst (v := (1 : Int32)) o dL_law_836 (by decide) ?_
  refine g_iadd o dL_law_837 ?_
  refine g_sld (w := w1) o sX sb sB q1 hw1 dL_law_838 ?_
  refine g_aload_n o dL_law_839 0 rfl ?_
  refine g_iload_n o dL_law_840 3 rfl ?_
  refine g_iconst (v := (2 : Int32)) o dL_law_841 (by decide) ?_
  refine g_iadd o dL_law_842 ?_
  refine g_sld (w := w2) o sX sb sB q2 hw2 dL_law_843 ?_
  refine g_invV o (rc_self hk2) (by decide) ml_L_90 kb_X12_row kv_X12_row rfl (c_X12_row (cq X) (cD X) (cY X) (cB X) (d := d) (by omega) hk2 h2) rfl rfl (by simp [cat_i, cat_l, cat_rf]) ⟨by omega, by omega⟩ dL_law_844 ?_
  refine g_icmp_eq (tgt := 1780) o dL_law_847 (by decide) (fun _ => kk) (fun q => absurd he q)
set_option maxHeartbeats 4000000 in
theorem lc_17 {X : Cx} {d n fu b Ls ax am k1 k2 : Nat} {K L : Nat → Nat} {M : Mm} {xs : Nat → Int32} {i w1 : Int32} {x1 : (Int32 × Mm)} {x2 : (Int32 × Mm)} (o : cOk X cL_law RL (d + 1)) (hd : 200 ≤ d) (sX : va_X b Ls xs (cs X) (cs X).heap) (sb : b < (cs X).heap.size) (sB : cB X = (cs X).heap.size) (hk1 : K ax = 11) (hk2 : K am = 12) (q1 : vp_in (i + 1) Ls) (hw1 : xs (i + (1 : Int32)).toNatClampNeg = w1) (h1 : f_X11_tear K L ax w1 M = some x1) (h2 : f_X12_tear K L am w1 (x1.2) = some x2) (he : (x1.1) = (x2.1)) (hf : k1 ≤ (cR X).cells ∧ k2 ≤ (cR X).slots) (kk : gW X k1 k2 n K L (x2.2) 1780 [(0, va_rf (some b)), (1, va_rf (some ax)), (2, va_rf (some am)), (3, .int i)] []) : gW X k1 k2 n K L M 852 [(0, va_rf (some b)), (1, va_rf (some ax)), (2, va_rf (some am)), (3, .int i)] [] := by
  refine g_aload_n o dL_law_852 1 rfl ?_
  refine g_aload_n o dL_law_853 0 rfl ?_
  refine g_iload_n o dL_law_854 3 rfl ?_
  refine g_iconst (v := (1 : Int32)) o dL_law_855 (by decide) ?_
  refine g_iadd o dL_law_856 ?_
  refine g_sld (w := w1) o sX sb sB q1 hw1 dL_law_857 ?_
  refine g_invV o (rc_self hk1) (by decide) ml_L_91 kb_X11_tear kv_X11_tear rfl (c_X11_tear (cq X) (cD X) (cY X) (cB X) (d := d) (by omega) hk1 h1) rfl rfl (by simp [cat_i, cat_l, cat_rf]) ⟨by omega, by omega⟩ dL_law_858 ?_
  refine g_aload_n o dL_law_861 2 rfl ?_
  refine g_aload_n o dL_law_862 0 rfl ?_
  refine g_iload_n o dL_law_863 3 rfl ?_
  refine g_iconst (v := (1 : Int32)) o dL_law_864 (by decide) ?_
  refine g_iadd o dL_law_865 ?_
  refine g_sld (w := w1) o sX sb sB q1 hw1 dL_law_866 ?_
  refine g_invV o (rc_self hk2) (by decide) ml_L_94 kb_X12_tear kv_X12_tear rfl (c_X12_tear (cq X) (cD X) (cY X) (cB X) (d := d) (by omega) hk2 h2) rfl rfl (by simp [cat_i, cat_l, cat_rf]) ⟨by omega, by omega⟩ dL_law_867 ?_
  refine g_icmp_eq (tgt := 1780) o dL_law_870 (by decide) (fun _ => kk) (fun q => absurd he q)
set_option maxHeartbeats 4000000 in
theorem lc_18 {X : Cx} {d n fu b Ls ax am k1 k2 : Nat} {K L : Nat → Nat} {M : Mm} {xs : Nat → Int32} {i w1 w2 w3 : Int32} {x1 : (Int32 × Mm)} {x2 : (Int32 × Mm)} (o : cOk X cL_law RL (d + 1)) (hd : 200 ≤ d) (sX : va_X b Ls xs (cs X) (cs X).heap) (sb : b < (cs X).heap.size) (sB : cB X = (cs X).heap.size) (hk1 : K ax = 11) (hk2 : K am = 12) (q1 : vp_in (i + 1) Ls) (hw1 : xs (i + (1 : Int32)).toNatClampNeg = w1) (q2 : vp_in (i + 2) Ls) (hw2 : xs (i + (2 : Int32)).toNatClampNeg = w2) (q3 : vp_in (i + 3) Ls) (hw3 : xs (i + (3 : Int32)).toNatClampNeg = w3) (h1 : f_X11_step K L ax w1 w2 w3 M = some x1) (h2 : f_X12_step K L am w1 w2 w3 (x1.2) = some x2) (he : (x1.1) = (x2.1)) (hf : k1 ≤ (cR X).cells ∧ k2 ≤ (cR X).slots) (kk : gW X k1 k2 n K L (x2.2) 1780 [(0, va_rf (some b)), (1, va_rf (some ax)), (2, va_rf (some am)), (3, .int i)] []) : gW X k1 k2 n K L M 875 [(0, va_rf (some b)), (1, va_rf (some ax)), (2, va_rf (some am)), (3, .int i)] [] := by
  refine g_aload_n o dL_law_875 1 rfl ?_
  refine g_aload_n o dL_law_876 0 rfl ?_
  refine g_iload_n o dL_law_877 3 rfl ?_
  refine g_iconst (v := (1 : Int32)) o dL_law_878 (by decide) ?_
  refine g_iadd o dL_law_879 ?_
  refine g_sld (w := w1) o sX sb sB q1 hw1 dL_law_880 ?_
  refine g_aload_n o dL_law_881 0 rfl ?_
  refine g_iload_n o dL_law_882 3 rfl ?_
  refine g_iconst (v := (2 : Int32)) o dL_law_883 (by decide) ?_
  refine g_iadd o dL_law_884 ?_
  refine g_sld (w := w2) o sX sb sB q2 hw2 dL_law_885 ?_
  refine g_aload_n o dL_law_886 0 rfl ?_
  refine g_iload_n o dL_law_887 3 rfl ?_
  refine g_iconst (v := (3 : Int32)) o dL_law_888 (by decide) ?_
  refine g_iadd o dL_law_889 ?_
  refine g_sld (w := w3) o sX sb sB q3 hw3 dL_law_890 ?_
  refine g_invV o (rc_self hk1) (by decide) ml_L_95 kb_X11_step kv_X11_step rfl (c_X11_step (cq X) (cD X) (cY X) (cB X) (d := d) (by omega) hk1 h1) rfl rfl (by simp [cat_i, cat_l, cat_rf]) ⟨by omega, by omega⟩ dL_law_891 ?_
  refine g_aload_n o dL_law_894 2 rfl ?_
  refine g_aload_n o dL_law_895 0 rfl ?_
  refine g_iload_n o dL_law_896 3 rfl ?_
  refine g_iconst (v := (1 : Int32)) o dL_law_897 (by decide) ?_
  refine g_iadd o dL_law_898 ?_
  refine g_sld (w := w1) o sX sb sB q1 hw1 dL_law_899 ?_
  refine g_aload_n o dL_law_900 0 rfl ?_
  refine g_iload_n o dL_law_901 3 rfl ?_
  refine g_iconst (v := (2 : Int32)) o dL_law_902 (by decide) ?_
  refine g_iadd o dL_law_903 ?_
  refine g_sld (w := w2) o sX sb sB q2 hw2 dL_law_904 ?_
  refine g_aload_n o dL_law_905 0 rfl ?_
  refine g_iload_n o dL_law_906 3 rfl ?_
  refine g_iconst (v := (3 : Int32)) o dL_law_907 (by decide) ?_
  refine g_iadd o dL_law_908 ?_
  refine g_sld (w := w3) o sX sb sB q3 hw3 dL_law_909 ?_
  refine g_invV o (rc_self hk2) (by decide) ml_L_98 kb_X12_step kv_X12_step rfl (c_X12_step (cq X) (cD X) (cY X) (cB X) (d := d) (by omega) hk2 h2) rfl rfl (by simp [cat_i, cat_l, cat_rf]) ⟨by omega, by omega⟩ dL_law_910 ?_
  refine g_icmp_eq (tgt := 1780) o dL_law_913 (by decide) (fun _ => kk) (fun q => absurd he q)
set_option maxHeartbeats 4000000 in
theorem lc_19 {X : Cx} {d n fu b Ls ax am k1 k2 : Nat} {K L : Nat → Nat} {M : Mm} {xs : Nat → Int32} {i w1 w2 w3 w4 w5 : Int32} {x1 : (Int32 × Mm)} {x2 : (Int32 × Mm)} (o : cOk X cL_law RL (d + 1)) (hd : 200 ≤ d) (sX : va_X b Ls xs (cs X) (cs X).heap) (sb : b < (cs X).heap.size) (sB : cB X = (cs X).heap.size) (hk1 : K ax = 11) (hk2 : K am = 12) (q1 : vp_in (i + 1) Ls) (hw1 : xs (i + (1 : Int32)).toNatClampNeg = w1) (q2 : vp_in (i + 2) Ls) (hw2 : xs (i + (2 : Int32)).toNatClampNeg = w2) (q3 : vp_in (i + 3) Ls) (hw3 : xs (i + (3 : Int32)).toNatClampNeg = w3) (q4 : vp_in (i + 4) Ls) (hw4 : xs (i + (4 : Int32)).toNatClampNeg = w4) (q5 : vp_in (i + 5) Ls) (hw5 : xs (i + (5 : Int32)).toNatClampNeg = w5) (h1 : f_X11_copy K L ax w1 w2 w3 w4 w5 M = some x1) (h2 : f_X12_copy K L fu am w1 w2 w3 w4 w5 (x1.2) = some x2) (he : (x1.1) = (x2.1)) (hf : k1 ≤ (cR X).cells ∧ k2 ≤ (cR X).slots) (kk : gW X k1 k2 n K L (x2.2) 1780 [(0, va_rf (some b)), (1, va_rf (some ax)), (2, va_rf (some am)), (3, .int i)] []) : gW X k1 k2 n K L M 918 [(0, va_rf (some b)), (1, va_rf (some ax)), (2, va_rf (some am)), (3, .int i)] [] := by
  refine g_aload_n o dL_law_918 1 rfl ?_
  refine g_aload_n o dL_law_919 0 rfl ?_
  refine g_iload_n o dL_law_920 3 rfl ?_
  refine g_iconst (v := (1 : Int32)) o dL_law_921 (by decide) ?_
  refine g_iadd o dL_law_922 ?_
  refine g_sld (w := w1) o sX sb sB q1 hw1 dL_law_923 ?_
  refine g_aload_n o dL_law_924 0 rfl ?_
  refine g_iload_n o dL_law_925 3 rfl ?_
  refine g_iconst (v := (2 : Int32)) o dL_law_926 (by decide) ?_
  refine g_iadd o dL_law_927 ?_
  refine g_sld (w := w2) o sX sb sB q2 hw2 dL_law_928 ?_
  refine g_aload_n o dL_law_929 0 rfl ?_
  refine g_iload_n o dL_law_930 3 rfl ?_
  refine g_iconst (v := (3 : Int32)) o dL_law_931 (by decide) ?_
  refine g_iadd o dL_law_932 ?_
  refine g_sld (w := w3) o sX sb sB q3 hw3 dL_law_933 ?_
  refine g_aload_n o dL_law_934 0 rfl ?_
  refine g_iload_n o dL_law_935 3 rfl ?_
  refine g_iconst (v := (4 : Int32)) o dL_law_936 (by decide) ?_
  refine g_iadd o dL_law_937 ?_
  refine g_sld (w := w4) o sX sb sB q4 hw4 dL_law_938 ?_
  refine g_aload_n o dL_law_939 0 rfl ?_
  refine g_iload_n o dL_law_940 3 rfl ?_
  refine g_iconst (v := (5 : Int32)) o dL_law_941 (by decide) ?_
  refine g_iadd o dL_law_942 ?_
  refine g_sld (w := w5) o sX sb sB q5 hw5 dL_law_943 ?_
  refine g_invV o (rc_self hk1) (by decide) ml_L_99 kb_X11_copy kv_X11_copy rfl (c_X11_copy (cq X) (cD X) (cY X) (cB X) (d := d) (by omega) hk1 h1) rfl rfl (by simp [cat_i, cat_l, cat_rf]) ⟨by omega, by omega⟩ dL_law_944 ?_
  refine g_aload_n o dL_law_947 2 rfl ?_
  refine g_aload_n o dL_law_948 0 rfl ?_
  refine g_iload_n o dL_law_949 3 rfl ?_
  refine g_iconst (v := (1 : Int32)) o dL_law_950 (by decide) ?_
  refine g_iadd o dL_law_951 ?_
  refine g_sld (w := w1) o sX sb sB q1 hw1 dL_law_952 ?_
  refine g_aload_n o dL_law_953 0 rfl ?_
  refine g_iload_n o dL_law_954 3 rfl ?_
  refine g_iconst (v := (2 : Int32)) o dL_law_955 (by decide) ?_
  refine g_iadd o dL_law_956 ?_
  refine g_sld (w := w2) o sX sb sB q2 hw2 dL_law_957 ?_
  refine g_aload_n o dL_law_958 0 rfl ?_
  refine g_iload_n o dL_law_959 3 rfl ?_
  refine g_iconst (v := (3 : Int32)) o dL_law_960 (by decide) ?_
  refine g_iadd o dL_law_961 ?_
  refine g_sld (w := w3) o sX sb sB q3 hw3 dL_law_962 ?_
  refine g_aload_n o dL_law_963 0 rfl ?_
  refine g_iload_n o dL_law_964 3 rfl ?_
  refine g_iconst (v := (4 : Int32)) o dL_law_965 (by decide) ?_
  refine g_iadd o dL_law_966 ?_
  refine g_sld (w := w4) o sX sb sB q4 hw4 dL_law_967 ?_
  refine g_aload_n o dL_law_968 0 rfl ?_
  refine g_iload_n o dL_law_969 3 rfl ?_
  refine g_iconst (v := (5 : Int32)) o dL_law_970 (by decide) ?_
  refine g_iadd o dL_law_971 ?_
  refine g_sld (w := w5) o sX sb sB q5 hw5 dL_law_972 ?_
  refine g_invV o (rc_self hk2) (by decide) ml_L_102 kb_X12_copy kv_X12_copy rfl (c_X12_copy (cq X) (cD X) (cY X) (cB X) (d := d) (by omega) hk2 h2) rfl rfl (by simp [cat_i, cat_l, cat_rf]) ⟨by omega, by omega⟩ dL_law_973 ?_
  refine g_icmp_eq (tgt := 1780) o dL_law_976 (by decide) (fun _ => kk) (fun q => absurd he q)
set_option maxHeartbeats 4000000 in
theorem lc_20 {X : Cx} {d n fu b Ls ax am k1 k2 : Nat} {K L : Nat → Nat} {M : Mm} {xs : Nat → Int32} {i w1 w2 : Int32} {x1 : (Int32 × Mm)} {x2 : (Int32 × Mm)} (o : cOk X cL_law RL (d + 1)) (hd : 200 ≤ d) (sX : va_X b Ls xs (cs X) (cs X).heap) (sb : b < (cs X).heap.size) (sB : cB X = (cs X).heap.size) (hk1 : K ax = 11) (hk2 : K am = 12) (q1 : vp_in (i + 1) Ls) (hw1 : xs (i + (1 : Int32)).toNatClampNeg = w1) (q2 : vp_in (i + 2) Ls) (hw2 : xs (i + (2 : Int32)).toNatClampNeg = w2) (h1 : f_X11_grow K L fu ax w1 w2 M = some x1) (h2 : f_X12_grow K L fu am w1 w2 (x1.2) = some x2) (he : (x1.1) = (x2.1)) (hf : k1 ≤ (cR X).cells ∧ k2 ≤ (cR X).slots) (kk : gW X k1 k2 n K L (x2.2) 1780 [(0, va_rf (some b)), (1, va_rf (some ax)), (2, va_rf (some am)), (3, .int i)] []) : gW X k1 k2 n K L M 981 [(0, va_rf (some b)), (1, va_rf (some ax)), (2, va_rf (some am)), (3, .int i)] [] := by
  refine g_aload_n o dL_law_981 1 rfl ?_
  refine g_aload_n o dL_law_982 0 rfl ?_
  refine g_iload_n o dL_law_983 3 rfl ?_
  refine g_iconst (v := (1 : Int32)) o dL_law_984 (by decide) ?_
  refine g_iadd o dL_law_985 ?_
  refine g_sld (w := w1) o sX sb sB q1 hw1 dL_law_986 ?_
  refine g_aload_n o dL_law_987 0 rfl ?_
  refine g_iload_n o dL_law_988 3 rfl ?_
  refine g_iconst (v := (2 : Int32)) o dL_law_989 (by decide) ?_
  refine g_iadd o dL_law_990 ?_
  refine g_sld (w := w2) o sX sb sB q2 hw2 dL_law_991 ?_
  refine g_invV o (rc_self hk1) (by decide) ml_L_103 kb_X11_grow kv_X11_grow rfl (c_X11_grow (cq X) (cD X) (cY X) (cB X) (d := d) (by omega) hk1 h1) rfl rfl (by simp [cat_i, cat_l, cat_rf]) ⟨by omega, by omega⟩ dL_law_992 ?_
  refine g_aload_n o dL_law_995 2 rfl ?_
  refine g_aload_n o dL_law_996 0 rfl ?_
  refine g_iload_n o dL_law_997 3 rfl ?_
  refine g_iconst (v := (1 : Int32)) o dL_law_998 (by decide) ?_
  refine g_iadd o dL_law_999 ?_
  refine g_sld (w := w1) o sX sb sB q1 hw1 dL_law_1000 ?_
  refine g_aload_n o dL_law_1001 0 rfl ?_
  refine g_iload_n o dL_law_1002 3 rfl ?_
  refine g_iconst (v := (2 : Int32)) o dL_law_1003 (by decide) ?_
  refine g_iadd o dL_law_1004 ?_
  refine g_sld (w := w2) o sX sb sB q2 hw2 dL_law_1005 ?_
  refine g_invV o (rc_self hk2) (by decide) ml_L_106 kb_X12_grow kv_X12_grow rfl (c_X12_grow (cq X) (cD X) (cY X) (cB X) (d := d) (by omega) hk2 h2) rfl rfl (by simp [cat_i, cat_l, cat_rf]) ⟨by omega, by omega⟩ dL_law_1006 ?_
  refine g_icmp_eq (tgt := 1780) o dL_law_1009 (by decide) (fun _ => kk) (fun q => absurd he q)
set_option maxHeartbeats 4000000 in
theorem lc_21 {X : Cx} {d n fu b Ls ax am k1 k2 : Nat} {K L : Nat → Nat} {M : Mm} {xs : Nat → Int32} {i w1 : Int32} {x1 : (Int32 × Mm)} {x2 : (Int32 × Mm)} (o : cOk X cL_law RL (d + 1)) (hd : 200 ≤ d) (sX : va_X b Ls xs (cs X) (cs X).heap) (sb : b < (cs X).heap.size) (sB : cB X = (cs X).heap.size) (hk1 : K ax = 11) (hk2 : K am = 12) (q1 : vp_in (i + 1) Ls) (hw1 : xs (i + (1 : Int32)).toNatClampNeg = w1) (h1 : f_X11_back K L ax w1 M = some x1) (h2 : f_X12_back K L am w1 (x1.2) = some x2) (he : (x1.1) = (x2.1)) (hf : k1 ≤ (cR X).cells ∧ k2 ≤ (cR X).slots) (kk : gW X k1 k2 n K L (x2.2) 1780 [(0, va_rf (some b)), (1, va_rf (some ax)), (2, va_rf (some am)), (3, .int i)] []) : gW X k1 k2 n K L M 1014 [(0, va_rf (some b)), (1, va_rf (some ax)), (2, va_rf (some am)), (3, .int i)] [] := by
  refine g_aload_n o dL_law_1014 1 rfl ?_
  refine g_aload_n o dL_law_1015 0 rfl ?_
  refine g_iload_n o dL_law_1016 3 rfl ?_
  refine g_iconst (v := (1 : Int32)) o dL_law_1017 (by decide) ?_
  refine g_iadd o dL_law_1018 ?_
  refine g_sld (w := w1) o sX sb sB q1 hw1 dL_law_1019 ?_
  refine g_invV o (rc_self hk1) (by decide) ml_L_107 kb_X11_back kv_X11_back rfl (c_X11_back (cq X) (cD X) (cY X) (cB X) (d := d) (by omega) hk1 h1) rfl rfl (by simp [cat_i, cat_l, cat_rf]) ⟨by omega, by omega⟩ dL_law_1020 ?_
  refine g_aload_n o dL_law_1023 2 rfl ?_
  refine g_aload_n o dL_law_1024 0 rfl ?_
  refine g_iload_n o dL_law_1025 3 rfl ?_
  refine g_iconst (v := (1 : Int32)) o dL_law_1026 (by decide) ?_
  refine g_iadd o dL_law_1027 ?_
  refine g_sld (w := w1) o sX sb sB q1 hw1 dL_law_1028 ?_
  refine g_invV o (rc_self hk2) (by decide) ml_L_110 kb_X12_back kv_X12_back rfl (c_X12_back (cq X) (cD X) (cY X) (cB X) (d := d) (by omega) hk2 h2) rfl rfl (by simp [cat_i, cat_l, cat_rf]) ⟨by omega, by omega⟩ dL_law_1029 ?_
  refine g_icmp_eq (tgt := 1780) o dL_law_1032 (by decide) (fun _ => kk) (fun q => absurd he q)
set_option maxHeartbeats 4000000 in
theorem lc_22 {X : Cx} {d n fu b Ls ax am k1 k2 : Nat} {K L : Nat → Nat} {M : Mm} {xs : Nat → Int32} {i w1 w2 : Int32} {x1 : (Int32 × Mm)} {x2 : (Int32 × Mm)} (o : cOk X cL_law RL (d + 1)) (hd : 200 ≤ d) (sX : va_X b Ls xs (cs X) (cs X).heap) (sb : b < (cs X).heap.size) (sB : cB X = (cs X).heap.size) (hk1 : K ax = 11) (hk2 : K am = 12) (q1 : vp_in (i + 1) Ls) (hw1 : xs (i + (1 : Int32)).toNatClampNeg = w1) (q2 : vp_in (i + 2) Ls) (hw2 : xs (i + (2 : Int32)).toNatClampNeg = w2) (h1 : f_X11_stands K L ax w1 w2 M = some x1) (h2 : f_X12_stands K L am w1 w2 (x1.2) = some x2) (he : (x1.1) = (x2.1)) (hf : k1 ≤ (cR X).cells ∧ k2 ≤ (cR X).slots) (kk : gW X k1 k2 n K L (x2.2) 1780 [(0, va_rf (some b)), (1, va_rf (some ax)), (2, va_rf (some am)), (3, .int i)] []) : gW X k1 k2 n K L M 1037 [(0, va_rf (some b)), (1, va_rf (some ax)), (2, va_rf (some am)), (3, .int i)] [] := by
  refine g_aload_n o dL_law_1037 1 rfl ?_
  refine g_aload_n o dL_law_1038 0 rfl ?_
  refine g_iload_n o dL_law_1039 3 rfl ?_
  refine g_iconst (v := (1 : Int32)) o dL_law_1040 (by decide) ?_
  refine g_iadd o dL_law_1041 ?_
  refine g_sld (w := w1) o sX sb sB q1 hw1 dL_law_1042 ?_
  refine g_aload_n o dL_law_1043 0 rfl ?_
  refine g_iload_n o dL_law_1044 3 rfl ?_
  refine g_iconst (v := (2 : Int32)) o dL_law_1045 (by decide) ?_
  refine g_iadd o dL_law_1046 ?_
  refine g_sld (w := w2) o sX sb sB q2 hw2 dL_law_1047 ?_
  refine g_invV o (rc_self hk1) (by decide) ml_L_111 kb_X11_stands kv_X11_stands rfl (c_X11_stands (cq X) (cD X) (cY X) (cB X) (d := d) (by omega) hk1 h1) rfl rfl (by simp [cat_i, cat_l, cat_rf]) ⟨by omega, by omega⟩ dL_law_1048 ?_
  refine g_aload_n o dL_law_1051 2 rfl ?_
  refine g_aload_n o dL_law_1052 0 rfl ?_
  refine g_iload_n o dL_law_1053 3 rfl ?_
  refine g_iconst (v := (1 : Int32)) o dL_law_1054 (by decide) ?_
  refine g_iadd o dL_law_1055 ?_
  refine g_sld (w := w1) o sX sb sB q1 hw1 dL_law_1056 ?_
  refine g_aload_n o dL_law_1057 0 rfl ?_
  refine g_iload_n o dL_law_1058 3 rfl ?_
  refine g_iconst (v := (2 : Int32)) o dL_law_1059 (by decide) ?_
  refine g_iadd o dL_law_1060 ?_
  refine g_sld (w := w2) o sX sb sB q2 hw2 dL_law_1061 ?_
  refine g_invV o (rc_self hk2) (by decide) ml_L_114 kb_X12_stands kv_X12_stands rfl (c_X12_stands (cq X) (cD X) (cY X) (cB X) (d := d) (by omega) hk2 h2) rfl rfl (by simp [cat_i, cat_l, cat_rf]) ⟨by omega, by omega⟩ dL_law_1062 ?_
  refine g_icmp_eq (tgt := 1780) o dL_law_1065 (by decide) (fun _ => kk) (fun q => absurd he q)
set_option maxHeartbeats 4000000 in
theorem lc_23 {X : Cx} {d n fu b Ls ax am k1 k2 : Nat} {K L : Nat → Nat} {M : Mm} {xs : Nat → Int32} {i w1 w2 w3 w4 w5 : Int32} {x1 : (Int32 × Mm)} {x2 : (Int32 × Mm)} (o : cOk X cL_law RL (d + 1)) (hd : 200 ≤ d) (sX : va_X b Ls xs (cs X) (cs X).heap) (sb : b < (cs X).heap.size) (sB : cB X = (cs X).heap.size) (hk1 : K ax = 11) (hk2 : K am = 12) (q1 : vp_in (i + 1) Ls) (hw1 : xs (i + (1 : Int32)).toNatClampNeg = w1) (q2 : vp_in (i + 2) Ls) (hw2 : xs (i + (2 : Int32)).toNatClampNeg = w2) (q3 : vp_in (i + 3) Ls) (hw3 : xs (i + (3 : Int32)).toNatClampNeg = w3) (q4 : vp_in (i + 4) Ls) (hw4 : xs (i + (4 : Int32)).toNatClampNeg = w4) (q5 : vp_in (i + 5) Ls) (hw5 : xs (i + (5 : Int32)).toNatClampNeg = w5) (h1 : f_X11_budget K L ax w1 w2 w3 w4 (bz w5) M = some x1) (h2 : f_X12_budget K L am w1 w2 w3 w4 (bz w5) (x1.2) = some x2) (he : (x1.1) = (x2.1)) (hf : k1 ≤ (cR X).cells ∧ k2 ≤ (cR X).slots) (kk : gW X k1 k2 n K L (x2.2) 1780 [(0, va_rf (some b)), (1, va_rf (some ax)), (2, va_rf (some am)), (3, .int i)] []) : gW X k1 k2 n K L M 1070 [(0, va_rf (some b)), (1, va_rf (some ax)), (2, va_rf (some am)), (3, .int i)] [] := by
  by_cases z : w5 = 0
  · rw [bz_t z] at h1 h2
    refine g_aload_n o dL_law_1070 1 rfl ?_
    refine g_aload_n o dL_law_1071 0 rfl ?_
    refine g_iload_n o dL_law_1072 3 rfl ?_
    refine g_iconst (v := (1 : Int32)) o dL_law_1073 (by decide) ?_
    refine g_iadd o dL_law_1074 ?_
    refine g_sld (w := w1) o sX sb sB q1 hw1 dL_law_1075 ?_
    refine g_aload_n o dL_law_1076 0 rfl ?_
    refine g_iload_n o dL_law_1077 3 rfl ?_
    refine g_iconst (v := (2 : Int32)) o dL_law_1078 (by decide) ?_
    refine g_iadd o dL_law_1079 ?_
    refine g_sld (w := w2) o sX sb sB q2 hw2 dL_law_1080 ?_
    refine g_aload_n o dL_law_1081 0 rfl ?_
    refine g_iload_n o dL_law_1082 3 rfl ?_
    refine g_iconst (v := (3 : Int32)) o dL_law_1083 (by decide) ?_
    refine g_iadd o dL_law_1084 ?_
    refine g_sld (w := w3) o sX sb sB q3 hw3 dL_law_1085 ?_
    refine g_aload_n o dL_law_1086 0 rfl ?_
    refine g_iload_n o dL_law_1087 3 rfl ?_
    refine g_iconst (v := (4 : Int32)) o dL_law_1088 (by decide) ?_
    refine g_iadd o dL_law_1089 ?_
    refine g_sld (w := w4) o sX sb sB q4 hw4 dL_law_1090 ?_
    refine g_aload_n o dL_law_1091 0 rfl ?_
    refine g_iload_n o dL_law_1092 3 rfl ?_
    refine g_iconst (v := (5 : Int32)) o dL_law_1093 (by decide) ?_
    refine g_iadd o dL_law_1094 ?_
    refine g_sld (w := w5) o sX sb sB q5 hw5 dL_law_1095 ?_
    refine g_if_eq (tgt := 1103) o dL_law_1096 (by decide) (fun _ => ?_) (fun q => absurd z q)
    refine g_iconst (v := (0 : Int32)) o dL_law_1103 (by decide) ?_
    refine g_invV o (rc_self hk1) (by decide) ml_L_115 kb_X11_budget kv_X11_budget rfl (c_X11_budget (cq X) (cD X) (cY X) (cB X) (d := d) (by omega) hk1 h1) rfl rfl (by simp [cat_i, cat_l, cat_rf]) ⟨by omega, by omega⟩ dL_law_1104 ?_
    refine g_aload_n o dL_law_1107 2 rfl ?_
    refine g_aload_n o dL_law_1108 0 rfl ?_
    refine g_iload_n o dL_law_1109 3 rfl ?_
    refine g_iconst (v := (1 : Int32)) o dL_law_1110 (by decide) ?_
    refine g_iadd o dL_law_1111 ?_
    refine g_sld (w := w1) o sX sb sB q1 hw1 dL_law_1112 ?_
    refine g_aload_n o dL_law_1113 0 rfl ?_
    refine g_iload_n o dL_law_1114 3 rfl ?_
    refine g_iconst (v := (2 : Int32)) o dL_law_1115 (by decide) ?_
    refine g_iadd o dL_law_1116 ?_
    refine g_sld (w := w2) o sX sb sB q2 hw2 dL_law_1117 ?_
    refine g_aload_n o dL_law_1118 0 rfl ?_
    refine g_iload_n o dL_law_1119 3 rfl ?_
    refine g_iconst (v := (3 : Int32)) o dL_law_1120 (by decide) ?_
    refine g_iadd o dL_law_1121 ?_
    refine g_sld (w := w3) o sX sb sB q3 hw3 dL_law_1122 ?_
    refine g_aload_n o dL_law_1123 0 rfl ?_
    refine g_iload_n o dL_law_1124 3 rfl ?_
    refine g_iconst (v := (4 : Int32)) o dL_law_1125 (by decide) ?_
    refine g_iadd o dL_law_1126 ?_
    refine g_sld (w := w4) o sX sb sB q4 hw4 dL_law_1127 ?_
    refine g_aload_n o dL_law_1128 0 rfl ?_
    refine g_iload_n o dL_law_1129 3 rfl ?_
    refine g_iconst (v := (5 : Int32)) o dL_law_1130 (by decide) ?_
    refine g_iadd o dL_law_1131 ?_
    refine g_sld (w := w5) o sX sb sB q5 hw5 dL_law_1132 ?_
    refine g_if_eq (tgt := 1140) o dL_law_1133 (by decide) (fun _ => ?_) (fun q => absurd z q)
    refine g_iconst (v := (0 : Int32)) o dL_law_1140 (by decide) ?_
    refine g_invV o (rc_self hk2) (by decide) ml_L_119 kb_X12_budget kv_X12_budget rfl (c_X12_budget (cq X) (cD X) (cY X) (cB X) (d := d) (by omega) hk2 h2) rfl rfl (by simp [cat_i, cat_l, cat_rf]) ⟨by omega, by omega⟩ dL_law_1141 ?_
    refine g_icmp_eq (tgt := 1780) o dL_law_1144 (by decide) (fun _ => kk) (fun q => absurd he q)
  · rw [bz_f z] at h1 h2
    refine g_aload_n o dL_law_1070 1 rfl ?_
    refine g_aload_n o dL_law_1071 0 rfl ?_
    refine g_iload_n o dL_law_1072 3 rfl ?_
    refine g_iconst (v := (1 : Int32)) o dL_law_1073 (by decide) ?_
    refine g_iadd o dL_law_1074 ?_
    refine g_sld (w := w1) o sX sb sB q1 hw1 dL_law_1075 ?_
    refine g_aload_n o dL_law_1076 0 rfl ?_
    refine g_iload_n o dL_law_1077 3 rfl ?_
    refine g_iconst (v := (2 : Int32)) o dL_law_1078 (by decide) ?_
    refine g_iadd o dL_law_1079 ?_
    refine g_sld (w := w2) o sX sb sB q2 hw2 dL_law_1080 ?_
    refine g_aload_n o dL_law_1081 0 rfl ?_
    refine g_iload_n o dL_law_1082 3 rfl ?_
    refine g_iconst (v := (3 : Int32)) o dL_law_1083 (by decide) ?_
    refine g_iadd o dL_law_1084 ?_
    refine g_sld (w := w3) o sX sb sB q3 hw3 dL_law_1085 ?_
    refine g_aload_n o dL_law_1086 0 rfl ?_
    refine g_iload_n o dL_law_1087 3 rfl ?_
    refine g_iconst (v := (4 : Int32)) o dL_law_1088 (by decide) ?_
    refine g_iadd o dL_law_1089 ?_
    refine g_sld (w := w4) o sX sb sB q4 hw4 dL_law_1090 ?_
    refine g_aload_n o dL_law_1091 0 rfl ?_
    refine g_iload_n o dL_law_1092 3 rfl ?_
    refine g_iconst (v := (5 : Int32)) o dL_law_1093 (by decide) ?_
    refine g_iadd o dL_law_1094 ?_
    refine g_sld (w := w5) o sX sb sB q5 hw5 dL_law_1095 ?_
    refine g_if_eq (tgt := 1103) o dL_law_1096 (by decide) (fun q => absurd q z) (fun _ => ?_)
    refine g_iconst (v := (1 : Int32)) o dL_law_1099 (by decide) ?_
    refine g_goto (tgt := 1104) o dL_law_1100 (by decide) ?_
    refine g_invV o (rc_self hk1) (by decide) ml_L_115 kb_X11_budget kv_X11_budget rfl (c_X11_budget (cq X) (cD X) (cY X) (cB X) (d := d) (by omega) hk1 h1) rfl rfl (by simp [cat_i, cat_l, cat_rf]) ⟨by omega, by omega⟩ dL_law_1104 ?_
    refine g_aload_n o dL_law_1107 2 rfl ?_
    refine g_aload_n o dL_law_1108 0 rfl ?_
    refine g_iload_n o dL_law_1109 3 rfl ?_
    refine g_iconst (v := (1 : Int32)) o dL_law_1110 (by decide) ?_
    refine g_iadd o dL_law_1111 ?_
    refine g_sld (w := w1) o sX sb sB q1 hw1 dL_law_1112 ?_
    refine g_aload_n o dL_law_1113 0 rfl ?_
    refine g_iload_n o dL_law_1114 3 rfl ?_
    refine g_iconst (v := (2 : Int32)) o dL_law_1115 (by decide) ?_
    refine g_iadd o dL_law_1116 ?_
    refine g_sld (w := w2) o sX sb sB q2 hw2 dL_law_1117 ?_
    refine g_aload_n o dL_law_1118 0 rfl ?_
    refine g_iload_n o dL_law_1119 3 rfl ?_
    refine g_iconst (v := (3 : Int32)) o dL_law_1120 (by decide) ?_
    refine g_iadd o dL_law_1121 ?_
    refine g_sld (w := w3) o sX sb sB q3 hw3 dL_law_1122 ?_
    refine g_aload_n o dL_law_1123 0 rfl ?_
    refine g_iload_n o dL_law_1124 3 rfl ?_
    refine g_iconst (v := (4 : Int32)) o dL_law_1125 (by decide) ?_
    refine g_iadd o dL_law_1126 ?_
    refine g_sld (w := w4) o sX sb sB q4 hw4 dL_law_1127 ?_
    refine g_aload_n o dL_law_1128 0 rfl ?_
    refine g_iload_n o dL_law_1129 3 rfl ?_
    refine g_iconst (v := (5 : Int32)) o dL_law_1130 (by decide) ?_
    refine g_iadd o dL_law_1131 ?_
    refine g_sld (w := w5) o sX sb sB q5 hw5 dL_law_1132 ?_
    refine g_if_eq (tgt := 1140) o dL_law_1133 (by decide) (fun q => absurd q z) (fun _ => ?_)
    refine g_iconst (v := (1 : Int32)) o dL_law_1136 (by decide) ?_
    refine g_goto (tgt := 1141) o dL_law_1137 (by decide) ?_
    refine g_invV o (rc_self hk2) (by decide) ml_L_119 kb_X12_budget kv_X12_budget rfl (c_X12_budget (cq X) (cD X) (cY X) (cB X) (d := d) (by omega) hk2 h2) rfl rfl (by simp [cat_i, cat_l, cat_rf]) ⟨by omega, by omega⟩ dL_law_1141 ?_
    refine g_icmp_eq (tgt := 1780) o dL_law_1144 (by decide) (fun _ => kk) (fun q => absurd he q)
set_option maxHeartbeats 4000000 in
theorem lc_24 {X : Cx} {d n fu b Ls ax am k1 k2 : Nat} {K L : Nat → Nat} {M : Mm} {xs : Nat → Int32} {i w1 w2 : Int32} {x1 : (Int32 × Mm)} {x2 : (Int32 × Mm)} (o : cOk X cL_law RL (d + 1)) (hd : 200 ≤ d) (sX : va_X b Ls xs (cs X) (cs X).heap) (sb : b < (cs X).heap.size) (sB : cB X = (cs X).heap.size) (hk1 : K ax = 11) (hk2 : K am = 12) (q1 : vp_in (i + 1) Ls) (hw1 : xs (i + (1 : Int32)).toNatClampNeg = w1) (q2 : vp_in (i + 2) Ls) (hw2 : xs (i + (2 : Int32)).toNatClampNeg = w2) (h1 : f_X11_waits K L ax w1 w2 M = some x1) (h2 : f_X12_waits K L am w1 w2 (x1.2) = some x2) (he : (x1.1) = (x2.1)) (hf : k1 ≤ (cR X).cells ∧ k2 ≤ (cR X).slots) (kk : gW X k1 k2 n K L (x2.2) 1780 [(0, va_rf (some b)), (1, va_rf (some ax)), (2, va_rf (some am)), (3, .int i)] []) : gW X k1 k2 n K L M 1149 [(0, va_rf (some b)), (1, va_rf (some ax)), (2, va_rf (some am)), (3, .int i)] [] := by
  refine g_aload_n o dL_law_1149 1 rfl ?_
  refine g_aload_n o dL_law_1150 0 rfl ?_
  refine g_iload_n o dL_law_1151 3 rfl ?_
  refine g_iconst (v := (1 : Int32)) o dL_law_1152 (by decide) ?_
  refine g_iadd o dL_law_1153 ?_
  refine g_sld (w := w1) o sX sb sB q1 hw1 dL_law_1154 ?_
  refine g_aload_n o dL_law_1155 0 rfl ?_
  refine g_iload_n o dL_law_1156 3 rfl ?_
  refine g_iconst (v := (2 : Int32)) o dL_law_1157 (by decide) ?_
  refine g_iadd o dL_law_1158 ?_
  refine g_sld (w := w2) o sX sb sB q2 hw2 dL_law_1159 ?_
  refine g_invV o (rc_self hk1) (by decide) ml_L_120 kb_X11_waits kv_X11_waits rfl (c_X11_waits (cq X) (cD X) (cY X) (cB X) (d := d) (by omega) hk1 h1) rfl rfl (by simp [cat_i, cat_l, cat_rf]) ⟨by omega, by omega⟩ dL_law_1160 ?_
  refine g_aload_n o dL_law_1163 2 rfl ?_
  refine g_aload_n o dL_law_1164 0 rfl ?_
  refine g_iload_n o dL_law_1165 3 rfl ?_
  refine g_iconst (v := (1 : Int32)) o dL_law_1166 (by decide) ?_
  refine g_iadd o dL_law_1167 ?_
  refine g_sld (w := w1) o sX sb sB q1 hw1 dL_law_1168 ?_
  refine g_aload_n o dL_law_1169 0 rfl ?_
  refine g_iload_n o dL_law_1170 3 rfl ?_
  refine g_iconst (v := (2 : Int32)) o dL_law_1171 (by decide) ?_
  refine g_iadd o dL_law_1172 ?_
  refine g_sld (w := w2) o sX sb sB q2 hw2 dL_law_1173 ?_
  refine g_invV o (rc_self hk2) (by decide) ml_L_123 kb_X12_waits kv_X12_waits rfl (c_X12_waits (cq X) (cD X) (cY X) (cB X) (d := d) (by omega) hk2 h2) rfl rfl (by simp [cat_i, cat_l, cat_rf]) ⟨by omega, by omega⟩ dL_law_1174 ?_
  refine g_icmp_eq (tgt := 1780) o dL_law_1177 (by decide) (fun _ => kk) (fun q => absurd he q)
set_option maxHeartbeats 4000000 in
theorem lc_25 {X : Cx} {d n fu b Ls ax am k1 k2 : Nat} {K L : Nat → Nat} {M : Mm} {xs : Nat → Int32} {i w1 w2 w3 w4 w5 : Int32} {x1 : (Int32 × Mm)} {x2 : (Int32 × Mm)} (o : cOk X cL_law RL (d + 1)) (hd : 200 ≤ d) (sX : va_X b Ls xs (cs X) (cs X).heap) (sb : b < (cs X).heap.size) (sB : cB X = (cs X).heap.size) (hk1 : K ax = 11) (hk2 : K am = 12) (q1 : vp_in (i + 1) Ls) (hw1 : xs (i + (1 : Int32)).toNatClampNeg = w1) (q2 : vp_in (i + 2) Ls) (hw2 : xs (i + (2 : Int32)).toNatClampNeg = w2) (q3 : vp_in (i + 3) Ls) (hw3 : xs (i + (3 : Int32)).toNatClampNeg = w3) (q4 : vp_in (i + 4) Ls) (hw4 : xs (i + (4 : Int32)).toNatClampNeg = w4) (q5 : vp_in (i + 5) Ls) (hw5 : xs (i + (5 : Int32)).toNatClampNeg = w5) (h1 : f_X11_count K L fu ax w1 w2 w3 w4 w5 M = some x1) (h2 : f_X12_count K L fu am w1 w2 w3 w4 w5 (x1.2) = some x2) (he : (x1.1) = (x2.1)) (hf : k1 ≤ (cR X).cells ∧ k2 ≤ (cR X).slots) (kk : gW X k1 k2 n K L (x2.2) 1780 [(0, va_rf (some b)), (1, va_rf (some ax)), (2, va_rf (some am)), (3, .int i)] []) : gW X k1 k2 n K L M 1182 [(0, va_rf (some b)), (1, va_rf (some ax)), (2, va_rf (some am)), (3, .int i)] [] := by
  refine g_aload_n o dL_law_1182 1 rfl ?_
  refine g_aload_n o dL_law_1183 0 rfl ?_
  refine g_iload_n o dL_law_1184 3 rfl ?_
  refine g_iconst (v := (1 : Int32)) o dL_law_1185 (by decide) ?_
  refine g_iadd o dL_law_1186 ?_
  refine g_sld (w := w1) o sX sb sB q1 hw1 dL_law_1187 ?_
  refine g_aload_n o dL_law_1188 0 rfl ?_
  refine g_iload_n o dL_law_1189 3 rfl ?_
  refine g_iconst (v := (2 : Int32)) o dL_law_1190 (by decide) ?_
  refine g_iadd o dL_law_1191 ?_
  refine g_sld (w := w2) o sX sb sB q2 hw2 dL_law_1192 ?_
  refine g_aload_n o dL_law_1193 0 rfl ?_
  refine g_iload_n o dL_law_1194 3 rfl ?_
  refine g_iconst (v := (3 : Int32)) o dL_law_1195 (by decide) ?_
  refine g_iadd o dL_law_1196 ?_
  refine g_sld (w := w3) o sX sb sB q3 hw3 dL_law_1197 ?_
  refine g_aload_n o dL_law_1198 0 rfl ?_
  refine g_iload_n o dL_law_1199 3 rfl ?_
  refine g_iconst (v := (4 : Int32)) o dL_law_1200 (by decide) ?_
  refine g_iadd o dL_law_1201 ?_
  refine g_sld (w := w4) o sX sb sB q4 hw4 dL_law_1202 ?_
  refine g_aload_n o dL_law_1203 0 rfl ?_
  refine g_iload_n o dL_law_1204 3 rfl ?_
  refine g_iconst (v := (5 : Int32)) o dL_law_1205 (by decide) ?_
  refine g_iadd o dL_law_1206 ?_
  refine g_sld (w := w5) o sX sb sB q5 hw5 dL_law_1207 ?_
  refine g_invV o (rc_self hk1) (by decide) ml_L_124 kb_X11_count kv_X11_count rfl (c_X11_count (cq X) (cD X) (cY X) (cB X) (d := d) (by omega) hk1 h1) rfl rfl (by simp [cat_i, cat_l, cat_rf]) ⟨by omega, by omega⟩ dL_law_1208 ?_
  refine g_aload_n o dL_law_1211 2 rfl ?_
  refine g_aload_n o dL_law_1212 0 rfl ?_
  refine g_iload_n o dL_law_1213 3 rfl ?_
  refine g_iconst (v := (1 : Int32)) o dL_law_1214 (by decide) ?_
  refine g_iadd o dL_law_1215 ?_
  refine g_sld (w := w1) o sX sb sB q1 hw1 dL_law_1216 ?_
  refine g_aload_n o dL_law_1217 0 rfl ?_
  refine g_iload_n o dL_law_1218 3 rfl ?_
  refine g_iconst (v := (2 : Int32)) o dL_law_1219 (by decide) ?_
  refine g_iadd o dL_law_1220 ?_
  refine g_sld (w := w2) o sX sb sB q2 hw2 dL_law_1221 ?_
  refine g_aload_n o dL_law_1222 0 rfl ?_
  refine g_iload_n o dL_law_1223 3 rfl ?_
  refine g_iconst (v := (3 : Int32)) o dL_law_1224 (by decide) ?_
  refine g_iadd o dL_law_1225 ?_
  refine g_sld (w := w3) o sX sb sB q3 hw3 dL_law_1226 ?_
  refine g_aload_n o dL_law_1227 0 rfl ?_
  refine g_iload_n o dL_law_1228 3 rfl ?_
  refine g_iconst (v := (4 : Int32)) o dL_law_1229 (by decide) ?_
  refine g_iadd o dL_law_1230 ?_
  refine g_sld (w := w4) o sX sb sB q4 hw4 dL_law_1231 ?_
  refine g_aload_n o dL_law_1232 0 rfl ?_
  refine g_iload_n o dL_law_1233 3 rfl ?_
  refine g_iconst (v := (5 : Int32)) o dL_law_1234 (by decide) ?_
  refine g_iadd o dL_law_1235 ?_
  refine g_sld (w := w5) o sX sb sB q5 hw5 dL_law_1236 ?_
  refine g_invV o (rc_self hk2) (by decide) ml_L_127 kb_X12_count kv_X12_count rfl (c_X12_count (cq X) (cD X) (cY X) (cB X) (d := d) (by omega) hk2 h2) rfl rfl (by simp [cat_i, cat_l, cat_rf]) ⟨by omega, by omega⟩ dL_law_1237 ?_
  refine g_icmp_eq (tgt := 1780) o dL_law_1240 (by decide) (fun _ => kk) (fun q => absurd he q)
set_option maxHeartbeats 4000000 in
theorem lc_26 {X : Cx} {d n fu b Ls ax am k1 k2 : Nat} {K L : Nat → Nat} {M : Mm} {xs : Nat → Int32} {i w1 w2 w3 w4 : Int32} {x1 : (Int32 × Mm)} {x2 : (Int32 × Mm)} (o : cOk X cL_law RL (d + 1)) (hd : 200 ≤ d) (sX : va_X b Ls xs (cs X) (cs X).heap) (sb : b < (cs X).heap.size) (sB : cB X = (cs X).heap.size) (hk1 : K ax = 11) (hk2 : K am = 12) (q1 : vp_in (i + 1) Ls) (hw1 : xs (i + (1 : Int32)).toNatClampNeg = w1) (q2 : vp_in (i + 2) Ls) (hw2 : xs (i + (2 : Int32)).toNatClampNeg = w2) (q3 : vp_in (i + 3) Ls) (hw3 : xs (i + (3 : Int32)).toNatClampNeg = w3) (q4 : vp_in (i + 4) Ls) (hw4 : xs (i + (4 : Int32)).toNatClampNeg = w4) (h1 : f_X11_goods K L ax w1 w2 w3 w4 M = some x1) (h2 : f_X12_goods K L am w1 w2 w3 w4 (x1.2) = some x2) (he : (x1.1) = (x2.1)) (hf : k1 ≤ (cR X).cells ∧ k2 ≤ (cR X).slots) (kk : gW X k1 k2 n K L (x2.2) 1780 [(0, va_rf (some b)), (1, va_rf (some ax)), (2, va_rf (some am)), (3, .int i)] []) : gW X k1 k2 n K L M 1245 [(0, va_rf (some b)), (1, va_rf (some ax)), (2, va_rf (some am)), (3, .int i)] [] := by
  refine g_aload_n o dL_law_1245 1 rfl ?_
  refine g_aload_n o dL_law_1246 0 rfl ?_
  refine g_iload_n o dL_law_1247 3 rfl ?_
  refine g_iconst (v := (1 : Int32)) o dL_law_1248 (by decide) ?_
  refine g_iadd o dL_law_1249 ?_
  refine g_sld (w := w1) o sX sb sB q1 hw1 dL_law_1250 ?_
  refine g_aload_n o dL_law_1251 0 rfl ?_
  refine g_iload_n o dL_law_1252 3 rfl ?_
  refine g_iconst (v := (2 : Int32)) o dL_law_1253 (by decide) ?_
  refine g_iadd o dL_law_1254 ?_
  refine g_sld (w := w2) o sX sb sB q2 hw2 dL_law_1255 ?_
  refine g_aload_n o dL_law_1256 0 rfl ?_
  refine g_iload_n o dL_law_1257 3 rfl ?_
  refine g_iconst (v := (3 : Int32)) o dL_law_1258 (by decide) ?_
  refine g_iadd o dL_law_1259 ?_
  refine g_sld (w := w3) o sX sb sB q3 hw3 dL_law_1260 ?_
  refine g_aload_n o dL_law_1261 0 rfl ?_
  refine g_iload_n o dL_law_1262 3 rfl ?_
  refine g_iconst (v := (4 : Int32)) o dL_law_1263 (by decide) ?_
  refine g_iadd o dL_law_1264 ?_
  refine g_sld (w := w4) o sX sb sB q4 hw4 dL_law_1265 ?_
  refine g_invV o (rc_self hk1) (by decide) ml_L_128 kb_X11_goods kv_X11_goods rfl (c_X11_goods (cq X) (cD X) (cY X) (cB X) (d := d) (by omega) hk1 h1) rfl rfl (by simp [cat_i, cat_l, cat_rf]) ⟨by omega, by omega⟩ dL_law_1266 ?_
  refine g_aload_n o dL_law_1269 2 rfl ?_
  refine g_aload_n o dL_law_1270 0 rfl ?_
  refine g_iload_n o dL_law_1271 3 rfl ?_
  refine g_iconst (v := (1 : Int32)) o dL_law_1272 (by decide) ?_
  refine g_iadd o dL_law_1273 ?_
  refine g_sld (w := w1) o sX sb sB q1 hw1 dL_law_1274 ?_
  refine g_aload_n o dL_law_1275 0 rfl ?_
  refine g_iload_n o dL_law_1276 3 rfl ?_
  refine g_iconst (v := (2 : Int32)) o dL_law_1277 (by decide) ?_
  refine g_iadd o dL_law_1278 ?_
  refine g_sld (w := w2) o sX sb sB q2 hw2 dL_law_1279 ?_
  refine g_aload_n o dL_law_1280 0 rfl ?_
  refine g_iload_n o dL_law_1281 3 rfl ?_
  refine g_iconst (v := (3 : Int32)) o dL_law_1282 (by decide) ?_
  refine g_iadd o dL_law_1283 ?_
  refine g_sld (w := w3) o sX sb sB q3 hw3 dL_law_1284 ?_
  refine g_aload_n o dL_law_1285 0 rfl ?_
  refine g_iload_n o dL_law_1286 3 rfl ?_
  refine g_iconst (v := (4 : Int32)) o dL_law_1287 (by decide) ?_
  refine g_iadd o dL_law_1288 ?_
  refine g_sld (w := w4) o sX sb sB q4 hw4 dL_law_1289 ?_
  refine g_invV o (rc_self hk2) (by decide) ml_L_131 kb_X12_goods kv_X12_goods rfl (c_X12_goods (cq X) (cD X) (cY X) (cB X) (d := d) (by omega) hk2 h2) rfl rfl (by simp [cat_i, cat_l, cat_rf]) ⟨by omega, by omega⟩ dL_law_1290 ?_
  refine g_icmp_eq (tgt := 1780) o dL_law_1293 (by decide) (fun _ => kk) (fun q => absurd he q)
set_option maxHeartbeats 4000000 in
theorem lc_27 {X : Cx} {d n fu b Ls ax am k1 k2 : Nat} {K L : Nat → Nat} {M : Mm} {xs : Nat → Int32} {i w1 w2 w3 : Int32} {x1 : (Int32 × Mm)} {x2 : (Int32 × Mm)} (o : cOk X cL_law RL (d + 1)) (hd : 200 ≤ d) (sX : va_X b Ls xs (cs X) (cs X).heap) (sb : b < (cs X).heap.size) (sB : cB X = (cs X).heap.size) (hk1 : K ax = 11) (hk2 : K am = 12) (q1 : vp_in (i + 1) Ls) (hw1 : xs (i + (1 : Int32)).toNatClampNeg = w1) (q2 : vp_in (i + 2) Ls) (hw2 : xs (i + (2 : Int32)).toNatClampNeg = w2) (q3 : vp_in (i + 3) Ls) (hw3 : xs (i + (3 : Int32)).toNatClampNeg = w3) (h1 : f_X11_counts K L ax w1 w2 (bz w3) M = some x1) (h2 : f_X12_counts K L fu am w1 w2 (bz w3) (x1.2) = some x2) (he : (x1.1) = (x2.1)) (hf : k1 ≤ (cR X).cells ∧ k2 ≤ (cR X).slots) (kk : gW X k1 k2 n K L (x2.2) 1780 [(0, va_rf (some b)), (1, va_rf (some ax)), (2, va_rf (some am)), (3, .int i)] []) : gW X k1 k2 n K L M 1298 [(0, va_rf (some b)), (1, va_rf (some ax)), (2, va_rf (some am)), (3, .int i)] [] := by
  by_cases z : w3 = 0
  · rw [bz_t z] at h1 h2
    refine g_aload_n o dL_law_1298 1 rfl ?_
    refine g_aload_n o dL_law_1299 0 rfl ?_
    refine g_iload_n o dL_law_1300 3 rfl ?_
    refine g_iconst (v := (1 : Int32)) o dL_law_1301 (by decide) ?_
    refine g_iadd o dL_law_1302 ?_
    refine g_sld (w := w1) o sX sb sB q1 hw1 dL_law_1303 ?_
    refine g_aload_n o dL_law_1304 0 rfl ?_
    refine g_iload_n o dL_law_1305 3 rfl ?_
    refine g_iconst (v := (2 : Int32)) o dL_law_1306 (by decide) ?_
    refine g_iadd o dL_law_1307 ?_
    refine g_sld (w := w2) o sX sb sB q2 hw2 dL_law_1308 ?_
    refine g_aload_n o dL_law_1309 0 rfl ?_
    refine g_iload_n o dL_law_1310 3 rfl ?_
    refine g_iconst (v := (3 : Int32)) o dL_law_1311 (by decide) ?_
    refine g_iadd o dL_law_1312 ?_
    refine g_sld (w := w3) o sX sb sB q3 hw3 dL_law_1313 ?_
    refine g_if_eq (tgt := 1321) o dL_law_1314 (by decide) (fun _ => ?_) (fun q => absurd z q)
    refine g_iconst (v := (0 : Int32)) o dL_law_1321 (by decide) ?_
    refine g_invV o (rc_self hk1) (by decide) ml_L_132 kb_X11_counts kv_X11_counts rfl (c_X11_counts (cq X) (cD X) (cY X) (cB X) (d := d) (by omega) hk1 h1) rfl rfl (by simp [cat_i, cat_l, cat_rf]) ⟨by omega, by omega⟩ dL_law_1322 ?_
    refine g_aload_n o dL_law_1325 2 rfl ?_
    refine g_aload_n o dL_law_1326 0 rfl ?_
    refine g_iload_n o dL_law_1327 3 rfl ?_
    refine g_iconst (v := (1 : Int32)) o dL_law_1328 (by decide) ?_
    refine g_iadd o dL_law_1329 ?_
    refine g_sld (w := w1) o sX sb sB q1 hw1 dL_law_1330 ?_
    refine g_aload_n o dL_law_1331 0 rfl ?_
    refine g_iload_n o dL_law_1332 3 rfl ?_
    refine g_iconst (v := (2 : Int32)) o dL_law_1333 (by decide) ?_
    refine g_iadd o dL_law_1334 ?_
    refine g_sld (w := w2) o sX sb sB q2 hw2 dL_law_1335 ?_
    refine g_aload_n o dL_law_1336 0 rfl ?_
    refine g_iload_n o dL_law_1337 3 rfl ?_
    refine g_iconst (v := (3 : Int32)) o dL_law_1338 (by decide) ?_
    refine g_iadd o dL_law_1339 ?_
    refine g_sld (w := w3) o sX sb sB q3 hw3 dL_law_1340 ?_
    refine g_if_eq (tgt := 1348) o dL_law_1341 (by decide) (fun _ => ?_) (fun q => absurd z q)
    refine g_iconst (v := (0 : Int32)) o dL_law_1348 (by decide) ?_
    refine g_invV o (rc_self hk2) (by decide) ml_L_135 kb_X12_counts kv_X12_counts rfl (c_X12_counts (cq X) (cD X) (cY X) (cB X) (d := d) (by omega) hk2 h2) rfl rfl (by simp [cat_i, cat_l, cat_rf]) ⟨by omega, by omega⟩ dL_law_1349 ?_
    refine g_icmp_eq (tgt := 1780) o dL_law_1352 (by decide) (fun _ => kk) (fun q => absurd he q)
  · rw [bz_f z] at h1 h2
    refine g_aload_n o dL_law_1298 1 rfl ?_
    refine g_aload_n o dL_law_1299 0 rfl ?_
    refine g_iload_n o dL_law_1300 3 rfl ?_
    refine g_iconst (v := (1 : Int32)) o dL_law_1301 (by decide) ?_
    refine g_iadd o dL_law_1302 ?_
    refine g_sld (w := w1) o sX sb sB q1 hw1 dL_law_1303 ?_
    refine g_aload_n o dL_law_1304 0 rfl ?_
    refine g_iload_n o dL_law_1305 3 rfl ?_
    refine g_iconst (v := (2 : Int32)) o dL_law_1306 (by decide) ?_
    refine g_iadd o dL_law_1307 ?_
    refine g_sld (w := w2) o sX sb sB q2 hw2 dL_law_1308 ?_
    refine g_aload_n o dL_law_1309 0 rfl ?_
    refine g_iload_n o dL_law_1310 3 rfl ?_
    refine g_iconst (v := (3 : Int32)) o dL_law_1311 (by decide) ?_
    refine g_iadd o dL_law_1312 ?_
    refine g_sld (w := w3) o sX sb sB q3 hw3 dL_law_1313 ?_
    refine g_if_eq (tgt := 1321) o dL_law_1314 (by decide) (fun q => absurd q z) (fun _ => ?_)
    refine g_iconst (v := (1 : Int32)) o dL_law_1317 (by decide) ?_
    refine g_goto (tgt := 1322) o dL_law_1318 (by decide) ?_
    refine g_invV o (rc_self hk1) (by decide) ml_L_132 kb_X11_counts kv_X11_counts rfl (c_X11_counts (cq X) (cD X) (cY X) (cB X) (d := d) (by omega) hk1 h1) rfl rfl (by simp [cat_i, cat_l, cat_rf]) ⟨by omega, by omega⟩ dL_law_1322 ?_
    refine g_aload_n o dL_law_1325 2 rfl ?_
    refine g_aload_n o dL_law_1326 0 rfl ?_
    refine g_iload_n o dL_law_1327 3 rfl ?_
    refine g_iconst (v := (1 : Int32)) o dL_law_1328 (by decide) ?_
    refine g_iadd o dL_law_1329 ?_
    refine g_sld (w := w1) o sX sb sB q1 hw1 dL_law_1330 ?_
    refine g_aload_n o dL_law_1331 0 rfl ?_
    refine g_iload_n o dL_law_1332 3 rfl ?_
    refine g_iconst (v := (2 : Int32)) o dL_law_1333 (by decide) ?_
    refine g_iadd o dL_law_1334 ?_
    refine g_sld (w := w2) o sX sb sB q2 hw2 dL_law_1335 ?_
    refine g_aload_n o dL_law_1336 0 rfl ?_
    refine g_iload_n o dL_law_1337 3 rfl ?_
    refine g_iconst (v := (3 : Int32)) o dL_law_1338 (by decide) ?_
    refine g_iadd o dL_law_1339 ?_
    refine g_sld (w := w3) o sX sb sB q3 hw3 dL_law_1340 ?_
    refine g_if_eq (tgt := 1348) o dL_law_1341 (by decide) (fun q => absurd q z) (fun _ => ?_)
    refine g_iconst (v := (1 : Int32)) o dL_law_1344 (by decide) ?_
    refine g_goto (tgt := 1349) o dL_law_1345 (by decide) ?_
    refine g_invV o (rc_self hk2) (by decide) ml_L_135 kb_X12_counts kv_X12_counts rfl (c_X12_counts (cq X) (cD X) (cY X) (cB X) (d := d) (by omega) hk2 h2) rfl rfl (by simp [cat_i, cat_l, cat_rf]) ⟨by omega, by omega⟩ dL_law_1349 ?_
    refine g_icmp_eq (tgt := 1780) o dL_law_1352 (by decide) (fun _ => kk) (fun q => absurd he q)
set_option maxHeartbeats 4000000 in
theorem lc_28 {X : Cx} {d n fu b Ls ax am k1 k2 : Nat} {K L : Nat → Nat} {M : Mm} {xs : Nat → Int32} {i w1 w2 w3 w4 : Int32} {x1 : (Int32 × Mm)} {x2 : (Int32 × Mm)} (o : cOk X cL_law RL (d + 1)) (hd : 200 ≤ d) (sX : va_X b Ls xs (cs X) (cs X).heap) (sb : b < (cs X).heap.size) (sB : cB X = (cs X).heap.size) (hk1 : K ax = 11) (hk2 : K am = 12) (q1 : vp_in (i + 1) Ls) (hw1 : xs (i + (1 : Int32)).toNatClampNeg = w1) (q2 : vp_in (i + 2) Ls) (hw2 : xs (i + (2 : Int32)).toNatClampNeg = w2) (q3 : vp_in (i + 3) Ls) (hw3 : xs (i + (3 : Int32)).toNatClampNeg = w3) (q4 : vp_in (i + 4) Ls) (hw4 : xs (i + (4 : Int32)).toNatClampNeg = w4) (h1 : f_X11_told K L ax w1 w2 w3 w4 M = some x1) (h2 : f_X12_told K L am w1 w2 w3 w4 (x1.2) = some x2) (he : (x1.1) = (x2.1)) (hf : k1 ≤ (cR X).cells ∧ k2 ≤ (cR X).slots) (kk : gW X k1 k2 n K L (x2.2) 1780 [(0, va_rf (some b)), (1, va_rf (some ax)), (2, va_rf (some am)), (3, .int i)] []) : gW X k1 k2 n K L M 1357 [(0, va_rf (some b)), (1, va_rf (some ax)), (2, va_rf (some am)), (3, .int i)] [] := by
  refine g_aload_n o dL_law_1357 1 rfl ?_
  refine g_aload_n o dL_law_1358 0 rfl ?_
  refine g_iload_n o dL_law_1359 3 rfl ?_
  refine g_iconst (v := (1 : Int32)) o dL_law_1360 (by decide) ?_
  refine g_iadd o dL_law_1361 ?_
  refine g_sld (w := w1) o sX sb sB q1 hw1 dL_law_1362 ?_
  refine g_aload_n o dL_law_1363 0 rfl ?_
  refine g_iload_n o dL_law_1364 3 rfl ?_
  refine g_iconst (v := (2 : Int32)) o dL_law_1365 (by decide) ?_
  refine g_iadd o dL_law_1366 ?_
  refine g_sld (w := w2) o sX sb sB q2 hw2 dL_law_1367 ?_
  refine g_aload_n o dL_law_1368 0 rfl ?_
  refine g_iload_n o dL_law_1369 3 rfl ?_
  refine g_iconst (v := (3 : Int32)) o dL_law_1370 (by decide) ?_
  refine g_iadd o dL_law_1371 ?_
  refine g_sld (w := w3) o sX sb sB q3 hw3 dL_law_1372 ?_
  refine g_aload_n o dL_law_1373 0 rfl ?_
  refine g_iload_n o dL_law_1374 3 rfl ?_
  refine g_iconst (v := (4 : Int32)) o dL_law_1375 (by decide) ?_
  refine g_iadd o dL_law_1376 ?_
  refine g_sld (w := w4) o sX sb sB q4 hw4 dL_law_1377 ?_
  refine g_invV o (rc_self hk1) (by decide) ml_L_136 kb_X11_told kv_X11_told rfl (c_X11_told (cq X) (cD X) (cY X) (cB X) (d := d) (by omega) hk1 h1) rfl rfl (by simp [cat_i, cat_l, cat_rf]) ⟨by omega, by omega⟩ dL_law_1378 ?_
  refine g_aload_n o dL_law_1381 2 rfl ?_
  refine g_aload_n o dL_law_1382 0 rfl ?_
  refine g_iload_n o dL_law_1383 3 rfl ?_
  refine g_iconst (v := (1 : Int32)) o dL_law_1384 (by decide) ?_
  refine g_iadd o dL_law_1385 ?_
  refine g_sld (w := w1) o sX sb sB q1 hw1 dL_law_1386 ?_
  refine g_aload_n o dL_law_1387 0 rfl ?_
  refine g_iload_n o dL_law_1388 3 rfl ?_
  refine g_iconst (v := (2 : Int32)) o dL_law_1389 (by decide) ?_
  refine g_iadd o dL_law_1390 ?_
  refine g_sld (w := w2) o sX sb sB q2 hw2 dL_law_1391 ?_
  refine g_aload_n o dL_law_1392 0 rfl ?_
  refine g_iload_n o dL_law_1393 3 rfl ?_
  refine g_iconst (v := (3 : Int32)) o dL_law_1394 (by decide) ?_
  refine g_iadd o dL_law_1395 ?_
  refine g_sld (w := w3) o sX sb sB q3 hw3 dL_law_1396 ?_
  refine g_aload_n o dL_law_1397 0 rfl ?_
  refine g_iload_n o dL_law_1398 3 rfl ?_
  refine g_iconst (v := (4 : Int32)) o dL_law_1399 (by decide) ?_
  refine g_iadd o dL_law_1400 ?_
  refine g_sld (w := w4) o sX sb sB q4 hw4 dL_law_1401 ?_
  refine g_invV o (rc_self hk2) (by decide) ml_L_139 kb_X12_told kv_X12_told rfl (c_X12_told (cq X) (cD X) (cY X) (cB X) (d := d) (by omega) hk2 h2) rfl rfl (by simp [cat_i, cat_l, cat_rf]) ⟨by omega, by omega⟩ dL_law_1402 ?_
  refine g_icmp_eq (tgt := 1780) o dL_law_1405 (by decide) (fun _ => kk) (fun q => absurd he q)
set_option maxHeartbeats 4000000 in
theorem lc_29 {X : Cx} {d n fu b Ls ax am k1 k2 : Nat} {K L : Nat → Nat} {M : Mm} {xs : Nat → Int32} {i w1 w2 : Int32} {x1 : (Int32 × Mm)} {x2 : (Int32 × Mm)} (o : cOk X cL_law RL (d + 1)) (hd : 200 ≤ d) (sX : va_X b Ls xs (cs X) (cs X).heap) (sb : b < (cs X).heap.size) (sB : cB X = (cs X).heap.size) (hk1 : K ax = 11) (hk2 : K am = 12) (q1 : vp_in (i + 1) Ls) (hw1 : xs (i + (1 : Int32)).toNatClampNeg = w1) (q2 : vp_in (i + 2) Ls) (hw2 : xs (i + (2 : Int32)).toNatClampNeg = w2) (h1 : f_X11_left K L fu ax w1 w2 M = some x1) (h2 : f_X12_left K L fu am w1 w2 (x1.2) = some x2) (he : (x1.1) = (x2.1)) (hf : k1 ≤ (cR X).cells ∧ k2 ≤ (cR X).slots) (kk : gW X k1 k2 n K L (x2.2) 1780 [(0, va_rf (some b)), (1, va_rf (some ax)), (2, va_rf (some am)), (3, .int i)] []) : gW X k1 k2 n K L M 1410 [(0, va_rf (some b)), (1, va_rf (some ax)), (2, va_rf (some am)), (3, .int i)] [] := by
  refine g_aload_n o dL_law_1410 1 rfl ?_
  refine g_aload_n o dL_law_1411 0 rfl ?_
  refine g_iload_n o dL_law_1412 3 rfl ?_
  refine g_iconst (v := (1 : Int32)) o dL_law_1413 (by decide) ?_
  refine g_iadd o dL_law_1414 ?_
  refine g_sld (w := w1) o sX sb sB q1 hw1 dL_law_1415 ?_
  refine g_aload_n o dL_law_1416 0 rfl ?_
  refine g_iload_n o dL_law_1417 3 rfl ?_
  refine g_iconst (v := (2 : Int32)) o dL_law_1418 (by decide) ?_
  refine g_iadd o dL_law_1419 ?_
  refine g_sld (w := w2) o sX sb sB q2 hw2 dL_law_1420 ?_
  refine g_invV o (rc_self hk1) (by decide) ml_L_140 kb_X11_left kv_X11_left rfl (c_X11_left (cq X) (cD X) (cY X) (cB X) (d := d) (by omega) hk1 h1) rfl rfl (by simp [cat_i, cat_l, cat_rf]) ⟨by omega, by omega⟩ dL_law_1421 ?_
  refine g_aload_n o dL_law_1424 2 rfl ?_
  refine g_aload_n o dL_law_1425 0 rfl ?_
  refine g_iload_n o dL_law_1426 3 rfl ?_
  refine g_iconst (v := (1 : Int32)) o dL_law_1427 (by decide) ?_
  refine g_iadd o dL_law_1428 ?_
  refine g_sld (w := w1) o sX sb sB q1 hw1 dL_law_1429 ?_
  refine g_aload_n o dL_law_1430 0 rfl ?_
  refine g_iload_n o dL_law_1431 3 rfl ?_
  refine g_iconst (v := (2 : Int32)) o dL_law_1432 (by decide) ?_
  refine g_iadd o dL_law_1433 ?_
  refine g_sld (w := w2) o sX sb sB q2 hw2 dL_law_1434 ?_
  refine g_invV o (rc_self hk2) (by decide) ml_L_143 kb_X12_left kv_X12_left rfl (c_X12_left (cq X) (cD X) (cY X) (cB X) (d := d) (by omega) hk2 h2) rfl rfl (by simp [cat_i, cat_l, cat_rf]) ⟨by omega, by omega⟩ dL_law_1435 ?_
  refine g_icmp_eq (tgt := 1780) o dL_law_1438 (by decide) (fun _ => kk) (fun q => absurd he q)
set_option maxHeartbeats 4000000 in
theorem lc_30 {X : Cx} {d n fu b Ls ax am k1 k2 : Nat} {K L : Nat → Nat} {M : Mm} {xs : Nat → Int32} {i w1 w2 w3 w4 w5 : Int32} {x1 : (Int32 × Mm)} {x2 : (Int32 × Mm)} (o : cOk X cL_law RL (d + 1)) (hd : 200 ≤ d) (sX : va_X b Ls xs (cs X) (cs X).heap) (sb : b < (cs X).heap.size) (sB : cB X = (cs X).heap.size) (hk1 : K ax = 11) (hk2 : K am = 12) (q1 : vp_in (i + 1) Ls) (hw1 : xs (i + (1 : Int32)).toNatClampNeg = w1) (q2 : vp_in (i + 2) Ls) (hw2 : xs (i + (2 : Int32)).toNatClampNeg = w2) (q3 : vp_in (i + 3) Ls) (hw3 : xs (i + (3 : Int32)).toNatClampNeg = w3) (q4 : vp_in (i + 4) Ls) (hw4 : xs (i + (4 : Int32)).toNatClampNeg = w4) (q5 : vp_in (i + 5) Ls) (hw5 : xs (i + (5 : Int32)).toNatClampNeg = w5) (h1 : f_X11_trial K L ax w1 w2 w3 w4 w5 M = some x1) (h2 : f_X12_trial K L fu am w1 w2 w3 w4 w5 (x1.2) = some x2) (he : (x1.1) = (x2.1)) (hf : k1 ≤ (cR X).cells ∧ k2 ≤ (cR X).slots) (kk : gW X k1 k2 n K L (x2.2) 1780 [(0, va_rf (some b)), (1, va_rf (some ax)), (2, va_rf (some am)), (3, .int i)] []) : gW X k1 k2 n K L M 1443 [(0, va_rf (some b)), (1, va_rf (some ax)), (2, va_rf (some am)), (3, .int i)] [] := by
  refine g_aload_n o dL_law_1443 1 rfl ?_
  refine g_aload_n o dL_law_1444 0 rfl ?_
  refine g_iload_n o dL_law_1445 3 rfl ?_
  refine g_iconst (v := (1 : Int32)) o dL_law_1446 (by decide) ?_
  refine g_iadd o dL_law_1447 ?_
  refine g_sld (w := w1) o sX sb sB q1 hw1 dL_law_1448 ?_
  refine g_aload_n o dL_law_1449 0 rfl ?_
  refine g_iload_n o dL_law_1450 3 rfl ?_
  refine g_iconst (v := (2 : Int32)) o dL_law_1451 (by decide) ?_
  refine g_iadd o dL_law_1452 ?_
  refine g_sld (w := w2) o sX sb sB q2 hw2 dL_law_1453 ?_
  refine g_aload_n o dL_law_1454 0 rfl ?_
  refine g_iload_n o dL_law_1455 3 rfl ?_
  refine g_iconst (v := (3 : Int32)) o dL_law_1456 (by decide) ?_
  refine g_iadd o dL_law_1457 ?_
  refine g_sld (w := w3) o sX sb sB q3 hw3 dL_law_1458 ?_
  refine g_aload_n o dL_law_1459 0 rfl ?_
  refine g_iload_n o dL_law_1460 3 rfl ?_
  refine g_iconst (v := (4 : Int32)) o dL_law_1461 (by decide) ?_
  refine g_iadd o dL_law_1462 ?_
  refine g_sld (w := w4) o sX sb sB q4 hw4 dL_law_1463 ?_
  refine g_aload_n o dL_law_1464 0 rfl ?_
  refine g_iload_n o dL_law_1465 3 rfl ?_
  refine g_iconst (v := (5 : Int32)) o dL_law_1466 (by decide) ?_
  refine g_iadd o dL_law_1467 ?_
  refine g_sld (w := w5) o sX sb sB q5 hw5 dL_law_1468 ?_
  refine g_invV o (rc_self hk1) (by decide) ml_L_144 kb_X11_trial kv_X11_trial rfl (c_X11_trial (cq X) (cD X) (cY X) (cB X) (d := d) (by omega) hk1 h1) rfl rfl (by simp [cat_i, cat_l, cat_rf]) ⟨by omega, by omega⟩ dL_law_1469 ?_
  refine g_aload_n o dL_law_1472 2 rfl ?_
  refine g_aload_n o dL_law_1473 0 rfl ?_
  refine g_iload_n o dL_law_1474 3 rfl ?_
  refine g_iconst (v := (1 : Int32)) o dL_law_1475 (by decide) ?_
  refine g_iadd o dL_law_1476 ?_
  refine g_sld (w := w1) o sX sb sB q1 hw1 dL_law_1477 ?_
  refine g_aload_n o dL_law_1478 0 rfl ?_
  refine g_iload_n o dL_law_1479 3 rfl ?_
  refine g_iconst (v := (2 : Int32)) o dL_law_1480 (by decide) ?_
  refine g_iadd o dL_law_1481 ?_
  refine g_sld (w := w2) o sX sb sB q2 hw2 dL_law_1482 ?_
  refine g_aload_n o dL_law_1483 0 rfl ?_
  refine g_iload_n o dL_law_1484 3 rfl ?_
  refine g_iconst (v := (3 : Int32)) o dL_law_1485 (by decide) ?_
  refine g_iadd o dL_law_1486 ?_
  refine g_sld (w := w3) o sX sb sB q3 hw3 dL_law_1487 ?_
  refine g_aload_n o dL_law_1488 0 rfl ?_
  refine g_iload_n o dL_law_1489 3 rfl ?_
  refine g_iconst (v := (4 : Int32)) o dL_law_1490 (by decide) ?_
  refine g_iadd o dL_law_1491 ?_
  refine g_sld (w := w4) o sX sb sB q4 hw4 dL_law_1492 ?_
  refine g_aload_n o dL_law_1493 0 rfl ?_
  refine g_iload_n o dL_law_1494 3 rfl ?_
  refine g_iconst (v := (5 : Int32)) o dL_law_1495 (by decide) ?_
  refine g_iadd o dL_law_1496 ?_
  refine g_sld (w := w5) o sX sb sB q5 hw5 dL_law_1497 ?_
  refine g_invV o (rc_self hk2) (by decide) ml_L_147 kb_X12_trial kv_X12_trial rfl (c_X12_trial (cq X) (cD X) (cY X) (cB X) (d := d) (by omega) hk2 h2) rfl rfl (by simp [cat_i, cat_l, cat_rf]) ⟨by omega, by omega⟩ dL_law_1498 ?_
  refine g_icmp_eq (tgt := 1780) o dL_law_1501 (by decide) (fun _ => kk) (fun q => absurd he q)
set_option maxHeartbeats 4000000 in
theorem lc_31 {X : Cx} {d n fu b Ls ax am k1 k2 : Nat} {K L : Nat → Nat} {M : Mm} {xs : Nat → Int32} {i w1 w2 : Int32} {x1 : (Int32 × Mm)} {x2 : (Int32 × Mm)} (o : cOk X cL_law RL (d + 1)) (hd : 200 ≤ d) (sX : va_X b Ls xs (cs X) (cs X).heap) (sb : b < (cs X).heap.size) (sB : cB X = (cs X).heap.size) (hk1 : K ax = 11) (hk2 : K am = 12) (q1 : vp_in (i + 1) Ls) (hw1 : xs (i + (1 : Int32)).toNatClampNeg = w1) (q2 : vp_in (i + 2) Ls) (hw2 : xs (i + (2 : Int32)).toNatClampNeg = w2) (h1 : f_X11_look K L fu ax w1 w2 M = some x1) (h2 : f_X12_look K L fu am w1 w2 (x1.2) = some x2) (he : (x1.1) = (x2.1)) (hf : k1 ≤ (cR X).cells ∧ k2 ≤ (cR X).slots) (kk : gW X k1 k2 n K L (x2.2) 1780 [(0, va_rf (some b)), (1, va_rf (some ax)), (2, va_rf (some am)), (3, .int i)] []) : gW X k1 k2 n K L M 1506 [(0, va_rf (some b)), (1, va_rf (some ax)), (2, va_rf (some am)), (3, .int i)] [] := by
  refine g_aload_n o dL_law_1506 1 rfl ?_
  refine g_aload_n o dL_law_1507 0 rfl ?_
  refine g_iload_n o dL_law_1508 3 rfl ?_
  refine g_iconst (v := (1 : Int32)) o dL_law_1509 (by decide) ?_
  refine g_iadd o dL_law_1510 ?_
  refine g_sld (w := w1) o sX sb sB q1 hw1 dL_law_1511 ?_
  refine g_aload_n o dL_law_1512 0 rfl ?_
  refine g_iload_n o dL_law_1513 3 rfl ?_
  refine g_iconst (v := (2 : Int32)) o dL_law_1514 (by decide) ?_
  refine g_iadd o dL_law_1515 ?_
  refine g_sld (w := w2) o sX sb sB q2 hw2 dL_law_1516 ?_
  refine g_invV o (rc_self hk1) (by decide) ml_L_148 kb_X11_look kv_X11_look rfl (c_X11_look (cq X) (cD X) (cY X) (cB X) (d := d) (by omega) hk1 h1) rfl rfl (by simp [cat_i, cat_l, cat_rf]) ⟨by omega, by omega⟩ dL_law_1517 ?_
  refine g_aload_n o dL_law_1520 2 rfl ?_
  refine g_aload_n o dL_law_1521 0 rfl ?_
  refine g_iload_n o dL_law_1522 3 rfl ?_
  refine g_iconst (v := (1 : Int32)) o dL_law_1523 (by decide) ?_
  refine g_iadd o dL_law_1524 ?_
  refine g_sld (w := w1) o sX sb sB q1 hw1 dL_law_1525 ?_
  refine g_aload_n o dL_law_1526 0 rfl ?_
  refine g_iload_n o dL_law_1527 3 rfl ?_
  refine g_iconst (v := (2 : Int32)) o dL_law_1528 (by decide) ?_
  refine g_iadd o dL_law_1529 ?_
  refine g_sld (w := w2) o sX sb sB q2 hw2 dL_law_1530 ?_
  refine g_invV o (rc_self hk2) (by decide) ml_L_151 kb_X12_look kv_X12_look rfl (c_X12_look (cq X) (cD X) (cY X) (cB X) (d := d) (by omega) hk2 h2) rfl rfl (by simp [cat_i, cat_l, cat_rf]) ⟨by omega, by omega⟩ dL_law_1531 ?_
  refine g_icmp_eq (tgt := 1780) o dL_law_1534 (by decide) (fun _ => kk) (fun q => absurd he q)
set_option maxHeartbeats 4000000 in
theorem lc_32 {X : Cx} {d n fu b Ls ax am k1 k2 : Nat} {K L : Nat → Nat} {M : Mm} {xs : Nat → Int32} {i w1 w2 : Int32} {x1 : (Int32 × Mm)} {x2 : (Int32 × Mm)} (o : cOk X cL_law RL (d + 1)) (hd : 200 ≤ d) (sX : va_X b Ls xs (cs X) (cs X).heap) (sb : b < (cs X).heap.size) (sB : cB X = (cs X).heap.size) (hk1 : K ax = 11) (hk2 : K am = 12) (q1 : vp_in (i + 1) Ls) (hw1 : xs (i + (1 : Int32)).toNatClampNeg = w1) (q2 : vp_in (i + 2) Ls) (hw2 : xs (i + (2 : Int32)).toNatClampNeg = w2) (h1 : f_X11_trialTold K L ax w1 w2 M = some x1) (h2 : f_X12_trialTold K L am w1 w2 (x1.2) = some x2) (he : (x1.1) = (x2.1)) (hf : k1 ≤ (cR X).cells ∧ k2 ≤ (cR X).slots) (kk : gW X k1 k2 n K L (x2.2) 1780 [(0, va_rf (some b)), (1, va_rf (some ax)), (2, va_rf (some am)), (3, .int i)] []) : gW X k1 k2 n K L M 1539 [(0, va_rf (some b)), (1, va_rf (some ax)), (2, va_rf (some am)), (3, .int i)] [] := by
  refine g_aload_n o dL_law_1539 1 rfl ?_
  refine g_aload_n o dL_law_1540 0 rfl ?_
  refine g_iload_n o dL_law_1541 3 rfl ?_
  refine g_iconst (v := (1 : Int32)) o dL_law_1542 (by decide) ?_
  refine g_iadd o dL_law_1543 ?_
  refine g_sld (w := w1) o sX sb sB q1 hw1 dL_law_1544 ?_
  refine g_aload_n o dL_law_1545 0 rfl ?_
  refine g_iload_n o dL_law_1546 3 rfl ?_
  refine g_iconst (v := (2 : Int32)) o dL_law_1547 (by decide) ?_
  refine g_iadd o dL_law_1548 ?_
  refine g_sld (w := w2) o sX sb sB q2 hw2 dL_law_1549 ?_
  refine g_invV o (rc_self hk1) (by decide) ml_L_152 kb_X11_trialTold kv_X11_trialTold rfl (c_X11_trialTold (cq X) (cD X) (cY X) (cB X) (d := d) (by omega) hk1 h1) rfl rfl (by simp [cat_i, cat_l, cat_rf]) ⟨by omega, by omega⟩ dL_law_1550 ?_
  refine g_aload_n o dL_law_1553 2 rfl ?_
  refine g_aload_n o dL_law_1554 0 rfl ?_
  refine g_iload_n o dL_law_1555 3 rfl ?_
  refine g_iconst (v := (1 : Int32)) o dL_law_1556 (by decide) ?_
  refine g_iadd o dL_law_1557 ?_
  refine g_sld (w := w1) o sX sb sB q1 hw1 dL_law_1558 ?_
  refine g_aload_n o dL_law_1559 0 rfl ?_
  refine g_iload_n o dL_law_1560 3 rfl ?_
  refine g_iconst (v := (2 : Int32)) o dL_law_1561 (by decide) ?_
  refine g_iadd o dL_law_1562 ?_
  refine g_sld (w := w2) o sX sb sB q2 hw2 dL_law_1563 ?_
  refine g_invV o (rc_self hk2) (by decide) ml_L_155 kb_X12_trialTold kv_X12_trialTold rfl (c_X12_trialTold (cq X) (cD X) (cY X) (cB X) (d := d) (by omega) hk2 h2) rfl rfl (by simp [cat_i, cat_l, cat_rf]) ⟨by omega, by omega⟩ dL_law_1564 ?_
  refine g_icmp_eq (tgt := 1780) o dL_law_1567 (by decide) (fun _ => kk) (fun q => absurd he q)
set_option maxHeartbeats 4000000 in
theorem lc_33 {X : Cx} {d n fu b Ls ax am k1 k2 : Nat} {K L : Nat → Nat} {M : Mm} {xs : Nat → Int32} {i w1 w2 w3 w4 : Int32} {x1 : (Int32 × Mm)} {x2 : (Int32 × Mm)} (o : cOk X cL_law RL (d + 1)) (hd : 200 ≤ d) (sX : va_X b Ls xs (cs X) (cs X).heap) (sb : b < (cs X).heap.size) (sB : cB X = (cs X).heap.size) (hk1 : K ax = 11) (hk2 : K am = 12) (q1 : vp_in (i + 1) Ls) (hw1 : xs (i + (1 : Int32)).toNatClampNeg = w1) (q2 : vp_in (i + 2) Ls) (hw2 : xs (i + (2 : Int32)).toNatClampNeg = w2) (q3 : vp_in (i + 3) Ls) (hw3 : xs (i + (3 : Int32)).toNatClampNeg = w3) (q4 : vp_in (i + 4) Ls) (hw4 : xs (i + (4 : Int32)).toNatClampNeg = w4) (h1 : f_X11_among K L fu ax w1 w2 w3 w4 M = some x1) (h2 : f_X12_among K L fu am w1 w2 w3 w4 (x1.2) = some x2) (he : (x1.1) = (x2.1)) (hf : k1 ≤ (cR X).cells ∧ k2 ≤ (cR X).slots) (kk : gW X k1 k2 n K L (x2.2) 1780 [(0, va_rf (some b)), (1, va_rf (some ax)), (2, va_rf (some am)), (3, .int i)] []) : gW X k1 k2 n K L M 1572 [(0, va_rf (some b)), (1, va_rf (some ax)), (2, va_rf (some am)), (3, .int i)] [] := by
  refine g_aload_n o dL_law_1572 1 rfl ?_
  refine g_aload_n o dL_law_1573 0 rfl ?_
  refine g_iload_n o dL_law_1574 3 rfl ?_
  refine g_iconst (v := (1 : Int32)) o dL_law_1575 (by decide) ?_
  refine g_iadd o dL_law_1576 ?_
  refine g_sld (w := w1) o sX sb sB q1 hw1 dL_law_1577 ?_
  refine g_aload_n o dL_law_1578 0 rfl ?_
  refine g_iload_n o dL_law_1579 3 rfl ?_
  refine g_iconst (v := (2 : Int32)) o dL_law_1580 (by decide) ?_
  refine g_iadd o dL_law_1581 ?_
  refine g_sld (w := w2) o sX sb sB q2 hw2 dL_law_1582 ?_
  refine g_aload_n o dL_law_1583 0 rfl ?_
  refine g_iload_n o dL_law_1584 3 rfl ?_
  refine g_iconst (v := (3 : Int32)) o dL_law_1585 (by decide) ?_
  refine g_iadd o dL_law_1586 ?_
  refine g_sld (w := w3) o sX sb sB q3 hw3 dL_law_1587 ?_
  refine g_aload_n o dL_law_1588 0 rfl ?_
  refine g_iload_n o dL_law_1589 3 rfl ?_
  refine g_iconst (v := (4 : Int32)) o dL_law_1590 (by decide) ?_
  refine g_iadd o dL_law_1591 ?_
  refine g_sld (w := w4) o sX sb sB q4 hw4 dL_law_1592 ?_
  refine g_invV o (rc_self hk1) (by decide) ml_L_156 kb_X11_among kv_X11_among rfl (c_X11_among (cq X) (cD X) (cY X) (cB X) (d := d) (by omega) hk1 h1) rfl rfl (by simp [cat_i, cat_l, cat_rf]) ⟨by omega, by omega⟩ dL_law_1593 ?_
  refine g_aload_n o dL_law_1596 2 rfl ?_
  refine g_aload_n o dL_law_1597 0 rfl ?_
  refine g_iload_n o dL_law_1598 3 rfl ?_
  refine g_iconst (v := (1 : Int32)) o dL_law_1599 (by decide) ?_
  refine g_iadd o dL_law_1600 ?_
  refine g_sld (w := w1) o sX sb sB q1 hw1 dL_law_1601 ?_
  refine g_aload_n o dL_law_1602 0 rfl ?_
  refine g_iload_n o dL_law_1603 3 rfl ?_
  refine g_iconst (v := (2 : Int32)) o dL_law_1604 (by decide) ?_
  refine g_iadd o dL_law_1605 ?_
  refine g_sld (w := w2) o sX sb sB q2 hw2 dL_law_1606 ?_
  refine g_aload_n o dL_law_1607 0 rfl ?_
  refine g_iload_n o dL_law_1608 3 rfl ?_
  refine g_iconst (v := (3 : Int32)) o dL_law_1609 (by decide) ?_
  refine g_iadd o dL_law_1610 ?_
  refine g_sld (w := w3) o sX sb sB q3 hw3 dL_law_1611 ?_
  refine g_aload_n o dL_law_1612 0 rfl ?_
  refine g_iload_n o dL_law_1613 3 rfl ?_
  refine g_iconst (v := (4 : Int32)) o dL_law_1614 (by decide) ?_
  refine g_iadd o dL_law_1615 ?_
  refine g_sld (w := w4) o sX sb sB q4 hw4 dL_law_1616 ?_
  refine g_invV o (rc_self hk2) (by decide) ml_L_159 kb_X12_among kv_X12_among rfl (c_X12_among (cq X) (cD X) (cY X) (cB X) (d := d) (by omega) hk2 h2) rfl rfl (by simp [cat_i, cat_l, cat_rf]) ⟨by omega, by omega⟩ dL_law_1617 ?_
  refine g_icmp_eq (tgt := 1780) o dL_law_1620 (by decide) (fun _ => kk) (fun q => absurd he q)
set_option maxHeartbeats 4000000 in
theorem lc_34 {X : Cx} {d n fu b Ls ax am k1 k2 : Nat} {K L : Nat → Nat} {M : Mm} {xs : Nat → Int32} {i w1 w2 w3 w4 : Int32} {x1 : (Int32 × Mm)} {x2 : (Int32 × Mm)} (o : cOk X cL_law RL (d + 1)) (hd : 200 ≤ d) (sX : va_X b Ls xs (cs X) (cs X).heap) (sb : b < (cs X).heap.size) (sB : cB X = (cs X).heap.size) (hk1 : K ax = 11) (hk2 : K am = 12) (q1 : vp_in (i + 1) Ls) (hw1 : xs (i + (1 : Int32)).toNatClampNeg = w1) (q2 : vp_in (i + 2) Ls) (hw2 : xs (i + (2 : Int32)).toNatClampNeg = w2) (q3 : vp_in (i + 3) Ls) (hw3 : xs (i + (3 : Int32)).toNatClampNeg = w3) (q4 : vp_in (i + 4) Ls) (hw4 : xs (i + (4 : Int32)).toNatClampNeg = w4) (h1 : f_X11_both K L fu ax w1 w2 w3 w4 M = some x1) (h2 : f_X12_both K L fu am w1 w2 w3 w4 (x1.2) = some x2) (he : (x1.1) = (x2.1)) (hf : k1 ≤ (cR X).cells ∧ k2 ≤ (cR X).slots) (kk : gW X k1 k2 n K L (x2.2) 1780 [(0, va_rf (some b)), (1, va_rf (some ax)), (2, va_rf (some am)), (3, .int i)] []) : gW X k1 k2 n K L M 1625 [(0, va_rf (some b)), (1, va_rf (some ax)), (2, va_rf (some am)), (3, .int i)] [] := by
  refine g_aload_n o dL_law_1625 1 rfl ?_
  refine g_aload_n o dL_law_1626 0 rfl ?_
  refine g_iload_n o dL_law_1627 3 rfl ?_
  refine g_iconst (v := (1 : Int32)) o dL_law_1628 (by decide) ?_
  refine g_iadd o dL_law_1629 ?_
  refine g_sld (w := w1) o sX sb sB q1 hw1 dL_law_1630 ?_
  refine g_aload_n o dL_law_1631 0 rfl ?_
  refine g_iload_n o dL_law_1632 3 rfl ?_
  refine g_iconst (v := (2 : Int32)) o dL_law_1633 (by decide) ?_
  refine g_iadd o dL_law_1634 ?_
  refine g_sld (w := w2) o sX sb sB q2 hw2 dL_law_1635 ?_
  refine g_aload_n o dL_law_1636 0 rfl ?_
  refine g_iload_n o dL_law_1637 3 rfl ?_
  refine g_iconst (v := (3 : Int32)) o dL_law_1638 (by decide) ?_
  refine g_iadd o dL_law_1639 ?_
  refine g_sld (w := w3) o sX sb sB q3 hw3 dL_law_1640 ?_
  refine g_aload_n o dL_law_1641 0 rfl ?_
  refine g_iload_n o dL_law_1642 3 rfl ?_
  refine g_iconst (v := (4 : Int32)) o dL_law_1643 (by decide) ?_
  refine g_iadd o dL_law_1644 ?_
  refine g_sld (w := w4) o sX sb sB q4 hw4 dL_law_1645 ?_
  refine g_invV o (rc_self hk1) (by decide) ml_L_160 kb_X11_both kv_X11_both rfl (c_X11_both (cq X) (cD X) (cY X) (cB X) (d := d) (by omega) hk1 h1) rfl rfl (by simp [cat_i, cat_l, cat_rf]) ⟨by omega, by omega⟩ dL_law_1646 ?_
  refine g_aload_n o dL_law_1649 2 rfl ?_
  refine g_aload_n o dL_law_1650 0 rfl ?_
  refine g_iload_n o dL_law_1651 3 rfl ?_
  refine g_iconst (v := (1 : Int32)) o dL_law_1652 (by decide) ?_
  refine g_iadd o dL_law_1653 ?_
  refine g_sld (w := w1) o sX sb sB q1 hw1 dL_law_1654 ?_
  refine g_aload_n o dL_law_1655 0 rfl ?_
  refine g_iload_n o dL_law_1656 3 rfl ?_
  refine g_iconst (v := (2 : Int32)) o dL_law_1657 (by decide) ?_
  refine g_iadd o dL_law_1658 ?_
  refine g_sld (w := w2) o sX sb sB q2 hw2 dL_law_1659 ?_
  refine g_aload_n o dL_law_1660 0 rfl ?_
  refine g_iload_n o dL_law_1661 3 rfl ?_
  refine g_iconst (v := (3 : Int32)) o dL_law_1662 (by decide) ?_
  refine g_iadd o dL_law_1663 ?_
  refine g_sld (w := w3) o sX sb sB q3 hw3 dL_law_1664 ?_
  refine g_aload_n o dL_law_1665 0 rfl ?_
  refine g_iload_n o dL_law_1666 3 rfl ?_
  refine g_iconst (v := (4 : Int32)) o dL_law_1667 (by decide) ?_
  refine g_iadd o dL_law_1668 ?_
  refine g_sld (w := w4) o sX sb sB q4 hw4 dL_law_1669 ?_
  refine g_invV o (rc_self hk2) (by decide) ml_L_163 kb_X12_both kv_X12_both rfl (c_X12_both (cq X) (cD X) (cY X) (cB X) (d := d) (by omega) hk2 h2) rfl rfl (by simp [cat_i, cat_l, cat_rf]) ⟨by omega, by omega⟩ dL_law_1670 ?_
  refine g_icmp_eq (tgt := 1780) o dL_law_1673 (by decide) (fun _ => kk) (fun q => absurd he q)
set_option maxHeartbeats 4000000 in
theorem lc_35 {X : Cx} {d n fu b Ls ax am k1 k2 : Nat} {K L : Nat → Nat} {M : Mm} {xs : Nat → Int32} {i w1 w2 w3 w4 : Int32} {x1 : (Int32 × Mm)} {x2 : (Int32 × Mm)} (o : cOk X cL_law RL (d + 1)) (hd : 200 ≤ d) (sX : va_X b Ls xs (cs X) (cs X).heap) (sb : b < (cs X).heap.size) (sB : cB X = (cs X).heap.size) (hk1 : K ax = 11) (hk2 : K am = 12) (q1 : vp_in (i + 1) Ls) (hw1 : xs (i + (1 : Int32)).toNatClampNeg = w1) (q2 : vp_in (i + 2) Ls) (hw2 : xs (i + (2 : Int32)).toNatClampNeg = w2) (q3 : vp_in (i + 3) Ls) (hw3 : xs (i + (3 : Int32)).toNatClampNeg = w3) (q4 : vp_in (i + 4) Ls) (hw4 : xs (i + (4 : Int32)).toNatClampNeg = w4) (h1 : f_X11_moves K L fu ax w1 w2 w3 w4 M = some x1) (h2 : f_X12_moves K L fu am w1 w2 w3 w4 (x1.2) = some x2) (he : (x1.1) = (x2.1)) (hf : k1 ≤ (cR X).cells ∧ k2 ≤ (cR X).slots) (kk : gW X k1 k2 n K L (x2.2) 1780 [(0, va_rf (some b)), (1, va_rf (some ax)), (2, va_rf (some am)), (3, .int i)] []) : gW X k1 k2 n K L M 1678 [(0, va_rf (some b)), (1, va_rf (some ax)), (2, va_rf (some am)), (3, .int i)] [] := by
  refine g_aload_n o dL_law_1678 1 rfl ?_
  refine g_aload_n o dL_law_1679 0 rfl ?_
  refine g_iload_n o dL_law_1680 3 rfl ?_
  refine g_iconst (v := (1 : Int32)) o dL_law_1681 (by decide) ?_
  refine g_iadd o dL_law_1682 ?_
  refine g_sld (w := w1) o sX sb sB q1 hw1 dL_law_1683 ?_
  refine g_aload_n o dL_law_1684 0 rfl ?_
  refine g_iload_n o dL_law_1685 3 rfl ?_
  refine g_iconst (v := (2 : Int32)) o dL_law_1686 (by decide) ?_
  refine g_iadd o dL_law_1687 ?_
  refine g_sld (w := w2) o sX sb sB q2 hw2 dL_law_1688 ?_
  refine g_aload_n o dL_law_1689 0 rfl ?_
  refine g_iload_n o dL_law_1690 3 rfl ?_
  refine g_iconst (v := (3 : Int32)) o dL_law_1691 (by decide) ?_
  refine g_iadd o dL_law_1692 ?_
  refine g_sld (w := w3) o sX sb sB q3 hw3 dL_law_1693 ?_
  refine g_aload_n o dL_law_1694 0 rfl ?_
  refine g_iload_n o dL_law_1695 3 rfl ?_
  refine g_iconst (v := (4 : Int32)) o dL_law_1696 (by decide) ?_
  refine g_iadd o dL_law_1697 ?_
  refine g_sld (w := w4) o sX sb sB q4 hw4 dL_law_1698 ?_
  refine g_invV o (rc_self hk1) (by decide) ml_L_164 kb_X11_moves kv_X11_moves rfl (c_X11_moves (cq X) (cD X) (cY X) (cB X) (d := d) (by omega) hk1 h1) rfl rfl (by simp [cat_i, cat_l, cat_rf]) ⟨by omega, by omega⟩ dL_law_1699 ?_
  refine g_aload_n o dL_law_1702 2 rfl ?_
  refine g_aload_n o dL_law_1703 0 rfl ?_
  refine g_iload_n o dL_law_1704 3 rfl ?_
  refine g_iconst (v := (1 : Int32)) o dL_law_1705 (by decide) ?_
  refine g_iadd o dL_law_1706 ?_
  refine g_sld (w := w1) o sX sb sB q1 hw1 dL_law_1707 ?_
  refine g_aload_n o dL_law_1708 0 rfl ?_
  refine g_iload_n o dL_law_1709 3 rfl ?_
  refine g_iconst (v := (2 : Int32)) o dL_law_1710 (by decide) ?_
  refine g_iadd o dL_law_1711 ?_
  refine g_sld (w := w2) o sX sb sB q2 hw2 dL_law_1712 ?_
  refine g_aload_n o dL_law_1713 0 rfl ?_
  refine g_iload_n o dL_law_1714 3 rfl ?_
  refine g_iconst (v := (3 : Int32)) o dL_law_1715 (by decide) ?_
  refine g_iadd o dL_law_1716 ?_
  refine g_sld (w := w3) o sX sb sB q3 hw3 dL_law_1717 ?_
  refine g_aload_n o dL_law_1718 0 rfl ?_
  refine g_iload_n o dL_law_1719 3 rfl ?_
  refine g_iconst (v := (4 : Int32)) o dL_law_1720 (by decide) ?_
  refine g_iadd o dL_law_1721 ?_
  refine g_sld (w := w4) o sX sb sB q4 hw4 dL_law_1722 ?_
  refine g_invV o (rc_self hk2) (by decide) ml_L_167 kb_X12_moves kv_X12_moves rfl (c_X12_moves (cq X) (cD X) (cY X) (cB X) (d := d) (by omega) hk2 h2) rfl rfl (by simp [cat_i, cat_l, cat_rf]) ⟨by omega, by omega⟩ dL_law_1723 ?_
  refine g_icmp_eq (tgt := 1780) o dL_law_1726 (by decide) (fun _ => kk) (fun q => absurd he q)
set_option maxHeartbeats 4000000 in
theorem lc_36 {X : Cx} {d n fu b Ls ax am k1 k2 : Nat} {K L : Nat → Nat} {M : Mm} {xs : Nat → Int32} {i : Int32} {x1 : (Int32 × Nat × (Nat → Nat) × (Nat → Nat) × Mm)} {x2 : (Int32 × Mm)} (o : cOk X cL_law RL (d + 1)) (hd : 200 ≤ d) (sX : va_X b Ls xs (cs X) (cs X).heap) (sb : b < (cs X).heap.size) (sB : cB X = (cs X).heap.size) (hk1 : K ax = 11) (hk2 : K am = 12) (hk3 : x1.2.2.1 am = 12) (h1 : f_X11_image (cB X) fu n ax K L M = some x1) (h2 : f_X12_image (x1.2.2.1) (x1.2.2.2.1) fu am (x1.2.2.2.2) = some x2) (he : (x1.1) = (x2.1)) (hf : (k1 + (x1.2.1 - n)) ≤ (cR X).cells ∧ (k2 + 101 * (x1.2.1 - n)) ≤ (cR X).slots) (kk : gW X (k1 + (x1.2.1 - n)) (k2 + 101 * (x1.2.1 - n)) (x1.2.1) (x1.2.2.1) (x1.2.2.2.1) (x2.2) 1780 [(0, va_rf (some b)), (1, va_rf (some ax)), (2, va_rf (some am)), (3, .int i)] []) : gW X k1 k2 n K L M 1731 [(0, va_rf (some b)), (1, va_rf (some ax)), (2, va_rf (some am)), (3, .int i)] [] := by
  refine g_aload_n o dL_law_1731 1 rfl ?_
  refine g_invV o (rc_self hk1) (by decide) ml_L_168 kb_X11_image kv_X11_image rfl (c_X11_image (cq X) (cD X) (cY X) (cB X) (d := d) (by omega) hk1 h1) rfl rfl (by simp [cat_i, cat_l, cat_rf]) ⟨by omega, by omega⟩ dL_law_1732 ?_
  refine g_nrm (k1 := k1 + (x1.2.1 - n)) (k2 := k2 + 101 * (x1.2.1 - n)) (n := x1.2.1) rfl rfl rfl ?_
  refine g_aload_n o dL_law_1735 2 rfl ?_
  refine g_invV o (rc_self hk3) (by decide) ml_L_172 kb_X12_image kv_X12_image rfl (c_X12_image (cq X) (cD X) (cY X) (cB X) (d := d) (by omega) hk3 h2) rfl rfl (by simp [cat_i, cat_l, cat_rf]) ⟨by omega, by omega⟩ dL_law_1736 ?_
  refine g_icmp_eq (tgt := 1780) o dL_law_1739 (by decide) (fun _ => kk) (fun q => absurd he q)
set_option maxHeartbeats 4000000 in
theorem lc_37 {X : Cx} {d n fu b Ls ax am k1 k2 : Nat} {K L : Nat → Nat} {M : Mm} {xs : Nat → Int32} {i : Int32} {x1 : (Int32 × Nat × (Nat → Nat) × (Nat → Nat) × Mm)} {x2 : (Int32 × Mm)} (o : cOk X cL_law RL (d + 1)) (hd : 200 ≤ d) (sX : va_X b Ls xs (cs X) (cs X).heap) (sb : b < (cs X).heap.size) (sB : cB X = (cs X).heap.size) (hk1 : K ax = 11) (hk2 : K am = 12) (hk3 : x1.2.2.1 am = 12) (h1 : f_X11_restore (cB X) fu n ax K L M = some x1) (h2 : f_X12_restore (x1.2.2.1) (x1.2.2.2.1) fu am (x1.2.2.2.2) = some x2) (he : (x1.1) = (x2.1)) (hf : (k1 + (x1.2.1 - n)) ≤ (cR X).cells ∧ (k2 + 101 * (x1.2.1 - n)) ≤ (cR X).slots) (kk : gW X (k1 + (x1.2.1 - n)) (k2 + 101 * (x1.2.1 - n)) (x1.2.1) (x1.2.2.1) (x1.2.2.2.1) (x2.2) 1780 [(0, va_rf (some b)), (1, va_rf (some ax)), (2, va_rf (some am)), (3, .int i)] []) : gW X k1 k2 n K L M 1744 [(0, va_rf (some b)), (1, va_rf (some ax)), (2, va_rf (some am)), (3, .int i)] [] := by
  refine g_aload_n o dL_law_1744 1 rfl ?_
  refine g_invV o (rc_self hk1) (by decide) ml_L_173 kb_X11_restore kv_X11_restore rfl (c_X11_restore (cq X) (cD X) (cY X) (cB X) (d := d) (by omega) hk1 h1) rfl rfl (by simp [cat_i, cat_l, cat_rf]) ⟨by omega, by omega⟩ dL_law_1745 ?_
  refine g_nrm (k1 := k1 + (x1.2.1 - n)) (k2 := k2 + 101 * (x1.2.1 - n)) (n := x1.2.1) rfl rfl rfl ?_
  refine g_aload_n o dL_law_1748 2 rfl ?_
  refine g_invV o (rc_self hk3) (by decide) ml_L_176 kb_X12_restore kv_X12_restore rfl (c_X12_restore (cq X) (cD X) (cY X) (cB X) (d := d) (by omega) hk3 h2) rfl rfl (by simp [cat_i, cat_l, cat_rf]) ⟨by omega, by omega⟩ dL_law_1749 ?_
  refine g_icmp_eq (tgt := 1780) o dL_law_1752 (by decide) (fun _ => kk) (fun q => absurd he q)
set_option maxHeartbeats 4000000 in
theorem lc_38 {X : Cx} {d n fu b Ls ax am k1 k2 : Nat} {K L : Nat → Nat} {M : Mm} {xs : Nat → Int32} {i w1 : Int32} {x1 : (Int32 × Mm)} {x2 : (Int32 × Mm)} (o : cOk X cL_law RL (d + 1)) (hd : 200 ≤ d) (sX : va_X b Ls xs (cs X) (cs X).heap) (sb : b < (cs X).heap.size) (sB : cB X = (cs X).heap.size) (hk1 : K ax = 11) (hk2 : K am = 12) (q1 : vp_in (i + 1) Ls) (hw1 : xs (i + (1 : Int32)).toNatClampNeg = w1) (h1 : f_X11_status K L ax w1 M = some x1) (h2 : f_X12_status K L am w1 (x1.2) = some x2) (he : (x1.1) = (x2.1)) (hf : k1 ≤ (cR X).cells ∧ k2 ≤ (cR X).slots) (kk : gW X k1 k2 n K L (x2.2) 1780 [(0, va_rf (some b)), (1, va_rf (some ax)), (2, va_rf (some am)), (3, .int i)] []) : gW X k1 k2 n K L M 1757 [(0, va_rf (some b)), (1, va_rf (some ax)), (2, va_rf (some am)), (3, .int i)] [] := by
  refine g_aload_n o dL_law_1757 1 rfl ?_
  refine g_aload_n o dL_law_1758 0 rfl ?_
  refine g_iload_n o dL_law_1759 3 rfl ?_
  refine g_iconst (v := (1 : Int32)) o dL_law_1760 (by decide) ?_
  refine g_iadd o dL_law_1761 ?_
  refine g_sld (w := w1) o sX sb sB q1 hw1 dL_law_1762 ?_
  refine g_invV o (rc_self hk1) (by decide) ml_L_177 kb_X11_status kv_X11_status rfl (c_X11_status (cq X) (cD X) (cY X) (cB X) (d := d) (by omega) hk1 h1) rfl rfl (by simp [cat_i, cat_l, cat_rf]) ⟨by omega, by omega⟩ dL_law_1763 ?_
  refine g_aload_n o dL_law_1766 2 rfl ?_
  refine g_aload_n o dL_law_1767 0 rfl ?_
  refine g_iload_n o dL_law_1768 3 rfl ?_
  refine g_iconst (v := (1 : Int32)) o dL_law_1769 (by decide) ?_
  refine g_iadd o dL_law_1770 ?_
  refine g_sld (w := w1) o sX sb sB q1 hw1 dL_law_1771 ?_
  refine g_invV o (rc_self hk2) (by decide) ml_L_180 kb_X12_status kv_X12_status rfl (c_X12_status (cq X) (cD X) (cY X) (cB X) (d := d) (by omega) hk2 h2) rfl rfl (by simp [cat_i, cat_l, cat_rf]) ⟨by omega, by omega⟩ dL_law_1772 ?_
  refine g_icmp_eq (tgt := 1780) o dL_law_1775 (by decide) (fun _ => kk) (fun q => absurd he q)
set_option maxHeartbeats 4000000 in
theorem ld_all {X : Cx} {d n b Ls ax am k1 k2 : Nat} {K L : Nat → Nat} {M : Mm} {xs : Nat → Int32} {i w0 : Int32} (o : cOk X cL_law RL (d + 1)) (sX : va_X b Ls xs (cs X) (cs X).heap) (sb : b < (cs X).heap.size) (sB : cB X = (cs X).heap.size) (q0 : vp_in i Ls) (hw0 : xs i.toNatClampNeg = w0) (k_0 : w0 &&& 63 = 0 → gW X k1 k2 n K L M 204 [(0, va_rf (some b)), (1, va_rf (some ax)), (2, va_rf (some am)), (3, .int i)] []) (k_1 : w0 &&& 63 = 1 → gW X k1 k2 n K L M 257 [(0, va_rf (some b)), (1, va_rf (some ax)), (2, va_rf (some am)), (3, .int i)] []) (k_2 : w0 &&& 63 = 2 → gW X k1 k2 n K L M 280 [(0, va_rf (some b)), (1, va_rf (some ax)), (2, va_rf (some am)), (3, .int i)] []) (k_3 : w0 &&& 63 = 3 → gW X k1 k2 n K L M 303 [(0, va_rf (some b)), (1, va_rf (some ax)), (2, va_rf (some am)), (3, .int i)] []) (k_4 : w0 &&& 63 = 4 → gW X k1 k2 n K L M 326 [(0, va_rf (some b)), (1, va_rf (some ax)), (2, va_rf (some am)), (3, .int i)] []) (k_5 : w0 &&& 63 = 5 → gW X k1 k2 n K L M 379 [(0, va_rf (some b)), (1, va_rf (some ax)), (2, va_rf (some am)), (3, .int i)] []) (k_6 : w0 &&& 63 = 6 → gW X k1 k2 n K L M 442 [(0, va_rf (some b)), (1, va_rf (some ax)), (2, va_rf (some am)), (3, .int i)] []) (k_7 : w0 &&& 63 = 7 → gW X k1 k2 n K L M 465 [(0, va_rf (some b)), (1, va_rf (some ax)), (2, va_rf (some am)), (3, .int i)] []) (k_8 : w0 &&& 63 = 8 → gW X k1 k2 n K L M 488 [(0, va_rf (some b)), (1, va_rf (some ax)), (2, va_rf (some am)), (3, .int i)] []) (k_9 : w0 &&& 63 = 9 → gW X k1 k2 n K L M 512 [(0, va_rf (some b)), (1, va_rf (some ax)), (2, va_rf (some am)), (3, .int i)] []) (k_10 : w0 &&& 63 = 10 → gW X k1 k2 n K L M 575 [(0, va_rf (some b)), (1, va_rf (some ax)), (2, va_rf (some am)), (3, .int i)] []) (k_11 : w0 &&& 63 = 11 → gW X k1 k2 n K L M 598 [(0, va_rf (some b)), (1, va_rf (some ax)), (2, va_rf (some am)), (3, .int i)] []) (k_12 : w0 &&& 63 = 12 → gW X k1 k2 n K L M 651 [(0, va_rf (some b)), (1, va_rf (some ax)), (2, va_rf (some am)), (3, .int i)] []) (k_13 : w0 &&& 63 = 13 → gW X k1 k2 n K L M 694 [(0, va_rf (some b)), (1, va_rf (some ax)), (2, va_rf (some am)), (3, .int i)] []) (k_14 : w0 &&& 63 = 14 → gW X k1 k2 n K L M 737 [(0, va_rf (some b)), (1, va_rf (some ax)), (2, va_rf (some am)), (3, .int i)] []) (k_15 : w0 &&& 63 = 15 → gW X k1 k2 n K L M 796 [(0, va_rf (some b)), (1, va_rf (some ax)), (2, va_rf (some am)), (3, .int i)] []) (k_16 : w0 &&& 63 = 16 → gW X k1 k2 n K L M 819 [(0, va_rf (some b)), (1, va_rf (some ax)), (2, va_rf (some am)), (3, .int i)] []) (k_17 : w0 &&& 63 = 17 → gW X k1 k2 n K L M 852 [(0, va_rf (some b)), (1, va_rf (some ax)), (2, va_rf (some am)), (3, .int i)] []) (k_18 : w0 &&& 63 = 18 → gW X k1 k2 n K L M 875 [(0, va_rf (some b)), (1, va_rf (some ax)), (2, va_rf (some am)), (3, .int i)] []) (k_19 : w0 &&& 63 = 19 → gW X k1 k2 n K L M 918 [(0, va_rf (some b)), (1, va_rf (some ax)), (2, va_rf (some am)), (3, .int i)] []) (k_20 : w0 &&& 63 = 20 → gW X k1 k2 n K L M 981 [(0, va_rf (some b)), (1, va_rf (some ax)), (2, va_rf (some am)), (3, .int i)] []) (k_21 : w0 &&& 63 = 21 → gW X k1 k2 n K L M 1014 [(0, va_rf (some b)), (1, va_rf (some ax)), (2, va_rf (some am)), (3, .int i)] []) (k_22 : w0 &&& 63 = 22 → gW X k1 k2 n K L M 1037 [(0, va_rf (some b)), (1, va_rf (some ax)), (2, va_rf (some am)), (3, .int i)] []) (k_23 : w0 &&& 63 = 23 → gW X k1 k2 n K L M 1070 [(0, va_rf (some b)), (1, va_rf (some ax)), (2, va_rf (some am)), (3, .int i)] []) (k_24 : w0 &&& 63 = 24 → gW X k1 k2 n K L M 1149 [(0, va_rf (some b)), (1, va_rf (some ax)), (2, va_rf (some am)), (3, .int i)] []) (k_25 : w0 &&& 63 = 25 → gW X k1 k2 n K L M 1182 [(0, va_rf (some b)), (1, va_rf (some ax)), (2, va_rf (some am)), (3, .int i)] []) (k_26 : w0 &&& 63 = 26 → gW X k1 k2 n K L M 1245 [(0, va_rf (some b)), (1, va_rf (some ax)), (2, va_rf (some am)), (3, .int i)] []) (k_27 : w0 &&& 63 = 27 → gW X k1 k2 n K L M 1298 [(0, va_rf (some b)), (1, va_rf (some ax)), (2, va_rf (some am)), (3, .int i)] []) (k_28 : w0 &&& 63 = 28 → gW X k1 k2 n K L M 1357 [(0, va_rf (some b)), (1, va_rf (some ax)), (2, va_rf (some am)), (3, .int i)] []) (k_29 : w0 &&& 63 = 29 → gW X k1 k2 n K L M 1410 [(0, va_rf (some b)), (1, va_rf (some ax)), (2, va_rf (some am)), (3, .int i)] []) (k_30 : w0 &&& 63 = 30 → gW X k1 k2 n K L M 1443 [(0, va_rf (some b)), (1, va_rf (some ax)), (2, va_rf (some am)), (3, .int i)] []) (k_31 : w0 &&& 63 = 31 → gW X k1 k2 n K L M 1506 [(0, va_rf (some b)), (1, va_rf (some ax)), (2, va_rf (some am)), (3, .int i)] []) (k_32 : w0 &&& 63 = 32 → gW X k1 k2 n K L M 1539 [(0, va_rf (some b)), (1, va_rf (some ax)), (2, va_rf (some am)), (3, .int i)] []) (k_33 : w0 &&& 63 = 33 → gW X k1 k2 n K L M 1572 [(0, va_rf (some b)), (1, va_rf (some ax)), (2, va_rf (some am)), (3, .int i)] []) (k_34 : w0 &&& 63 = 34 → gW X k1 k2 n K L M 1625 [(0, va_rf (some b)), (1, va_rf (some ax)), (2, va_rf (some am)), (3, .int i)] []) (k_35 : w0 &&& 63 = 35 → gW X k1 k2 n K L M 1678 [(0, va_rf (some b)), (1, va_rf (some ax)), (2, va_rf (some am)), (3, .int i)] []) (k_36 : w0 &&& 63 = 36 → gW X k1 k2 n K L M 1731 [(0, va_rf (some b)), (1, va_rf (some ax)), (2, va_rf (some am)), (3, .int i)] []) (k_37 : w0 &&& 63 = 37 → gW X k1 k2 n K L M 1744 [(0, va_rf (some b)), (1, va_rf (some ax)), (2, va_rf (some am)), (3, .int i)] []) (k_38 : w0 &&& 63 = 38 → gW X k1 k2 n K L M 1757 [(0, va_rf (some b)), (1, va_rf (some ax)), (2, va_rf (some am)), (3, .int i)] []) (kd : gW X k1 k2 n K L M 1780 [(0, va_rf (some b)), (1, va_rf (some ax)), (2, va_rf (some am)), (3, .int i)] []) : gW X k1 k2 n K L M 27 [(0, va_rf (some b)), (1, va_rf (some ax)), (2, va_rf (some am)), (3, .int i)] [] := by
  refine g_aload_n o dL_law_27 0 rfl ?_
  refine g_iload_n o dL_law_28 3 rfl ?_
  refine g_sld (w := w0) o sX sb sB q0 hw0 dL_law_29 ?_
  refine g_bipush (v := (63 : Int32)) o dL_law_30 (by decide) ?_
  refine g_iand o dL_law_32 ?_
  by_cases z0 : w0 &&& 63 = (0 : Int32)
  · exact g_tableIn (tgt := 204) o dL_law_33 (by rw [z0]; decide) (by rw [z0]; decide) (by first | (rw [z0]; done) | (rw [z0]; rfl)) (by decide) (k_0 z0)
  by_cases z1 : w0 &&& 63 = (1 : Int32)
  · exact g_tableIn (tgt := 257) o dL_law_33 (by rw [z1]; decide) (by rw [z1]; decide) (by first | (rw [z1]; done) | (rw [z1]; rfl)) (by decide) (k_1 z1)
  by_cases z2 : w0 &&& 63 = (2 : Int32)
  · exact g_tableIn (tgt := 280) o dL_law_33 (by rw [z2]; decide) (by rw [z2]; decide) (by first | (rw [z2]; done) | (rw [z2]; rfl)) (by decide) (k_2 z2)
  by_cases z3 : w0 &&& 63 = (3 : Int32)
  · exact g_tableIn (tgt := 303) o dL_law_33 (by rw [z3]; decide) (by rw [z3]; decide) (by first | (rw [z3]; done) | (rw [z3]; rfl)) (by decide) (k_3 z3)
  by_cases z4 : w0 &&& 63 = (4 : Int32)
  · exact g_tableIn (tgt := 326) o dL_law_33 (by rw [z4]; decide) (by rw [z4]; decide) (by first | (rw [z4]; done) | (rw [z4]; rfl)) (by decide) (k_4 z4)
  by_cases z5 : w0 &&& 63 = (5 : Int32)
  · exact g_tableIn (tgt := 379) o dL_law_33 (by rw [z5]; decide) (by rw [z5]; decide) (by first | (rw [z5]; done) | (rw [z5]; rfl)) (by decide) (k_5 z5)
  by_cases z6 : w0 &&& 63 = (6 : Int32)
  · exact g_tableIn (tgt := 442) o dL_law_33 (by rw [z6]; decide) (by rw [z6]; decide) (by first | (rw [z6]; done) | (rw [z6]; rfl)) (by decide) (k_6 z6)
  by_cases z7 : w0 &&& 63 = (7 : Int32)
  · exact g_tableIn (tgt := 465) o dL_law_33 (by rw [z7]; decide) (by rw [z7]; decide) (by first | (rw [z7]; done) | (rw [z7]; rfl)) (by decide) (k_7 z7)
  by_cases z8 : w0 &&& 63 = (8 : Int32)
  · exact g_tableIn (tgt := 488) o dL_law_33 (by rw [z8]; decide) (by rw [z8]; decide) (by first | (rw [z8]; done) | (rw [z8]; rfl)) (by decide) (k_8 z8)
  by_cases z9 : w0 &&& 63 = (9 : Int32)
  · exact g_tableIn (tgt := 512) o dL_law_33 (by rw [z9]; decide) (by rw [z9]; decide) (by first | (rw [z9]; done) | (rw [z9]; rfl)) (by decide) (k_9 z9)
  by_cases z10 : w0 &&& 63 = (10 : Int32)
  · exact g_tableIn (tgt := 575) o dL_law_33 (by rw [z10]; decide) (by rw [z10]; decide) (by first | (rw [z10]; done) | (rw [z10]; rfl)) (by decide) (k_10 z10)
  by_cases z11 : w0 &&& 63 = (11 : Int32)
  · exact g_tableIn (tgt := 598) o dL_law_33 (by rw [z11]; decide) (by rw [z11]; decide) (by first | (rw [z11]; done) | (rw [z11]; rfl)) (by decide) (k_11 z11)
  by_cases z12 : w0 &&& 63 = (12 : Int32)
  · exact g_tableIn (tgt := 651) o dL_law_33 (by rw [z12]; decide) (by rw [z12]; decide) (by first | (rw [z12]; done) | (rw [z12]; rfl)) (by decide) (k_12 z12)
  by_cases z13 : w0 &&& 63 = (13 : Int32)
  · exact g_tableIn (tgt := 694) o dL_law_33 (by rw [z13]; decide) (by rw [z13]; decide) (by first | (rw [z13]; done) | (rw [z13]; rfl)) (by decide) (k_13 z13)
  by_cases z14 : w0 &&& 63 = (14 : Int32)
  · exact g_tableIn (tgt := 737) o dL_law_33 (by rw [z14]; decide) (by rw [z14]; decide) (by first | (rw [z14]; done) | (rw [z14]; rfl)) (by decide) (k_14 z14)
  by_cases z15 : w0 &&& 63 = (15 : Int32)
  · exact g_tableIn (tgt := 796) o dL_law_33 (by rw [z15]; decide) (by rw [z15]; decide) (by first | (rw [z15]; done) | (rw [z15]; rfl)) (by decide) (k_15 z15)
  by_cases z16 : w0 &&& 63 = (16 : Int32)
  · exact g_tableIn (tgt := 819) o dL_law_33 (by rw [z16]; decide) (by rw [z16]; decide) (by first | (rw [z16]; done) | (rw [z16]; rfl)) (by decide) (k_16 z16)
  by_cases z17 : w0 &&& 63 = (17 : Int32)
  · exact g_tableIn (tgt := 852) o dL_law_33 (by rw [z17]; decide) (by rw [z17]; decide) (by first | (rw [z17]; done) | (rw [z17]; rfl)) (by decide) (k_17 z17)
  by_cases z18 : w0 &&& 63 = (18 : Int32)
  · exact g_tableIn (tgt := 875) o dL_law_33 (by rw [z18]; decide) (by rw [z18]; decide) (by first | (rw [z18]; done) | (rw [z18]; rfl)) (by decide) (k_18 z18)
  by_cases z19 : w0 &&& 63 = (19 : Int32)
  · exact g_tableIn (tgt := 918) o dL_law_33 (by rw [z19]; decide) (by rw [z19]; decide) (by first | (rw [z19]; done) | (rw [z19]; rfl)) (by decide) (k_19 z19)
  by_cases z20 : w0 &&& 63 = (20 : Int32)
  · exact g_tableIn (tgt := 981) o dL_law_33 (by rw [z20]; decide) (by rw [z20]; decide) (by first | (rw [z20]; done) | (rw [z20]; rfl)) (by decide) (k_20 z20)
  by_cases z21 : w0 &&& 63 = (21 : Int32)
  · exact g_tableIn (tgt := 1014) o dL_law_33 (by rw [z21]; decide) (by rw [z21]; decide) (by first | (rw [z21]; done) | (rw [z21]; rfl)) (by decide) (k_21 z21)
  by_cases z22 : w0 &&& 63 = (22 : Int32)
  · exact g_tableIn (tgt := 1037) o dL_law_33 (by rw [z22]; decide) (by rw [z22]; decide) (by first | (rw [z22]; done) | (rw [z22]; rfl)) (by decide) (k_22 z22)
  by_cases z23 : w0 &&& 63 = (23 : Int32)
  · exact g_tableIn (tgt := 1070) o dL_law_33 (by rw [z23]; decide) (by rw [z23]; decide) (by first | (rw [z23]; done) | (rw [z23]; rfl)) (by decide) (k_23 z23)
  by_cases z24 : w0 &&& 63 = (24 : Int32)
  · exact g_tableIn (tgt := 1149) o dL_law_33 (by rw [z24]; decide) (by rw [z24]; decide) (by first | (rw [z24]; done) | (rw [z24]; rfl)) (by decide) (k_24 z24)
  by_cases z25 : w0 &&& 63 = (25 : Int32)
  · exact g_tableIn (tgt := 1182) o dL_law_33 (by rw [z25]; decide) (by rw [z25]; decide) (by first | (rw [z25]; done) | (rw [z25]; rfl)) (by decide) (k_25 z25)
  by_cases z26 : w0 &&& 63 = (26 : Int32)
  · exact g_tableIn (tgt := 1245) o dL_law_33 (by rw [z26]; decide) (by rw [z26]; decide) (by first | (rw [z26]; done) | (rw [z26]; rfl)) (by decide) (k_26 z26)
  by_cases z27 : w0 &&& 63 = (27 : Int32)
  · exact g_tableIn (tgt := 1298) o dL_law_33 (by rw [z27]; decide) (by rw [z27]; decide) (by first | (rw [z27]; done) | (rw [z27]; rfl)) (by decide) (k_27 z27)
  by_cases z28 : w0 &&& 63 = (28 : Int32)
  · exact g_tableIn (tgt := 1357) o dL_law_33 (by rw [z28]; decide) (by rw [z28]; decide) (by first | (rw [z28]; done) | (rw [z28]; rfl)) (by decide) (k_28 z28)
  by_cases z29 : w0 &&& 63 = (29 : Int32)
  · exact g_tableIn (tgt := 1410) o dL_law_33 (by rw [z29]; decide) (by rw [z29]; decide) (by first | (rw [z29]; done) | (rw [z29]; rfl)) (by decide) (k_29 z29)
  by_cases z30 : w0 &&& 63 = (30 : Int32)
  · exact g_tableIn (tgt := 1443) o dL_law_33 (by rw [z30]; decide) (by rw [z30]; decide) (by first | (rw [z30]; done) | (rw [z30]; rfl)) (by decide) (k_30 z30)
  by_cases z31 : w0 &&& 63 = (31 : Int32)
  · exact g_tableIn (tgt := 1506) o dL_law_33 (by rw [z31]; decide) (by rw [z31]; decide) (by first | (rw [z31]; done) | (rw [z31]; rfl)) (by decide) (k_31 z31)
  by_cases z32 : w0 &&& 63 = (32 : Int32)
  · exact g_tableIn (tgt := 1539) o dL_law_33 (by rw [z32]; decide) (by rw [z32]; decide) (by first | (rw [z32]; done) | (rw [z32]; rfl)) (by decide) (k_32 z32)
  by_cases z33 : w0 &&& 63 = (33 : Int32)
  · exact g_tableIn (tgt := 1572) o dL_law_33 (by rw [z33]; decide) (by rw [z33]; decide) (by first | (rw [z33]; done) | (rw [z33]; rfl)) (by decide) (k_33 z33)
  by_cases z34 : w0 &&& 63 = (34 : Int32)
  · exact g_tableIn (tgt := 1625) o dL_law_33 (by rw [z34]; decide) (by rw [z34]; decide) (by first | (rw [z34]; done) | (rw [z34]; rfl)) (by decide) (k_34 z34)
  by_cases z35 : w0 &&& 63 = (35 : Int32)
  · exact g_tableIn (tgt := 1678) o dL_law_33 (by rw [z35]; decide) (by rw [z35]; decide) (by first | (rw [z35]; done) | (rw [z35]; rfl)) (by decide) (k_35 z35)
  by_cases z36 : w0 &&& 63 = (36 : Int32)
  · exact g_tableIn (tgt := 1731) o dL_law_33 (by rw [z36]; decide) (by rw [z36]; decide) (by first | (rw [z36]; done) | (rw [z36]; rfl)) (by decide) (k_36 z36)
  by_cases z37 : w0 &&& 63 = (37 : Int32)
  · exact g_tableIn (tgt := 1744) o dL_law_33 (by rw [z37]; decide) (by rw [z37]; decide) (by first | (rw [z37]; done) | (rw [z37]; rfl)) (by decide) (k_37 z37)
  by_cases z38 : w0 &&& 63 = (38 : Int32)
  · exact g_tableIn (tgt := 1757) o dL_law_33 (by rw [z38]; decide) (by rw [z38]; decide) (by first | (rw [z38]; done) | (rw [z38]; rfl)) (by decide) (k_38 z38)
  exact g_tableOut (tgt := 1780) o dL_law_33 (ts_d 39 (by decide) (fun q hq => by rcases (show q = 0 ∨ q = 1 ∨ q = 2 ∨ q = 3 ∨ q = 4 ∨ q = 5 ∨ q = 6 ∨ q = 7 ∨ q = 8 ∨ q = 9 ∨ q = 10 ∨ q = 11 ∨ q = 12 ∨ q = 13 ∨ q = 14 ∨ q = 15 ∨ q = 16 ∨ q = 17 ∨ q = 18 ∨ q = 19 ∨ q = 20 ∨ q = 21 ∨ q = 22 ∨ q = 23 ∨ q = 24 ∨ q = 25 ∨ q = 26 ∨ q = 27 ∨ q = 28 ∨ q = 29 ∨ q = 30 ∨ q = 31 ∨ q = 32 ∨ q = 33 ∨ q = 34 ∨ q = 35 ∨ q = 36 ∨ q = 37 ∨ q = 38 by omega) with rfl | rfl | rfl | rfl | rfl | rfl | rfl | rfl | rfl | rfl | rfl | rfl | rfl | rfl | rfl | rfl | rfl | rfl | rfl | rfl | rfl | rfl | rfl | rfl | rfl | rfl | rfl | rfl | rfl | rfl | rfl | rfl | rfl | rfl | rfl | rfl | rfl | rfl | rfl <;> assumption)) (by decide) kd
