/-! ===== the law, call by call ===== -/
set_option maxHeartbeats 4000000 in
set_option maxRecDepth 100000 in
theorem y_c_member {Rl : Nat → x_M → x_M → Prop} {p : Program} {l : Launch} {e : Env} {s : State} {m : MethodId} {below : List Frame} {meth : Method} {c : Code} {Q : State → Prop} {b L : Nat} {xs : Nat → Int32} {D : va_G} {cy : Nat → ClassId} {ad adV q qm : Nat → Nat} {NC i cells slots : Nat} {X M : x_M} {H : Heap} {locs : List Loc} {ls : Array Slot} (hE : y_H_member Rl) (C : y_C p s m c b L xs D cy ad adV) (hB : y_B D cy ad s q NC X qm M H locs) (hR : Rl NC X M) (hN : 94 ≤ NC ∧ NC % 3 = 1 ∧ NC + 3 ≤ 100000) (hL : L ≤ 3072) (hi : i + 6 ≤ L) (hl : lv_has ls 4 [(0, .ref b), (1, .ref (q 0)), (2, .ref (qm 0)), (3, .int (nI i))]) (hcap : cells + 3 ≤ 600000 ∧ slots + 267 ≤ 7302250)
    (K : ∀ (q' : Nat → Nat) (NC' : Nat) (X' M' : x_M) (H : Heap) (locs : List Loc), y_B D cy ad s q' NC' X' qm M' H locs → Rl NC' X' M' → NC' ≤ NC + 3 → q' 0 = q 0 → W p l e room_1 s m #[Value.ref b] below meth c H locs (cells + 3) (slots + 267) Q (F0 m 1484 ls [])) : W p l e room_1 s m #[Value.ref b] below meth c H locs cells slots Q (F0 m 200 ls []) := by
  have hx := C.1.1
  have hb := C.1.2.1
  obtain ⟨r, X', M', e1, e2, e4⟩ := hE NC X M (xs (i + 1)) (xs (i + 2)) hR
  refine lv_aload_n hx hb dL_law_200 rfl (lv_at hl 1 rfl) ?_
  refine lv_aload_n hx hb dL_law_201 rfl (lv_at hl 0 rfl) ?_
  refine lv_iload_n hx hb dL_law_202 rfl (lv_at hl 3 rfl) ?_
  refine lv_iconst (v := (nI 1)) hx hb dL_law_203 (by decide) ?_
  refine lv_iadd hx hb dL_law_204 ?_
  rw [z_add]
  refine y_ld C hB.2.2.2.2.2 (show i + 1 < L by omega) hL dL_law_205 ?_
  refine lv_aload_n hx hb dL_law_206 rfl (lv_at hl 0 rfl) ?_
  refine lv_iload_n hx hb dL_law_207 rfl (lv_at hl 3 rfl) ?_
  refine lv_iconst (v := (nI 2)) hx hb dL_law_208 (by decide) ?_
  refine lv_iadd hx hb dL_law_209 ?_
  rw [z_add]
  refine y_ld C hB.2.2.2.2.2 (show i + 2 < L by omega) hL dL_law_210 ?_
  refine y_callX C hB (As := [.int (xs (i + 1)), .int (xs (i + 2))]) (rest := []) (c_X11_member hB.2.2.1 (by omega) e1) lm_13 lv_13 (by omega) rfl ⟨rfl, rfl, by decide, by decide⟩ rfl hl.1 rfl (Nat.le_of_ble_eq_true rfl) dL_law_211 ⟨by omega, by omega⟩ (fun H locs hB => ?_)
  refine lv_aload_n hx hb dL_law_214 rfl (lv_at hl 2 rfl) ?_
  refine lv_aload_n hx hb dL_law_215 rfl (lv_at hl 0 rfl) ?_
  refine lv_iload_n hx hb dL_law_216 rfl (lv_at hl 3 rfl) ?_
  refine lv_iconst (v := (nI 1)) hx hb dL_law_217 (by decide) ?_
  refine lv_iadd hx hb dL_law_218 ?_
  rw [z_add]
  refine y_ld C hB.2.2.2.2.2 (show i + 1 < L by omega) hL dL_law_219 ?_
  refine lv_aload_n hx hb dL_law_220 rfl (lv_at hl 0 rfl) ?_
  refine lv_iload_n hx hb dL_law_221 rfl (lv_at hl 3 rfl) ?_
  refine lv_iconst (v := (nI 2)) hx hb dL_law_222 (by decide) ?_
  refine lv_iadd hx hb dL_law_223 ?_
  rw [z_add]
  refine y_ld C hB.2.2.2.2.2 (show i + 2 < L by omega) hL dL_law_224 ?_
  refine y_callM C hB (As := [.int (xs (i + 1)), .int (xs (i + 2))]) (rest := [.int r]) (c_X12_member hB.2.2.2.1 e2) lm_17 lv_17 rfl ⟨rfl, rfl, by decide, by decide⟩ rfl hl.1 rfl (Nat.le_of_ble_eq_true rfl) dL_law_225 ⟨by omega, by omega⟩ (fun H locs hB => ?_)
  exact lv_icmp_eq (tgt := 1484) hx hb dL_law_228 (by decide) (fun _ => W.widen (k := cells + 3) (n := slots + 267) (by omega) (by omega) (K q NC X' M' H locs hB e4 (by omega) rfl)) (fun h => absurd rfl h)
set_option maxHeartbeats 4000000 in
set_option maxRecDepth 100000 in
theorem y_c_is {Rl : Nat → x_M → x_M → Prop} {p : Program} {l : Launch} {e : Env} {s : State} {m : MethodId} {below : List Frame} {meth : Method} {c : Code} {Q : State → Prop} {b L : Nat} {xs : Nat → Int32} {D : va_G} {cy : Nat → ClassId} {ad adV q qm : Nat → Nat} {NC i cells slots : Nat} {X M : x_M} {H : Heap} {locs : List Loc} {ls : Array Slot} (hE : y_H_is Rl) (C : y_C p s m c b L xs D cy ad adV) (hB : y_B D cy ad s q NC X qm M H locs) (hR : Rl NC X M) (hN : 94 ≤ NC ∧ NC % 3 = 1 ∧ NC + 3 ≤ 100000) (hL : L ≤ 3072) (hi : i + 6 ≤ L) (hl : lv_has ls 4 [(0, .ref b), (1, .ref (q 0)), (2, .ref (qm 0)), (3, .int (nI i))]) (hcap : cells + 3 ≤ 600000 ∧ slots + 267 ≤ 7302250)
    (K : ∀ (q' : Nat → Nat) (NC' : Nat) (X' M' : x_M) (H : Heap) (locs : List Loc), y_B D cy ad s q' NC' X' qm M' H locs → Rl NC' X' M' → NC' ≤ NC + 3 → q' 0 = q 0 → W p l e room_1 s m #[Value.ref b] below meth c H locs (cells + 3) (slots + 267) Q (F0 m 1484 ls [])) : W p l e room_1 s m #[Value.ref b] below meth c H locs cells slots Q (F0 m 233 ls []) := by
  have hx := C.1.1
  have hb := C.1.2.1
  obtain ⟨r, X', M', e1, e2, e4⟩ := hE NC X M (xs (i + 1)) (xs (i + 2)) hR
  refine lv_aload_n hx hb dL_law_233 rfl (lv_at hl 1 rfl) ?_
  refine lv_aload_n hx hb dL_law_234 rfl (lv_at hl 0 rfl) ?_
  refine lv_iload_n hx hb dL_law_235 rfl (lv_at hl 3 rfl) ?_
  refine lv_iconst (v := (nI 1)) hx hb dL_law_236 (by decide) ?_
  refine lv_iadd hx hb dL_law_237 ?_
  rw [z_add]
  refine y_ld C hB.2.2.2.2.2 (show i + 1 < L by omega) hL dL_law_238 ?_
  refine lv_aload_n hx hb dL_law_239 rfl (lv_at hl 0 rfl) ?_
  refine lv_iload_n hx hb dL_law_240 rfl (lv_at hl 3 rfl) ?_
  refine lv_iconst (v := (nI 2)) hx hb dL_law_241 (by decide) ?_
  refine lv_iadd hx hb dL_law_242 ?_
  rw [z_add]
  refine y_ld C hB.2.2.2.2.2 (show i + 2 < L by omega) hL dL_law_243 ?_
  refine y_callX C hB (As := [.int (xs (i + 1)), .int (xs (i + 2))]) (rest := []) (c_X11_is hB.2.2.1 (by omega) e1) lm_18 lv_18 (by omega) rfl ⟨rfl, rfl, by decide, by decide⟩ rfl hl.1 rfl (Nat.le_of_ble_eq_true rfl) dL_law_244 ⟨by omega, by omega⟩ (fun H locs hB => ?_)
  refine lv_aload_n hx hb dL_law_247 rfl (lv_at hl 2 rfl) ?_
  refine lv_aload_n hx hb dL_law_248 rfl (lv_at hl 0 rfl) ?_
  refine lv_iload_n hx hb dL_law_249 rfl (lv_at hl 3 rfl) ?_
  refine lv_iconst (v := (nI 1)) hx hb dL_law_250 (by decide) ?_
  refine lv_iadd hx hb dL_law_251 ?_
  rw [z_add]
  refine y_ld C hB.2.2.2.2.2 (show i + 1 < L by omega) hL dL_law_252 ?_
  refine lv_aload_n hx hb dL_law_253 rfl (lv_at hl 0 rfl) ?_
  refine lv_iload_n hx hb dL_law_254 rfl (lv_at hl 3 rfl) ?_
  refine lv_iconst (v := (nI 2)) hx hb dL_law_255 (by decide) ?_
  refine lv_iadd hx hb dL_law_256 ?_
  rw [z_add]
  refine y_ld C hB.2.2.2.2.2 (show i + 2 < L by omega) hL dL_law_257 ?_
  refine y_callM C hB (As := [.int (xs (i + 1)), .int (xs (i + 2))]) (rest := [.int r]) (c_X12_is hB.2.2.2.1 e2) lm_21 lv_21 rfl ⟨rfl, rfl, by decide, by decide⟩ rfl hl.1 rfl (Nat.le_of_ble_eq_true rfl) dL_law_258 ⟨by omega, by omega⟩ (fun H locs hB => ?_)
  exact lv_icmp_eq (tgt := 1484) hx hb dL_law_261 (by decide) (fun _ => W.widen (k := cells + 3) (n := slots + 267) (by omega) (by omega) (K q NC X' M' H locs hB e4 (by omega) rfl)) (fun h => absurd rfl h)
set_option maxHeartbeats 4000000 in
set_option maxRecDepth 100000 in
theorem y_c_pool {Rl : Nat → x_M → x_M → Prop} {p : Program} {l : Launch} {e : Env} {s : State} {m : MethodId} {below : List Frame} {meth : Method} {c : Code} {Q : State → Prop} {b L : Nat} {xs : Nat → Int32} {D : va_G} {cy : Nat → ClassId} {ad adV q qm : Nat → Nat} {NC i cells slots : Nat} {X M : x_M} {H : Heap} {locs : List Loc} {ls : Array Slot} (hE : y_H_pool Rl) (C : y_C p s m c b L xs D cy ad adV) (hB : y_B D cy ad s q NC X qm M H locs) (hR : Rl NC X M) (hN : 94 ≤ NC ∧ NC % 3 = 1 ∧ NC + 3 ≤ 100000) (hL : L ≤ 3072) (hi : i + 6 ≤ L) (hl : lv_has ls 4 [(0, .ref b), (1, .ref (q 0)), (2, .ref (qm 0)), (3, .int (nI i))]) (hcap : cells + 3 ≤ 600000 ∧ slots + 267 ≤ 7302250)
    (K : ∀ (q' : Nat → Nat) (NC' : Nat) (X' M' : x_M) (H : Heap) (locs : List Loc), y_B D cy ad s q' NC' X' qm M' H locs → Rl NC' X' M' → NC' ≤ NC + 3 → q' 0 = q 0 → W p l e room_1 s m #[Value.ref b] below meth c H locs (cells + 3) (slots + 267) Q (F0 m 1484 ls [])) : W p l e room_1 s m #[Value.ref b] below meth c H locs cells slots Q (F0 m 266 ls []) := by
  have hx := C.1.1
  have hb := C.1.2.1
  obtain ⟨r, X', M', e1, e2, e4⟩ := hE NC X M (xs (i + 1)) (xs (i + 2)) hR
  refine lv_aload_n hx hb dL_law_266 rfl (lv_at hl 1 rfl) ?_
  refine lv_aload_n hx hb dL_law_267 rfl (lv_at hl 0 rfl) ?_
  refine lv_iload_n hx hb dL_law_268 rfl (lv_at hl 3 rfl) ?_
  refine lv_iconst (v := (nI 1)) hx hb dL_law_269 (by decide) ?_
  refine lv_iadd hx hb dL_law_270 ?_
  rw [z_add]
  refine y_ld C hB.2.2.2.2.2 (show i + 1 < L by omega) hL dL_law_271 ?_
  refine lv_aload_n hx hb dL_law_272 rfl (lv_at hl 0 rfl) ?_
  refine lv_iload_n hx hb dL_law_273 rfl (lv_at hl 3 rfl) ?_
  refine lv_iconst (v := (nI 2)) hx hb dL_law_274 (by decide) ?_
  refine lv_iadd hx hb dL_law_275 ?_
  rw [z_add]
  refine y_ld C hB.2.2.2.2.2 (show i + 2 < L by omega) hL dL_law_276 ?_
  refine y_callX C hB (As := [.int (xs (i + 1)), .int (xs (i + 2))]) (rest := []) (c_X11_pool hB.2.2.1 (by omega) e1) lm_22 lv_22 (by omega) rfl ⟨rfl, rfl, by decide, by decide⟩ rfl hl.1 rfl (Nat.le_of_ble_eq_true rfl) dL_law_277 ⟨by omega, by omega⟩ (fun H locs hB => ?_)
  refine lv_aload_n hx hb dL_law_280 rfl (lv_at hl 2 rfl) ?_
  refine lv_aload_n hx hb dL_law_281 rfl (lv_at hl 0 rfl) ?_
  refine lv_iload_n hx hb dL_law_282 rfl (lv_at hl 3 rfl) ?_
  refine lv_iconst (v := (nI 1)) hx hb dL_law_283 (by decide) ?_
  refine lv_iadd hx hb dL_law_284 ?_
  rw [z_add]
  refine y_ld C hB.2.2.2.2.2 (show i + 1 < L by omega) hL dL_law_285 ?_
  refine lv_aload_n hx hb dL_law_286 rfl (lv_at hl 0 rfl) ?_
  refine lv_iload_n hx hb dL_law_287 rfl (lv_at hl 3 rfl) ?_
  refine lv_iconst (v := (nI 2)) hx hb dL_law_288 (by decide) ?_
  refine lv_iadd hx hb dL_law_289 ?_
  rw [z_add]
  refine y_ld C hB.2.2.2.2.2 (show i + 2 < L by omega) hL dL_law_290 ?_
  refine y_callM C hB (As := [.int (xs (i + 1)), .int (xs (i + 2))]) (rest := [.int r]) (c_X12_pool hB.2.2.2.1 e2) lm_25 lv_25 rfl ⟨rfl, rfl, by decide, by decide⟩ rfl hl.1 rfl (Nat.le_of_ble_eq_true rfl) dL_law_291 ⟨by omega, by omega⟩ (fun H locs hB => ?_)
  exact lv_icmp_eq (tgt := 1484) hx hb dL_law_294 (by decide) (fun _ => W.widen (k := cells + 3) (n := slots + 267) (by omega) (by omega) (K q NC X' M' H locs hB e4 (by omega) rfl)) (fun h => absurd rfl h)
set_option maxHeartbeats 4000000 in
set_option maxRecDepth 100000 in
theorem y_c_marks {Rl : Nat → x_M → x_M → Prop} {p : Program} {l : Launch} {e : Env} {s : State} {m : MethodId} {below : List Frame} {meth : Method} {c : Code} {Q : State → Prop} {b L : Nat} {xs : Nat → Int32} {D : va_G} {cy : Nat → ClassId} {ad adV q qm : Nat → Nat} {NC i cells slots : Nat} {X M : x_M} {H : Heap} {locs : List Loc} {ls : Array Slot} (hE : y_H_marks Rl) (C : y_C p s m c b L xs D cy ad adV) (hB : y_B D cy ad s q NC X qm M H locs) (hR : Rl NC X M) (hN : 94 ≤ NC ∧ NC % 3 = 1 ∧ NC + 3 ≤ 100000) (hL : L ≤ 3072) (hi : i + 6 ≤ L) (hl : lv_has ls 4 [(0, .ref b), (1, .ref (q 0)), (2, .ref (qm 0)), (3, .int (nI i))]) (hcap : cells + 3 ≤ 600000 ∧ slots + 267 ≤ 7302250)
    (K : ∀ (q' : Nat → Nat) (NC' : Nat) (X' M' : x_M) (H : Heap) (locs : List Loc), y_B D cy ad s q' NC' X' qm M' H locs → Rl NC' X' M' → NC' ≤ NC + 3 → q' 0 = q 0 → W p l e room_1 s m #[Value.ref b] below meth c H locs (cells + 3) (slots + 267) Q (F0 m 1484 ls [])) : W p l e room_1 s m #[Value.ref b] below meth c H locs cells slots Q (F0 m 299 ls []) := by
  have hx := C.1.1
  have hb := C.1.2.1
  obtain ⟨r, X', M', e1, e2, e4⟩ := hE NC X M (xs (i + 1)) (xs (i + 2)) hR
  refine lv_aload_n hx hb dL_law_299 rfl (lv_at hl 1 rfl) ?_
  refine lv_aload_n hx hb dL_law_300 rfl (lv_at hl 0 rfl) ?_
  refine lv_iload_n hx hb dL_law_301 rfl (lv_at hl 3 rfl) ?_
  refine lv_iconst (v := (nI 1)) hx hb dL_law_302 (by decide) ?_
  refine lv_iadd hx hb dL_law_303 ?_
  rw [z_add]
  refine y_ld C hB.2.2.2.2.2 (show i + 1 < L by omega) hL dL_law_304 ?_
  refine lv_aload_n hx hb dL_law_305 rfl (lv_at hl 0 rfl) ?_
  refine lv_iload_n hx hb dL_law_306 rfl (lv_at hl 3 rfl) ?_
  refine lv_iconst (v := (nI 2)) hx hb dL_law_307 (by decide) ?_
  refine lv_iadd hx hb dL_law_308 ?_
  rw [z_add]
  refine y_ld C hB.2.2.2.2.2 (show i + 2 < L by omega) hL dL_law_309 ?_
  refine y_callX C hB (As := [.int (xs (i + 1)), .int (xs (i + 2))]) (rest := []) (c_X11_marks hB.2.2.1 (by omega) e1) lm_26 lv_26 (by omega) rfl ⟨rfl, rfl, by decide, by decide⟩ rfl hl.1 rfl (Nat.le_of_ble_eq_true rfl) dL_law_310 ⟨by omega, by omega⟩ (fun H locs hB => ?_)
  refine lv_aload_n hx hb dL_law_313 rfl (lv_at hl 2 rfl) ?_
  refine lv_aload_n hx hb dL_law_314 rfl (lv_at hl 0 rfl) ?_
  refine lv_iload_n hx hb dL_law_315 rfl (lv_at hl 3 rfl) ?_
  refine lv_iconst (v := (nI 1)) hx hb dL_law_316 (by decide) ?_
  refine lv_iadd hx hb dL_law_317 ?_
  rw [z_add]
  refine y_ld C hB.2.2.2.2.2 (show i + 1 < L by omega) hL dL_law_318 ?_
  refine lv_aload_n hx hb dL_law_319 rfl (lv_at hl 0 rfl) ?_
  refine lv_iload_n hx hb dL_law_320 rfl (lv_at hl 3 rfl) ?_
  refine lv_iconst (v := (nI 2)) hx hb dL_law_321 (by decide) ?_
  refine lv_iadd hx hb dL_law_322 ?_
  rw [z_add]
  refine y_ld C hB.2.2.2.2.2 (show i + 2 < L by omega) hL dL_law_323 ?_
  refine y_callM C hB (As := [.int (xs (i + 1)), .int (xs (i + 2))]) (rest := [.int r]) (c_X12_marks hB.2.2.2.1 e2) lm_29 lv_29 rfl ⟨rfl, rfl, by decide, by decide⟩ rfl hl.1 rfl (Nat.le_of_ble_eq_true rfl) dL_law_324 ⟨by omega, by omega⟩ (fun H locs hB => ?_)
  exact lv_icmp_eq (tgt := 1484) hx hb dL_law_327 (by decide) (fun _ => W.widen (k := cells + 3) (n := slots + 267) (by omega) (by omega) (K q NC X' M' H locs hB e4 (by omega) rfl)) (fun h => absurd rfl h)
set_option maxHeartbeats 4000000 in
set_option maxRecDepth 100000 in
theorem y_c_lay {Rl : Nat → x_M → x_M → Prop} {p : Program} {l : Launch} {e : Env} {s : State} {m : MethodId} {below : List Frame} {meth : Method} {c : Code} {Q : State → Prop} {b L : Nat} {xs : Nat → Int32} {D : va_G} {cy : Nat → ClassId} {ad adV q qm : Nat → Nat} {NC i cells slots : Nat} {X M : x_M} {H : Heap} {locs : List Loc} {ls : Array Slot} (hE : y_H_lay Rl) (C : y_C p s m c b L xs D cy ad adV) (hB : y_B D cy ad s q NC X qm M H locs) (hR : Rl NC X M) (hN : 94 ≤ NC ∧ NC % 3 = 1 ∧ NC + 3 ≤ 100000) (hL : L ≤ 3072) (hi : i + 6 ≤ L) (hl : lv_has ls 4 [(0, .ref b), (1, .ref (q 0)), (2, .ref (qm 0)), (3, .int (nI i))]) (hcap : cells + 3 ≤ 600000 ∧ slots + 267 ≤ 7302250)
    (K : ∀ (q' : Nat → Nat) (NC' : Nat) (X' M' : x_M) (H : Heap) (locs : List Loc), y_B D cy ad s q' NC' X' qm M' H locs → Rl NC' X' M' → NC' ≤ NC + 3 → q' 0 = q 0 → W p l e room_1 s m #[Value.ref b] below meth c H locs (cells + 3) (slots + 267) Q (F0 m 1484 ls [])) : W p l e room_1 s m #[Value.ref b] below meth c H locs cells slots Q (F0 m 332 ls []) := by
  have hx := C.1.1
  have hb := C.1.2.1
  obtain ⟨r, X', M', e1, e2, e4⟩ := hE NC X M (xs (i + 1)) hR
  refine lv_aload_n hx hb dL_law_332 rfl (lv_at hl 1 rfl) ?_
  refine lv_aload_n hx hb dL_law_333 rfl (lv_at hl 0 rfl) ?_
  refine lv_iload_n hx hb dL_law_334 rfl (lv_at hl 3 rfl) ?_
  refine lv_iconst (v := (nI 1)) hx hb dL_law_335 (by decide) ?_
  refine lv_iadd hx hb dL_law_336 ?_
  rw [z_add]
  refine y_ld C hB.2.2.2.2.2 (show i + 1 < L by omega) hL dL_law_337 ?_
  refine y_callX C hB (As := [.int (xs (i + 1))]) (rest := []) (c_X11_lay hB.2.2.1 (by omega) e1) lm_30 lv_30 (by omega) rfl ⟨rfl, rfl, by decide, by decide⟩ rfl hl.1 rfl (Nat.le_of_ble_eq_true rfl) dL_law_338 ⟨by omega, by omega⟩ (fun H locs hB => ?_)
  refine lv_aload_n hx hb dL_law_341 rfl (lv_at hl 2 rfl) ?_
  refine lv_aload_n hx hb dL_law_342 rfl (lv_at hl 0 rfl) ?_
  refine lv_iload_n hx hb dL_law_343 rfl (lv_at hl 3 rfl) ?_
  refine lv_iconst (v := (nI 1)) hx hb dL_law_344 (by decide) ?_
  refine lv_iadd hx hb dL_law_345 ?_
  rw [z_add]
  refine y_ld C hB.2.2.2.2.2 (show i + 1 < L by omega) hL dL_law_346 ?_
  refine y_callM C hB (As := [.int (xs (i + 1))]) (rest := [.int r]) (c_X12_lay hB.2.2.2.1 e2) lm_34 lv_34 rfl ⟨rfl, rfl, by decide, by decide⟩ rfl hl.1 rfl (Nat.le_of_ble_eq_true rfl) dL_law_347 ⟨by omega, by omega⟩ (fun H locs hB => ?_)
  exact lv_icmp_eq (tgt := 1484) hx hb dL_law_350 (by decide) (fun _ => W.widen (k := cells + 3) (n := slots + 267) (by omega) (by omega) (K q NC X' M' H locs hB e4 (by omega) rfl)) (fun h => absurd rfl h)
set_option maxHeartbeats 4000000 in
set_option maxRecDepth 100000 in
theorem y_c_days {Rl : Nat → x_M → x_M → Prop} {p : Program} {l : Launch} {e : Env} {s : State} {m : MethodId} {below : List Frame} {meth : Method} {c : Code} {Q : State → Prop} {b L : Nat} {xs : Nat → Int32} {D : va_G} {cy : Nat → ClassId} {ad adV q qm : Nat → Nat} {NC i cells slots : Nat} {X M : x_M} {H : Heap} {locs : List Loc} {ls : Array Slot} (hE : y_H_days Rl) (C : y_C p s m c b L xs D cy ad adV) (hB : y_B D cy ad s q NC X qm M H locs) (hR : Rl NC X M) (hN : 94 ≤ NC ∧ NC % 3 = 1 ∧ NC + 3 ≤ 100000) (hL : L ≤ 3072) (hi : i + 6 ≤ L) (hl : lv_has ls 4 [(0, .ref b), (1, .ref (q 0)), (2, .ref (qm 0)), (3, .int (nI i))]) (hcap : cells + 3 ≤ 600000 ∧ slots + 267 ≤ 7302250)
    (K : ∀ (q' : Nat → Nat) (NC' : Nat) (X' M' : x_M) (H : Heap) (locs : List Loc), y_B D cy ad s q' NC' X' qm M' H locs → Rl NC' X' M' → NC' ≤ NC + 3 → q' 0 = q 0 → W p l e room_1 s m #[Value.ref b] below meth c H locs (cells + 3) (slots + 267) Q (F0 m 1484 ls [])) : W p l e room_1 s m #[Value.ref b] below meth c H locs cells slots Q (F0 m 355 ls []) := by
  have hx := C.1.1
  have hb := C.1.2.1
  obtain ⟨r, X', M', e1, e2, e4⟩ := hE NC X M (xs (i + 1)) hR
  refine lv_aload_n hx hb dL_law_355 rfl (lv_at hl 1 rfl) ?_
  refine lv_aload_n hx hb dL_law_356 rfl (lv_at hl 0 rfl) ?_
  refine lv_iload_n hx hb dL_law_357 rfl (lv_at hl 3 rfl) ?_
  refine lv_iconst (v := (nI 1)) hx hb dL_law_358 (by decide) ?_
  refine lv_iadd hx hb dL_law_359 ?_
  rw [z_add]
  refine y_ld C hB.2.2.2.2.2 (show i + 1 < L by omega) hL dL_law_360 ?_
  refine y_callX C hB (As := [.int (xs (i + 1))]) (rest := []) (c_X11_days hB.2.2.1 (by omega) e1) lm_35 lv_35 (by omega) rfl ⟨rfl, rfl, by decide, by decide⟩ rfl hl.1 rfl (Nat.le_of_ble_eq_true rfl) dL_law_361 ⟨by omega, by omega⟩ (fun H locs hB => ?_)
  refine lv_aload_n hx hb dL_law_364 rfl (lv_at hl 2 rfl) ?_
  refine lv_aload_n hx hb dL_law_365 rfl (lv_at hl 0 rfl) ?_
  refine lv_iload_n hx hb dL_law_366 rfl (lv_at hl 3 rfl) ?_
  refine lv_iconst (v := (nI 1)) hx hb dL_law_367 (by decide) ?_
  refine lv_iadd hx hb dL_law_368 ?_
  rw [z_add]
  refine y_ld C hB.2.2.2.2.2 (show i + 1 < L by omega) hL dL_law_369 ?_
  refine y_callM C hB (As := [.int (xs (i + 1))]) (rest := [.int r]) (c_X12_days hB.2.2.2.1 e2) lm_38 lv_38 rfl ⟨rfl, rfl, by decide, by decide⟩ rfl hl.1 rfl (Nat.le_of_ble_eq_true rfl) dL_law_370 ⟨by omega, by omega⟩ (fun H locs hB => ?_)
  exact lv_icmp_eq (tgt := 1484) hx hb dL_law_373 (by decide) (fun _ => W.widen (k := cells + 3) (n := slots + 267) (by omega) (by omega) (K q NC X' M' H locs hB e4 (by omega) rfl)) (fun h => absurd rfl h)
set_option maxHeartbeats 4000000 in
set_option maxRecDepth 100000 in
theorem y_c_rule {Rl : Nat → x_M → x_M → Prop} {p : Program} {l : Launch} {e : Env} {s : State} {m : MethodId} {below : List Frame} {meth : Method} {c : Code} {Q : State → Prop} {b L : Nat} {xs : Nat → Int32} {D : va_G} {cy : Nat → ClassId} {ad adV q qm : Nat → Nat} {NC i cells slots : Nat} {X M : x_M} {H : Heap} {locs : List Loc} {ls : Array Slot} (hE : y_H_rule Rl) (C : y_C p s m c b L xs D cy ad adV) (hB : y_B D cy ad s q NC X qm M H locs) (hR : Rl NC X M) (hN : 94 ≤ NC ∧ NC % 3 = 1 ∧ NC + 3 ≤ 100000) (hL : L ≤ 3072) (hi : i + 6 ≤ L) (hl : lv_has ls 4 [(0, .ref b), (1, .ref (q 0)), (2, .ref (qm 0)), (3, .int (nI i))]) (hcap : cells + 3 ≤ 600000 ∧ slots + 267 ≤ 7302250)
    (K : ∀ (q' : Nat → Nat) (NC' : Nat) (X' M' : x_M) (H : Heap) (locs : List Loc), y_B D cy ad s q' NC' X' qm M' H locs → Rl NC' X' M' → NC' ≤ NC + 3 → q' 0 = q 0 → W p l e room_1 s m #[Value.ref b] below meth c H locs (cells + 3) (slots + 267) Q (F0 m 1484 ls [])) : W p l e room_1 s m #[Value.ref b] below meth c H locs cells slots Q (F0 m 378 ls []) := by
  have hx := C.1.1
  have hb := C.1.2.1
  obtain ⟨r, X', M', e1, e2, e4⟩ := hE NC X M (xs (i + 1)) (xs (i + 2)) hR
  refine lv_aload_n hx hb dL_law_378 rfl (lv_at hl 1 rfl) ?_
  refine lv_aload_n hx hb dL_law_379 rfl (lv_at hl 0 rfl) ?_
  refine lv_iload_n hx hb dL_law_380 rfl (lv_at hl 3 rfl) ?_
  refine lv_iconst (v := (nI 1)) hx hb dL_law_381 (by decide) ?_
  refine lv_iadd hx hb dL_law_382 ?_
  rw [z_add]
  refine y_ld C hB.2.2.2.2.2 (show i + 1 < L by omega) hL dL_law_383 ?_
  refine lv_aload_n hx hb dL_law_384 rfl (lv_at hl 0 rfl) ?_
  refine lv_iload_n hx hb dL_law_385 rfl (lv_at hl 3 rfl) ?_
  refine lv_iconst (v := (nI 2)) hx hb dL_law_386 (by decide) ?_
  refine lv_iadd hx hb dL_law_387 ?_
  rw [z_add]
  refine y_ld C hB.2.2.2.2.2 (show i + 2 < L by omega) hL dL_law_388 ?_
  refine y_callX C hB (As := [.int (xs (i + 1)), .int (xs (i + 2))]) (rest := []) (c_X11_rule hB.2.2.1 (by omega) C.2.2.1 e1) lm_39 lv_39 (by omega) rfl ⟨rfl, rfl, by decide, by decide⟩ rfl hl.1 rfl (Nat.le_of_ble_eq_true rfl) dL_law_389 ⟨by omega, by omega⟩ (fun H locs hB => ?_)
  refine lv_aload_n hx hb dL_law_392 rfl (lv_at hl 2 rfl) ?_
  refine lv_aload_n hx hb dL_law_393 rfl (lv_at hl 0 rfl) ?_
  refine lv_iload_n hx hb dL_law_394 rfl (lv_at hl 3 rfl) ?_
  refine lv_iconst (v := (nI 1)) hx hb dL_law_395 (by decide) ?_
  refine lv_iadd hx hb dL_law_396 ?_
  rw [z_add]
  refine y_ld C hB.2.2.2.2.2 (show i + 1 < L by omega) hL dL_law_397 ?_
  refine lv_aload_n hx hb dL_law_398 rfl (lv_at hl 0 rfl) ?_
  refine lv_iload_n hx hb dL_law_399 rfl (lv_at hl 3 rfl) ?_
  refine lv_iconst (v := (nI 2)) hx hb dL_law_400 (by decide) ?_
  refine lv_iadd hx hb dL_law_401 ?_
  rw [z_add]
  refine y_ld C hB.2.2.2.2.2 (show i + 2 < L by omega) hL dL_law_402 ?_
  refine y_callM C hB (As := [.int (xs (i + 1)), .int (xs (i + 2))]) (rest := [.int r]) (c_X12_rule hB.2.2.2.1 e2) lm_42 lv_42 rfl ⟨rfl, rfl, by decide, by decide⟩ rfl hl.1 rfl (Nat.le_of_ble_eq_true rfl) dL_law_403 ⟨by omega, by omega⟩ (fun H locs hB => ?_)
  exact lv_icmp_eq (tgt := 1484) hx hb dL_law_406 (by decide) (fun _ => W.widen (k := cells + 3) (n := slots + 267) (by omega) (by omega) (K q NC X' M' H locs hB e4 (by omega) rfl)) (fun h => absurd rfl h)
set_option maxHeartbeats 4000000 in
set_option maxRecDepth 100000 in
theorem y_c_fly {Rl : Nat → x_M → x_M → Prop} {p : Program} {l : Launch} {e : Env} {s : State} {m : MethodId} {below : List Frame} {meth : Method} {c : Code} {Q : State → Prop} {b L : Nat} {xs : Nat → Int32} {D : va_G} {cy : Nat → ClassId} {ad adV q qm : Nat → Nat} {NC i cells slots : Nat} {X M : x_M} {H : Heap} {locs : List Loc} {ls : Array Slot} (hE : y_H_fly Rl) (C : y_C p s m c b L xs D cy ad adV) (hB : y_B D cy ad s q NC X qm M H locs) (hR : Rl NC X M) (hN : 94 ≤ NC ∧ NC % 3 = 1 ∧ NC + 3 ≤ 100000) (hL : L ≤ 3072) (hi : i + 6 ≤ L) (hl : lv_has ls 4 [(0, .ref b), (1, .ref (q 0)), (2, .ref (qm 0)), (3, .int (nI i))]) (hcap : cells + 3 ≤ 600000 ∧ slots + 267 ≤ 7302250)
    (K : ∀ (q' : Nat → Nat) (NC' : Nat) (X' M' : x_M) (H : Heap) (locs : List Loc), y_B D cy ad s q' NC' X' qm M' H locs → Rl NC' X' M' → NC' ≤ NC + 3 → q' 0 = q 0 → W p l e room_1 s m #[Value.ref b] below meth c H locs (cells + 3) (slots + 267) Q (F0 m 1484 ls [])) : W p l e room_1 s m #[Value.ref b] below meth c H locs cells slots Q (F0 m 411 ls []) := by
  have hx := C.1.1
  have hb := C.1.2.1
  obtain ⟨r, X', M', e1, e2, e4⟩ := hE NC X M (xs (i + 1)) (xs (i + 2)) (xs (i + 3)) (xs (i + 4)) (xs (i + 5)) hR
  refine lv_aload_n hx hb dL_law_411 rfl (lv_at hl 1 rfl) ?_
  refine lv_aload_n hx hb dL_law_412 rfl (lv_at hl 0 rfl) ?_
  refine lv_iload_n hx hb dL_law_413 rfl (lv_at hl 3 rfl) ?_
  refine lv_iconst (v := (nI 1)) hx hb dL_law_414 (by decide) ?_
  refine lv_iadd hx hb dL_law_415 ?_
  rw [z_add]
  refine y_ld C hB.2.2.2.2.2 (show i + 1 < L by omega) hL dL_law_416 ?_
  refine lv_aload_n hx hb dL_law_417 rfl (lv_at hl 0 rfl) ?_
  refine lv_iload_n hx hb dL_law_418 rfl (lv_at hl 3 rfl) ?_
  refine lv_iconst (v := (nI 2)) hx hb dL_law_419 (by decide) ?_
  refine lv_iadd hx hb dL_law_420 ?_
  rw [z_add]
  refine y_ld C hB.2.2.2.2.2 (show i + 2 < L by omega) hL dL_law_421 ?_
  refine lv_aload_n hx hb dL_law_422 rfl (lv_at hl 0 rfl) ?_
  refine lv_iload_n hx hb dL_law_423 rfl (lv_at hl 3 rfl) ?_
  refine lv_iconst (v := (nI 3)) hx hb dL_law_424 (by decide) ?_
  refine lv_iadd hx hb dL_law_425 ?_
  rw [z_add]
  refine y_ld C hB.2.2.2.2.2 (show i + 3 < L by omega) hL dL_law_426 ?_
  refine lv_aload_n hx hb dL_law_427 rfl (lv_at hl 0 rfl) ?_
  refine lv_iload_n hx hb dL_law_428 rfl (lv_at hl 3 rfl) ?_
  refine lv_iconst (v := (nI 4)) hx hb dL_law_429 (by decide) ?_
  refine lv_iadd hx hb dL_law_430 ?_
  rw [z_add]
  refine y_ld C hB.2.2.2.2.2 (show i + 4 < L by omega) hL dL_law_431 ?_
  refine lv_aload_n hx hb dL_law_432 rfl (lv_at hl 0 rfl) ?_
  refine lv_iload_n hx hb dL_law_433 rfl (lv_at hl 3 rfl) ?_
  refine lv_iconst (v := (nI 5)) hx hb dL_law_434 (by decide) ?_
  refine lv_iadd hx hb dL_law_435 ?_
  rw [z_add]
  refine y_ld C hB.2.2.2.2.2 (show i + 5 < L by omega) hL dL_law_436 ?_
  refine y_callX C hB (As := [.int (xs (i + 1)), .int (xs (i + 2)), .int (xs (i + 3)), .int (xs (i + 4)), .int (xs (i + 5))]) (rest := []) (c_X11_fly hB.2.2.1 (by omega) e1) lm_43 lv_43 (by omega) rfl ⟨rfl, rfl, by decide, by decide⟩ rfl hl.1 rfl (Nat.le_of_ble_eq_true rfl) dL_law_437 ⟨by omega, by omega⟩ (fun H locs hB => ?_)
  refine lv_aload_n hx hb dL_law_440 rfl (lv_at hl 2 rfl) ?_
  refine lv_aload_n hx hb dL_law_441 rfl (lv_at hl 0 rfl) ?_
  refine lv_iload_n hx hb dL_law_442 rfl (lv_at hl 3 rfl) ?_
  refine lv_iconst (v := (nI 1)) hx hb dL_law_443 (by decide) ?_
  refine lv_iadd hx hb dL_law_444 ?_
  rw [z_add]
  refine y_ld C hB.2.2.2.2.2 (show i + 1 < L by omega) hL dL_law_445 ?_
  refine lv_aload_n hx hb dL_law_446 rfl (lv_at hl 0 rfl) ?_
  refine lv_iload_n hx hb dL_law_447 rfl (lv_at hl 3 rfl) ?_
  refine lv_iconst (v := (nI 2)) hx hb dL_law_448 (by decide) ?_
  refine lv_iadd hx hb dL_law_449 ?_
  rw [z_add]
  refine y_ld C hB.2.2.2.2.2 (show i + 2 < L by omega) hL dL_law_450 ?_
  refine lv_aload_n hx hb dL_law_451 rfl (lv_at hl 0 rfl) ?_
  refine lv_iload_n hx hb dL_law_452 rfl (lv_at hl 3 rfl) ?_
  refine lv_iconst (v := (nI 3)) hx hb dL_law_453 (by decide) ?_
  refine lv_iadd hx hb dL_law_454 ?_
  rw [z_add]
  refine y_ld C hB.2.2.2.2.2 (show i + 3 < L by omega) hL dL_law_455 ?_
  refine lv_aload_n hx hb dL_law_456 rfl (lv_at hl 0 rfl) ?_
  refine lv_iload_n hx hb dL_law_457 rfl (lv_at hl 3 rfl) ?_
  refine lv_iconst (v := (nI 4)) hx hb dL_law_458 (by decide) ?_
  refine lv_iadd hx hb dL_law_459 ?_
  rw [z_add]
  refine y_ld C hB.2.2.2.2.2 (show i + 4 < L by omega) hL dL_law_460 ?_
  refine lv_aload_n hx hb dL_law_461 rfl (lv_at hl 0 rfl) ?_
  refine lv_iload_n hx hb dL_law_462 rfl (lv_at hl 3 rfl) ?_
  refine lv_iconst (v := (nI 5)) hx hb dL_law_463 (by decide) ?_
  refine lv_iadd hx hb dL_law_464 ?_
  rw [z_add]
  refine y_ld C hB.2.2.2.2.2 (show i + 5 < L by omega) hL dL_law_465 ?_
  refine y_callM C hB (As := [.int (xs (i + 1)), .int (xs (i + 2)), .int (xs (i + 3)), .int (xs (i + 4)), .int (xs (i + 5))]) (rest := [.int r]) (c_X12_fly hB.2.2.2.1 e2) lm_47 lv_47 rfl ⟨rfl, rfl, by decide, by decide⟩ rfl hl.1 rfl (Nat.le_of_ble_eq_true rfl) dL_law_466 ⟨by omega, by omega⟩ (fun H locs hB => ?_)
  exact lv_icmp_eq (tgt := 1484) hx hb dL_law_469 (by decide) (fun _ => W.widen (k := cells + 3) (n := slots + 267) (by omega) (by omega) (K q NC X' M' H locs hB e4 (by omega) rfl)) (fun h => absurd rfl h)
set_option maxHeartbeats 4000000 in
set_option maxRecDepth 100000 in
theorem y_c_spend {Rl : Nat → x_M → x_M → Prop} {p : Program} {l : Launch} {e : Env} {s : State} {m : MethodId} {below : List Frame} {meth : Method} {c : Code} {Q : State → Prop} {b L : Nat} {xs : Nat → Int32} {D : va_G} {cy : Nat → ClassId} {ad adV q qm : Nat → Nat} {NC i cells slots : Nat} {X M : x_M} {H : Heap} {locs : List Loc} {ls : Array Slot} (hE : y_H_spend Rl) (C : y_C p s m c b L xs D cy ad adV) (hB : y_B D cy ad s q NC X qm M H locs) (hR : Rl NC X M) (hN : 94 ≤ NC ∧ NC % 3 = 1 ∧ NC + 3 ≤ 100000) (hL : L ≤ 3072) (hi : i + 6 ≤ L) (hl : lv_has ls 4 [(0, .ref b), (1, .ref (q 0)), (2, .ref (qm 0)), (3, .int (nI i))]) (hcap : cells + 3 ≤ 600000 ∧ slots + 267 ≤ 7302250)
    (K : ∀ (q' : Nat → Nat) (NC' : Nat) (X' M' : x_M) (H : Heap) (locs : List Loc), y_B D cy ad s q' NC' X' qm M' H locs → Rl NC' X' M' → NC' ≤ NC + 3 → q' 0 = q 0 → W p l e room_1 s m #[Value.ref b] below meth c H locs (cells + 3) (slots + 267) Q (F0 m 1484 ls [])) : W p l e room_1 s m #[Value.ref b] below meth c H locs cells slots Q (F0 m 474 ls []) := by
  have hx := C.1.1
  have hb := C.1.2.1
  obtain ⟨r, X', M', e1, e2, e4⟩ := hE NC X M (xs (i + 1)) (xs (i + 2)) (xs (i + 3)) (xs (i + 4)) hR
  refine lv_aload_n hx hb dL_law_474 rfl (lv_at hl 1 rfl) ?_
  refine lv_aload_n hx hb dL_law_475 rfl (lv_at hl 0 rfl) ?_
  refine lv_iload_n hx hb dL_law_476 rfl (lv_at hl 3 rfl) ?_
  refine lv_iconst (v := (nI 1)) hx hb dL_law_477 (by decide) ?_
  refine lv_iadd hx hb dL_law_478 ?_
  rw [z_add]
  refine y_ld C hB.2.2.2.2.2 (show i + 1 < L by omega) hL dL_law_479 ?_
  refine lv_aload_n hx hb dL_law_480 rfl (lv_at hl 0 rfl) ?_
  refine lv_iload_n hx hb dL_law_481 rfl (lv_at hl 3 rfl) ?_
  refine lv_iconst (v := (nI 2)) hx hb dL_law_482 (by decide) ?_
  refine lv_iadd hx hb dL_law_483 ?_
  rw [z_add]
  refine y_ld C hB.2.2.2.2.2 (show i + 2 < L by omega) hL dL_law_484 ?_
  refine lv_aload_n hx hb dL_law_485 rfl (lv_at hl 0 rfl) ?_
  refine lv_iload_n hx hb dL_law_486 rfl (lv_at hl 3 rfl) ?_
  refine lv_iconst (v := (nI 3)) hx hb dL_law_487 (by decide) ?_
  refine lv_iadd hx hb dL_law_488 ?_
  rw [z_add]
  refine y_ld C hB.2.2.2.2.2 (show i + 3 < L by omega) hL dL_law_489 ?_
  refine lv_aload_n hx hb dL_law_490 rfl (lv_at hl 0 rfl) ?_
  refine lv_iload_n hx hb dL_law_491 rfl (lv_at hl 3 rfl) ?_
  refine lv_iconst (v := (nI 4)) hx hb dL_law_492 (by decide) ?_
  refine lv_iadd hx hb dL_law_493 ?_
  rw [z_add]
  refine y_ld C hB.2.2.2.2.2 (show i + 4 < L by omega) hL dL_law_494 ?_
  refine y_callX C hB (As := [.int (xs (i + 1)), .int (xs (i + 2)), .int (xs (i + 3)), .int (xs (i + 4))]) (rest := []) (c_X11_spend hB.2.2.1 (by omega) e1) lm_48 lv_48 (by omega) rfl ⟨rfl, rfl, by decide, by decide⟩ rfl hl.1 rfl (Nat.le_of_ble_eq_true rfl) dL_law_495 ⟨by omega, by omega⟩ (fun H locs hB => ?_)
  refine lv_aload_n hx hb dL_law_498 rfl (lv_at hl 2 rfl) ?_
  refine lv_aload_n hx hb dL_law_499 rfl (lv_at hl 0 rfl) ?_
  refine lv_iload_n hx hb dL_law_500 rfl (lv_at hl 3 rfl) ?_
  refine lv_iconst (v := (nI 1)) hx hb dL_law_501 (by decide) ?_
  refine lv_iadd hx hb dL_law_502 ?_
  rw [z_add]
  refine y_ld C hB.2.2.2.2.2 (show i + 1 < L by omega) hL dL_law_503 ?_
  refine lv_aload_n hx hb dL_law_504 rfl (lv_at hl 0 rfl) ?_
  refine lv_iload_n hx hb dL_law_505 rfl (lv_at hl 3 rfl) ?_
  refine lv_iconst (v := (nI 2)) hx hb dL_law_506 (by decide) ?_
  refine lv_iadd hx hb dL_law_507 ?_
  rw [z_add]
  refine y_ld C hB.2.2.2.2.2 (show i + 2 < L by omega) hL dL_law_508 ?_
  refine lv_aload_n hx hb dL_law_509 rfl (lv_at hl 0 rfl) ?_
  refine lv_iload_n hx hb dL_law_510 rfl (lv_at hl 3 rfl) ?_
  refine lv_iconst (v := (nI 3)) hx hb dL_law_511 (by decide) ?_
  refine lv_iadd hx hb dL_law_512 ?_
  rw [z_add]
  refine y_ld C hB.2.2.2.2.2 (show i + 3 < L by omega) hL dL_law_513 ?_
  refine lv_aload_n hx hb dL_law_514 rfl (lv_at hl 0 rfl) ?_
  refine lv_iload_n hx hb dL_law_515 rfl (lv_at hl 3 rfl) ?_
  refine lv_iconst (v := (nI 4)) hx hb dL_law_516 (by decide) ?_
  refine lv_iadd hx hb dL_law_517 ?_
  rw [z_add]
  refine y_ld C hB.2.2.2.2.2 (show i + 4 < L by omega) hL dL_law_518 ?_
  refine y_callM C hB (As := [.int (xs (i + 1)), .int (xs (i + 2)), .int (xs (i + 3)), .int (xs (i + 4))]) (rest := [.int r]) (c_X12_spend hB.2.2.2.1 e2) lm_52 lv_52 rfl ⟨rfl, rfl, by decide, by decide⟩ rfl hl.1 rfl (Nat.le_of_ble_eq_true rfl) dL_law_519 ⟨by omega, by omega⟩ (fun H locs hB => ?_)
  exact lv_icmp_eq (tgt := 1484) hx hb dL_law_522 (by decide) (fun _ => W.widen (k := cells + 3) (n := slots + 267) (by omega) (by omega) (K q NC X' M' H locs hB e4 (by omega) rfl)) (fun h => absurd rfl h)
set_option maxHeartbeats 4000000 in
set_option maxRecDepth 100000 in
theorem y_c_gift {Rl : Nat → x_M → x_M → Prop} {p : Program} {l : Launch} {e : Env} {s : State} {m : MethodId} {below : List Frame} {meth : Method} {c : Code} {Q : State → Prop} {b L : Nat} {xs : Nat → Int32} {D : va_G} {cy : Nat → ClassId} {ad adV q qm : Nat → Nat} {NC i cells slots : Nat} {X M : x_M} {H : Heap} {locs : List Loc} {ls : Array Slot} (hE : y_H_gift Rl) (C : y_C p s m c b L xs D cy ad adV) (hB : y_B D cy ad s q NC X qm M H locs) (hR : Rl NC X M) (hN : 94 ≤ NC ∧ NC % 3 = 1 ∧ NC + 3 ≤ 100000) (hL : L ≤ 3072) (hi : i + 6 ≤ L) (hl : lv_has ls 4 [(0, .ref b), (1, .ref (q 0)), (2, .ref (qm 0)), (3, .int (nI i))]) (hcap : cells + 3 ≤ 600000 ∧ slots + 267 ≤ 7302250)
    (K : ∀ (q' : Nat → Nat) (NC' : Nat) (X' M' : x_M) (H : Heap) (locs : List Loc), y_B D cy ad s q' NC' X' qm M' H locs → Rl NC' X' M' → NC' ≤ NC + 3 → q' 0 = q 0 → W p l e room_1 s m #[Value.ref b] below meth c H locs (cells + 3) (slots + 267) Q (F0 m 1484 ls [])) : W p l e room_1 s m #[Value.ref b] below meth c H locs cells slots Q (F0 m 527 ls []) := by
  have hx := C.1.1
  have hb := C.1.2.1
  obtain ⟨r, X', M', e1, e2, e4⟩ := hE NC X M (xs (i + 1)) (xs (i + 2)) (xs (i + 3)) (xs (i + 4)) hR
  refine lv_aload_n hx hb dL_law_527 rfl (lv_at hl 1 rfl) ?_
  refine lv_aload_n hx hb dL_law_528 rfl (lv_at hl 0 rfl) ?_
  refine lv_iload_n hx hb dL_law_529 rfl (lv_at hl 3 rfl) ?_
  refine lv_iconst (v := (nI 1)) hx hb dL_law_530 (by decide) ?_
  refine lv_iadd hx hb dL_law_531 ?_
  rw [z_add]
  refine y_ld C hB.2.2.2.2.2 (show i + 1 < L by omega) hL dL_law_532 ?_
  refine lv_aload_n hx hb dL_law_533 rfl (lv_at hl 0 rfl) ?_
  refine lv_iload_n hx hb dL_law_534 rfl (lv_at hl 3 rfl) ?_
  refine lv_iconst (v := (nI 2)) hx hb dL_law_535 (by decide) ?_
  refine lv_iadd hx hb dL_law_536 ?_
  rw [z_add]
  refine y_ld C hB.2.2.2.2.2 (show i + 2 < L by omega) hL dL_law_537 ?_
  refine lv_aload_n hx hb dL_law_538 rfl (lv_at hl 0 rfl) ?_
  refine lv_iload_n hx hb dL_law_539 rfl (lv_at hl 3 rfl) ?_
  refine lv_iconst (v := (nI 3)) hx hb dL_law_540 (by decide) ?_
  refine lv_iadd hx hb dL_law_541 ?_
  rw [z_add]
  refine y_ld C hB.2.2.2.2.2 (show i + 3 < L by omega) hL dL_law_542 ?_
  refine lv_aload_n hx hb dL_law_543 rfl (lv_at hl 0 rfl) ?_
  refine lv_iload_n hx hb dL_law_544 rfl (lv_at hl 3 rfl) ?_
  refine lv_iconst (v := (nI 4)) hx hb dL_law_545 (by decide) ?_
  refine lv_iadd hx hb dL_law_546 ?_
  rw [z_add]
  refine y_ld C hB.2.2.2.2.2 (show i + 4 < L by omega) hL dL_law_547 ?_
  refine y_callX C hB (As := [.int (xs (i + 1)), .int (xs (i + 2)), .int (xs (i + 3)), .int (xs (i + 4))]) (rest := []) (c_X11_gift hB.2.2.1 (by omega) e1) lm_53 lv_53 (by omega) rfl ⟨rfl, rfl, by decide, by decide⟩ rfl hl.1 rfl (Nat.le_of_ble_eq_true rfl) dL_law_548 ⟨by omega, by omega⟩ (fun H locs hB => ?_)
  refine lv_aload_n hx hb dL_law_551 rfl (lv_at hl 2 rfl) ?_
  refine lv_aload_n hx hb dL_law_552 rfl (lv_at hl 0 rfl) ?_
  refine lv_iload_n hx hb dL_law_553 rfl (lv_at hl 3 rfl) ?_
  refine lv_iconst (v := (nI 1)) hx hb dL_law_554 (by decide) ?_
  refine lv_iadd hx hb dL_law_555 ?_
  rw [z_add]
  refine y_ld C hB.2.2.2.2.2 (show i + 1 < L by omega) hL dL_law_556 ?_
  refine lv_aload_n hx hb dL_law_557 rfl (lv_at hl 0 rfl) ?_
  refine lv_iload_n hx hb dL_law_558 rfl (lv_at hl 3 rfl) ?_
  refine lv_iconst (v := (nI 2)) hx hb dL_law_559 (by decide) ?_
  refine lv_iadd hx hb dL_law_560 ?_
  rw [z_add]
  refine y_ld C hB.2.2.2.2.2 (show i + 2 < L by omega) hL dL_law_561 ?_
  refine lv_aload_n hx hb dL_law_562 rfl (lv_at hl 0 rfl) ?_
  refine lv_iload_n hx hb dL_law_563 rfl (lv_at hl 3 rfl) ?_
  refine lv_iconst (v := (nI 3)) hx hb dL_law_564 (by decide) ?_
  refine lv_iadd hx hb dL_law_565 ?_
  rw [z_add]
  refine y_ld C hB.2.2.2.2.2 (show i + 3 < L by omega) hL dL_law_566 ?_
  refine lv_aload_n hx hb dL_law_567 rfl (lv_at hl 0 rfl) ?_
  refine lv_iload_n hx hb dL_law_568 rfl (lv_at hl 3 rfl) ?_
  refine lv_iconst (v := (nI 4)) hx hb dL_law_569 (by decide) ?_
  refine lv_iadd hx hb dL_law_570 ?_
  rw [z_add]
  refine y_ld C hB.2.2.2.2.2 (show i + 4 < L by omega) hL dL_law_571 ?_
  refine y_callM C hB (As := [.int (xs (i + 1)), .int (xs (i + 2)), .int (xs (i + 3)), .int (xs (i + 4))]) (rest := [.int r]) (c_X12_gift hB.2.2.2.1 e2) lm_56 lv_56 rfl ⟨rfl, rfl, by decide, by decide⟩ rfl hl.1 rfl (Nat.le_of_ble_eq_true rfl) dL_law_572 ⟨by omega, by omega⟩ (fun H locs hB => ?_)
  exact lv_icmp_eq (tgt := 1484) hx hb dL_law_575 (by decide) (fun _ => W.widen (k := cells + 3) (n := slots + 267) (by omega) (by omega) (K q NC X' M' H locs hB e4 (by omega) rfl)) (fun h => absurd rfl h)
set_option maxHeartbeats 4000000 in
set_option maxRecDepth 100000 in
theorem y_c_back {Rl : Nat → x_M → x_M → Prop} {p : Program} {l : Launch} {e : Env} {s : State} {m : MethodId} {below : List Frame} {meth : Method} {c : Code} {Q : State → Prop} {b L : Nat} {xs : Nat → Int32} {D : va_G} {cy : Nat → ClassId} {ad adV q qm : Nat → Nat} {NC i cells slots : Nat} {X M : x_M} {H : Heap} {locs : List Loc} {ls : Array Slot} (hE : y_H_back Rl) (C : y_C p s m c b L xs D cy ad adV) (hB : y_B D cy ad s q NC X qm M H locs) (hR : Rl NC X M) (hN : 94 ≤ NC ∧ NC % 3 = 1 ∧ NC + 3 ≤ 100000) (hL : L ≤ 3072) (hi : i + 6 ≤ L) (hl : lv_has ls 4 [(0, .ref b), (1, .ref (q 0)), (2, .ref (qm 0)), (3, .int (nI i))]) (hcap : cells + 3 ≤ 600000 ∧ slots + 267 ≤ 7302250)
    (K : ∀ (q' : Nat → Nat) (NC' : Nat) (X' M' : x_M) (H : Heap) (locs : List Loc), y_B D cy ad s q' NC' X' qm M' H locs → Rl NC' X' M' → NC' ≤ NC + 3 → q' 0 = q 0 → W p l e room_1 s m #[Value.ref b] below meth c H locs (cells + 3) (slots + 267) Q (F0 m 1484 ls [])) : W p l e room_1 s m #[Value.ref b] below meth c H locs cells slots Q (F0 m 580 ls []) := by
  have hx := C.1.1
  have hb := C.1.2.1
  obtain ⟨r, X', M', e1, e2, e4⟩ := hE NC X M (xs (i + 1)) (xs (i + 2)) hR
  refine lv_aload_n hx hb dL_law_580 rfl (lv_at hl 1 rfl) ?_
  refine lv_aload_n hx hb dL_law_581 rfl (lv_at hl 0 rfl) ?_
  refine lv_iload_n hx hb dL_law_582 rfl (lv_at hl 3 rfl) ?_
  refine lv_iconst (v := (nI 1)) hx hb dL_law_583 (by decide) ?_
  refine lv_iadd hx hb dL_law_584 ?_
  rw [z_add]
  refine y_ld C hB.2.2.2.2.2 (show i + 1 < L by omega) hL dL_law_585 ?_
  refine lv_aload_n hx hb dL_law_586 rfl (lv_at hl 0 rfl) ?_
  refine lv_iload_n hx hb dL_law_587 rfl (lv_at hl 3 rfl) ?_
  refine lv_iconst (v := (nI 2)) hx hb dL_law_588 (by decide) ?_
  refine lv_iadd hx hb dL_law_589 ?_
  rw [z_add]
  refine y_ld C hB.2.2.2.2.2 (show i + 2 < L by omega) hL dL_law_590 ?_
  refine y_callX C hB (As := [.int (xs (i + 1)), .int (xs (i + 2))]) (rest := []) (c_X11_back hB.2.2.1 (by omega) e1) lm_57 lv_57 (by omega) rfl ⟨rfl, rfl, by decide, by decide⟩ rfl hl.1 rfl (Nat.le_of_ble_eq_true rfl) dL_law_591 ⟨by omega, by omega⟩ (fun H locs hB => ?_)
  refine lv_aload_n hx hb dL_law_594 rfl (lv_at hl 2 rfl) ?_
  refine lv_aload_n hx hb dL_law_595 rfl (lv_at hl 0 rfl) ?_
  refine lv_iload_n hx hb dL_law_596 rfl (lv_at hl 3 rfl) ?_
  refine lv_iconst (v := (nI 1)) hx hb dL_law_597 (by decide) ?_
  refine lv_iadd hx hb dL_law_598 ?_
  rw [z_add]
  refine y_ld C hB.2.2.2.2.2 (show i + 1 < L by omega) hL dL_law_599 ?_
  refine lv_aload_n hx hb dL_law_600 rfl (lv_at hl 0 rfl) ?_
  refine lv_iload_n hx hb dL_law_601 rfl (lv_at hl 3 rfl) ?_
  refine lv_iconst (v := (nI 2)) hx hb dL_law_602 (by decide) ?_
  refine lv_iadd hx hb dL_law_603 ?_
  rw [z_add]
  refine y_ld C hB.2.2.2.2.2 (show i + 2 < L by omega) hL dL_law_604 ?_
  refine y_callM C hB (As := [.int (xs (i + 1)), .int (xs (i + 2))]) (rest := [.int r]) (c_X12_back hB.2.2.2.1 e2) lm_60 lv_60 rfl ⟨rfl, rfl, by decide, by decide⟩ rfl hl.1 rfl (Nat.le_of_ble_eq_true rfl) dL_law_605 ⟨by omega, by omega⟩ (fun H locs hB => ?_)
  exact lv_icmp_eq (tgt := 1484) hx hb dL_law_608 (by decide) (fun _ => W.widen (k := cells + 3) (n := slots + 267) (by omega) (by omega) (K q NC X' M' H locs hB e4 (by omega) rfl)) (fun h => absurd rfl h)
set_option maxHeartbeats 4000000 in
set_option maxRecDepth 100000 in
theorem y_c_withdraw {Rl : Nat → x_M → x_M → Prop} {p : Program} {l : Launch} {e : Env} {s : State} {m : MethodId} {below : List Frame} {meth : Method} {c : Code} {Q : State → Prop} {b L : Nat} {xs : Nat → Int32} {D : va_G} {cy : Nat → ClassId} {ad adV q qm : Nat → Nat} {NC i cells slots : Nat} {X M : x_M} {H : Heap} {locs : List Loc} {ls : Array Slot} (hE : y_H_withdraw Rl) (C : y_C p s m c b L xs D cy ad adV) (hB : y_B D cy ad s q NC X qm M H locs) (hR : Rl NC X M) (hN : 94 ≤ NC ∧ NC % 3 = 1 ∧ NC + 3 ≤ 100000) (hL : L ≤ 3072) (hi : i + 6 ≤ L) (hl : lv_has ls 4 [(0, .ref b), (1, .ref (q 0)), (2, .ref (qm 0)), (3, .int (nI i))]) (hcap : cells + 3 ≤ 600000 ∧ slots + 267 ≤ 7302250)
    (K : ∀ (q' : Nat → Nat) (NC' : Nat) (X' M' : x_M) (H : Heap) (locs : List Loc), y_B D cy ad s q' NC' X' qm M' H locs → Rl NC' X' M' → NC' ≤ NC + 3 → q' 0 = q 0 → W p l e room_1 s m #[Value.ref b] below meth c H locs (cells + 3) (slots + 267) Q (F0 m 1484 ls [])) : W p l e room_1 s m #[Value.ref b] below meth c H locs cells slots Q (F0 m 613 ls []) := by
  have hx := C.1.1
  have hb := C.1.2.1
  obtain ⟨r, X', M', e1, e2, e4⟩ := hE NC X M (xs (i + 1)) hR
  refine lv_aload_n hx hb dL_law_613 rfl (lv_at hl 1 rfl) ?_
  refine lv_aload_n hx hb dL_law_614 rfl (lv_at hl 0 rfl) ?_
  refine lv_iload_n hx hb dL_law_615 rfl (lv_at hl 3 rfl) ?_
  refine lv_iconst (v := (nI 1)) hx hb dL_law_616 (by decide) ?_
  refine lv_iadd hx hb dL_law_617 ?_
  rw [z_add]
  refine y_ld C hB.2.2.2.2.2 (show i + 1 < L by omega) hL dL_law_618 ?_
  refine y_callX C hB (As := [.int (xs (i + 1))]) (rest := []) (c_X11_withdraw hB.2.2.1 (by omega) e1) lm_61 lv_61 (by omega) rfl ⟨rfl, rfl, by decide, by decide⟩ rfl hl.1 rfl (Nat.le_of_ble_eq_true rfl) dL_law_619 ⟨by omega, by omega⟩ (fun H locs hB => ?_)
  refine lv_aload_n hx hb dL_law_622 rfl (lv_at hl 2 rfl) ?_
  refine lv_aload_n hx hb dL_law_623 rfl (lv_at hl 0 rfl) ?_
  refine lv_iload_n hx hb dL_law_624 rfl (lv_at hl 3 rfl) ?_
  refine lv_iconst (v := (nI 1)) hx hb dL_law_625 (by decide) ?_
  refine lv_iadd hx hb dL_law_626 ?_
  rw [z_add]
  refine y_ld C hB.2.2.2.2.2 (show i + 1 < L by omega) hL dL_law_627 ?_
  refine y_callM C hB (As := [.int (xs (i + 1))]) (rest := [.int r]) (c_X12_withdraw hB.2.2.2.1 e2) lm_64 lv_64 rfl ⟨rfl, rfl, by decide, by decide⟩ rfl hl.1 rfl (Nat.le_of_ble_eq_true rfl) dL_law_628 ⟨by omega, by omega⟩ (fun H locs hB => ?_)
  exact lv_icmp_eq (tgt := 1484) hx hb dL_law_631 (by decide) (fun _ => W.widen (k := cells + 3) (n := slots + 267) (by omega) (by omega) (K q NC X' M' H locs hB e4 (by omega) rfl)) (fun h => absurd rfl h)
set_option maxHeartbeats 4000000 in
set_option maxRecDepth 100000 in
theorem y_c_line {Rl : Nat → x_M → x_M → Prop} {p : Program} {l : Launch} {e : Env} {s : State} {m : MethodId} {below : List Frame} {meth : Method} {c : Code} {Q : State → Prop} {b L : Nat} {xs : Nat → Int32} {D : va_G} {cy : Nat → ClassId} {ad adV q qm : Nat → Nat} {NC i cells slots : Nat} {X M : x_M} {H : Heap} {locs : List Loc} {ls : Array Slot} (hE : y_H_line Rl) (C : y_C p s m c b L xs D cy ad adV) (hB : y_B D cy ad s q NC X qm M H locs) (hR : Rl NC X M) (hN : 94 ≤ NC ∧ NC % 3 = 1 ∧ NC + 3 ≤ 100000) (hL : L ≤ 3072) (hi : i + 6 ≤ L) (hl : lv_has ls 4 [(0, .ref b), (1, .ref (q 0)), (2, .ref (qm 0)), (3, .int (nI i))]) (hcap : cells + 3 ≤ 600000 ∧ slots + 267 ≤ 7302250)
    (K : ∀ (q' : Nat → Nat) (NC' : Nat) (X' M' : x_M) (H : Heap) (locs : List Loc), y_B D cy ad s q' NC' X' qm M' H locs → Rl NC' X' M' → NC' ≤ NC + 3 → q' 0 = q 0 → W p l e room_1 s m #[Value.ref b] below meth c H locs (cells + 3) (slots + 267) Q (F0 m 1484 ls [])) : W p l e room_1 s m #[Value.ref b] below meth c H locs cells slots Q (F0 m 636 ls []) := by
  have hx := C.1.1
  have hb := C.1.2.1
  obtain ⟨r, X', M', e1, e2, e4⟩ := hE NC X M (xs (i + 1)) (xs (i + 2)) hR
  refine lv_aload_n hx hb dL_law_636 rfl (lv_at hl 1 rfl) ?_
  refine lv_aload_n hx hb dL_law_637 rfl (lv_at hl 0 rfl) ?_
  refine lv_iload_n hx hb dL_law_638 rfl (lv_at hl 3 rfl) ?_
  refine lv_iconst (v := (nI 1)) hx hb dL_law_639 (by decide) ?_
  refine lv_iadd hx hb dL_law_640 ?_
  rw [z_add]
  refine y_ld C hB.2.2.2.2.2 (show i + 1 < L by omega) hL dL_law_641 ?_
  refine lv_aload_n hx hb dL_law_642 rfl (lv_at hl 0 rfl) ?_
  refine lv_iload_n hx hb dL_law_643 rfl (lv_at hl 3 rfl) ?_
  refine lv_iconst (v := (nI 2)) hx hb dL_law_644 (by decide) ?_
  refine lv_iadd hx hb dL_law_645 ?_
  rw [z_add]
  refine y_ld C hB.2.2.2.2.2 (show i + 2 < L by omega) hL dL_law_646 ?_
  refine y_callX C hB (As := [.int (xs (i + 1)), .int (xs (i + 2))]) (rest := []) (c_X11_line hB.2.2.1 (by omega) e1) lm_65 lv_65 (by omega) rfl ⟨rfl, rfl, by decide, by decide⟩ rfl hl.1 rfl (Nat.le_of_ble_eq_true rfl) dL_law_647 ⟨by omega, by omega⟩ (fun H locs hB => ?_)
  refine lv_aload_n hx hb dL_law_650 rfl (lv_at hl 2 rfl) ?_
  refine lv_aload_n hx hb dL_law_651 rfl (lv_at hl 0 rfl) ?_
  refine lv_iload_n hx hb dL_law_652 rfl (lv_at hl 3 rfl) ?_
  refine lv_iconst (v := (nI 1)) hx hb dL_law_653 (by decide) ?_
  refine lv_iadd hx hb dL_law_654 ?_
  rw [z_add]
  refine y_ld C hB.2.2.2.2.2 (show i + 1 < L by omega) hL dL_law_655 ?_
  refine lv_aload_n hx hb dL_law_656 rfl (lv_at hl 0 rfl) ?_
  refine lv_iload_n hx hb dL_law_657 rfl (lv_at hl 3 rfl) ?_
  refine lv_iconst (v := (nI 2)) hx hb dL_law_658 (by decide) ?_
  refine lv_iadd hx hb dL_law_659 ?_
  rw [z_add]
  refine y_ld C hB.2.2.2.2.2 (show i + 2 < L by omega) hL dL_law_660 ?_
  refine y_callM C hB (As := [.int (xs (i + 1)), .int (xs (i + 2))]) (rest := [.int r]) (c_X12_line hB.2.2.2.1 e2) lm_68 lv_68 rfl ⟨rfl, rfl, by decide, by decide⟩ rfl hl.1 rfl (Nat.le_of_ble_eq_true rfl) dL_law_661 ⟨by omega, by omega⟩ (fun H locs hB => ?_)
  exact lv_icmp_eq (tgt := 1484) hx hb dL_law_664 (by decide) (fun _ => W.widen (k := cells + 3) (n := slots + 267) (by omega) (by omega) (K q NC X' M' H locs hB e4 (by omega) rfl)) (fun h => absurd rfl h)
set_option maxHeartbeats 4000000 in
set_option maxRecDepth 100000 in
theorem y_c_stands {Rl : Nat → x_M → x_M → Prop} {p : Program} {l : Launch} {e : Env} {s : State} {m : MethodId} {below : List Frame} {meth : Method} {c : Code} {Q : State → Prop} {b L : Nat} {xs : Nat → Int32} {D : va_G} {cy : Nat → ClassId} {ad adV q qm : Nat → Nat} {NC i cells slots : Nat} {X M : x_M} {H : Heap} {locs : List Loc} {ls : Array Slot} (hE : y_H_stands Rl) (C : y_C p s m c b L xs D cy ad adV) (hB : y_B D cy ad s q NC X qm M H locs) (hR : Rl NC X M) (hN : 94 ≤ NC ∧ NC % 3 = 1 ∧ NC + 3 ≤ 100000) (hL : L ≤ 3072) (hi : i + 6 ≤ L) (hl : lv_has ls 4 [(0, .ref b), (1, .ref (q 0)), (2, .ref (qm 0)), (3, .int (nI i))]) (hcap : cells + 3 ≤ 600000 ∧ slots + 267 ≤ 7302250)
    (K : ∀ (q' : Nat → Nat) (NC' : Nat) (X' M' : x_M) (H : Heap) (locs : List Loc), y_B D cy ad s q' NC' X' qm M' H locs → Rl NC' X' M' → NC' ≤ NC + 3 → q' 0 = q 0 → W p l e room_1 s m #[Value.ref b] below meth c H locs (cells + 3) (slots + 267) Q (F0 m 1484 ls [])) : W p l e room_1 s m #[Value.ref b] below meth c H locs cells slots Q (F0 m 669 ls []) := by
  have hx := C.1.1
  have hb := C.1.2.1
  obtain ⟨r, X', M', e1, e2, e4⟩ := hE NC X M (xs (i + 1)) (xs (i + 2)) (xs (i + 3)) (xs (i + 4)) hR
  refine lv_aload_n hx hb dL_law_669 rfl (lv_at hl 1 rfl) ?_
  refine lv_aload_n hx hb dL_law_670 rfl (lv_at hl 0 rfl) ?_
  refine lv_iload_n hx hb dL_law_671 rfl (lv_at hl 3 rfl) ?_
  refine lv_iconst (v := (nI 1)) hx hb dL_law_672 (by decide) ?_
  refine lv_iadd hx hb dL_law_673 ?_
  rw [z_add]
  refine y_ld C hB.2.2.2.2.2 (show i + 1 < L by omega) hL dL_law_674 ?_
  refine lv_aload_n hx hb dL_law_675 rfl (lv_at hl 0 rfl) ?_
  refine lv_iload_n hx hb dL_law_676 rfl (lv_at hl 3 rfl) ?_
  refine lv_iconst (v := (nI 2)) hx hb dL_law_677 (by decide) ?_
  refine lv_iadd hx hb dL_law_678 ?_
  rw [z_add]
  refine y_ld C hB.2.2.2.2.2 (show i + 2 < L by omega) hL dL_law_679 ?_
  refine lv_aload_n hx hb dL_law_680 rfl (lv_at hl 0 rfl) ?_
  refine lv_iload_n hx hb dL_law_681 rfl (lv_at hl 3 rfl) ?_
  refine lv_iconst (v := (nI 3)) hx hb dL_law_682 (by decide) ?_
  refine lv_iadd hx hb dL_law_683 ?_
  rw [z_add]
  refine y_ld C hB.2.2.2.2.2 (show i + 3 < L by omega) hL dL_law_684 ?_
  refine lv_aload_n hx hb dL_law_685 rfl (lv_at hl 0 rfl) ?_
  refine lv_iload_n hx hb dL_law_686 rfl (lv_at hl 3 rfl) ?_
  refine lv_iconst (v := (nI 4)) hx hb dL_law_687 (by decide) ?_
  refine lv_iadd hx hb dL_law_688 ?_
  rw [z_add]
  refine y_ld C hB.2.2.2.2.2 (show i + 4 < L by omega) hL dL_law_689 ?_
  refine y_callX C hB (As := [.int (xs (i + 1)), .int (xs (i + 2)), .int (xs (i + 3)), .int (xs (i + 4))]) (rest := []) (c_X11_stands hB.2.2.1 (by omega) e1) lm_69 lv_69 (by omega) rfl ⟨rfl, rfl, by decide, by decide⟩ rfl hl.1 rfl (Nat.le_of_ble_eq_true rfl) dL_law_690 ⟨by omega, by omega⟩ (fun H locs hB => ?_)
  refine lv_aload_n hx hb dL_law_693 rfl (lv_at hl 2 rfl) ?_
  refine lv_aload_n hx hb dL_law_694 rfl (lv_at hl 0 rfl) ?_
  refine lv_iload_n hx hb dL_law_695 rfl (lv_at hl 3 rfl) ?_
  refine lv_iconst (v := (nI 1)) hx hb dL_law_696 (by decide) ?_
  refine lv_iadd hx hb dL_law_697 ?_
  rw [z_add]
  refine y_ld C hB.2.2.2.2.2 (show i + 1 < L by omega) hL dL_law_698 ?_
  refine lv_aload_n hx hb dL_law_699 rfl (lv_at hl 0 rfl) ?_
  refine lv_iload_n hx hb dL_law_700 rfl (lv_at hl 3 rfl) ?_
  refine lv_iconst (v := (nI 2)) hx hb dL_law_701 (by decide) ?_
  refine lv_iadd hx hb dL_law_702 ?_
  rw [z_add]
  refine y_ld C hB.2.2.2.2.2 (show i + 2 < L by omega) hL dL_law_703 ?_
  refine lv_aload_n hx hb dL_law_704 rfl (lv_at hl 0 rfl) ?_
  refine lv_iload_n hx hb dL_law_705 rfl (lv_at hl 3 rfl) ?_
  refine lv_iconst (v := (nI 3)) hx hb dL_law_706 (by decide) ?_
  refine lv_iadd hx hb dL_law_707 ?_
  rw [z_add]
  refine y_ld C hB.2.2.2.2.2 (show i + 3 < L by omega) hL dL_law_708 ?_
  refine lv_aload_n hx hb dL_law_709 rfl (lv_at hl 0 rfl) ?_
  refine lv_iload_n hx hb dL_law_710 rfl (lv_at hl 3 rfl) ?_
  refine lv_iconst (v := (nI 4)) hx hb dL_law_711 (by decide) ?_
  refine lv_iadd hx hb dL_law_712 ?_
  rw [z_add]
  refine y_ld C hB.2.2.2.2.2 (show i + 4 < L by omega) hL dL_law_713 ?_
  refine y_callM C hB (As := [.int (xs (i + 1)), .int (xs (i + 2)), .int (xs (i + 3)), .int (xs (i + 4))]) (rest := [.int r]) (c_X12_stands hB.2.2.2.1 e2) lm_72 lv_72 rfl ⟨rfl, rfl, by decide, by decide⟩ rfl hl.1 rfl (Nat.le_of_ble_eq_true rfl) dL_law_714 ⟨by omega, by omega⟩ (fun H locs hB => ?_)
  exact lv_icmp_eq (tgt := 1484) hx hb dL_law_717 (by decide) (fun _ => W.widen (k := cells + 3) (n := slots + 267) (by omega) (by omega) (K q NC X' M' H locs hB e4 (by omega) rfl)) (fun h => absurd rfl h)
set_option maxHeartbeats 4000000 in
set_option maxRecDepth 100000 in
theorem y_c_brought {Rl : Nat → x_M → x_M → Prop} {p : Program} {l : Launch} {e : Env} {s : State} {m : MethodId} {below : List Frame} {meth : Method} {c : Code} {Q : State → Prop} {b L : Nat} {xs : Nat → Int32} {D : va_G} {cy : Nat → ClassId} {ad adV q qm : Nat → Nat} {NC i cells slots : Nat} {X M : x_M} {H : Heap} {locs : List Loc} {ls : Array Slot} (hE : y_H_brought Rl) (C : y_C p s m c b L xs D cy ad adV) (hB : y_B D cy ad s q NC X qm M H locs) (hR : Rl NC X M) (hN : 94 ≤ NC ∧ NC % 3 = 1 ∧ NC + 3 ≤ 100000) (hL : L ≤ 3072) (hi : i + 6 ≤ L) (hl : lv_has ls 4 [(0, .ref b), (1, .ref (q 0)), (2, .ref (qm 0)), (3, .int (nI i))]) (hcap : cells + 3 ≤ 600000 ∧ slots + 267 ≤ 7302250)
    (K : ∀ (q' : Nat → Nat) (NC' : Nat) (X' M' : x_M) (H : Heap) (locs : List Loc), y_B D cy ad s q' NC' X' qm M' H locs → Rl NC' X' M' → NC' ≤ NC + 3 → q' 0 = q 0 → W p l e room_1 s m #[Value.ref b] below meth c H locs (cells + 3) (slots + 267) Q (F0 m 1484 ls [])) : W p l e room_1 s m #[Value.ref b] below meth c H locs cells slots Q (F0 m 722 ls []) := by
  have hx := C.1.1
  have hb := C.1.2.1
  obtain ⟨r, X', M', e1, e2, e4⟩ := hE NC X M (xs (i + 1)) (xs (i + 2)) (xs (i + 3)) hR
  refine lv_aload_n hx hb dL_law_722 rfl (lv_at hl 1 rfl) ?_
  refine lv_aload_n hx hb dL_law_723 rfl (lv_at hl 0 rfl) ?_
  refine lv_iload_n hx hb dL_law_724 rfl (lv_at hl 3 rfl) ?_
  refine lv_iconst (v := (nI 1)) hx hb dL_law_725 (by decide) ?_
  refine lv_iadd hx hb dL_law_726 ?_
  rw [z_add]
  refine y_ld C hB.2.2.2.2.2 (show i + 1 < L by omega) hL dL_law_727 ?_
  refine lv_aload_n hx hb dL_law_728 rfl (lv_at hl 0 rfl) ?_
  refine lv_iload_n hx hb dL_law_729 rfl (lv_at hl 3 rfl) ?_
  refine lv_iconst (v := (nI 2)) hx hb dL_law_730 (by decide) ?_
  refine lv_iadd hx hb dL_law_731 ?_
  rw [z_add]
  refine y_ld C hB.2.2.2.2.2 (show i + 2 < L by omega) hL dL_law_732 ?_
  refine lv_aload_n hx hb dL_law_733 rfl (lv_at hl 0 rfl) ?_
  refine lv_iload_n hx hb dL_law_734 rfl (lv_at hl 3 rfl) ?_
  refine lv_iconst (v := (nI 3)) hx hb dL_law_735 (by decide) ?_
  refine lv_iadd hx hb dL_law_736 ?_
  rw [z_add]
  refine y_ld C hB.2.2.2.2.2 (show i + 3 < L by omega) hL dL_law_737 ?_
  refine y_callX C hB (As := [.int (xs (i + 1)), .int (xs (i + 2)), .int (xs (i + 3))]) (rest := []) (c_X11_brought hB.2.2.1 (by omega) e1) lm_73 lv_73 (by omega) rfl ⟨rfl, rfl, by decide, by decide⟩ rfl hl.1 rfl (Nat.le_of_ble_eq_true rfl) dL_law_738 ⟨by omega, by omega⟩ (fun H locs hB => ?_)
  refine lv_aload_n hx hb dL_law_741 rfl (lv_at hl 2 rfl) ?_
  refine lv_aload_n hx hb dL_law_742 rfl (lv_at hl 0 rfl) ?_
  refine lv_iload_n hx hb dL_law_743 rfl (lv_at hl 3 rfl) ?_
  refine lv_iconst (v := (nI 1)) hx hb dL_law_744 (by decide) ?_
  refine lv_iadd hx hb dL_law_745 ?_
  rw [z_add]
  refine y_ld C hB.2.2.2.2.2 (show i + 1 < L by omega) hL dL_law_746 ?_
  refine lv_aload_n hx hb dL_law_747 rfl (lv_at hl 0 rfl) ?_
  refine lv_iload_n hx hb dL_law_748 rfl (lv_at hl 3 rfl) ?_
  refine lv_iconst (v := (nI 2)) hx hb dL_law_749 (by decide) ?_
  refine lv_iadd hx hb dL_law_750 ?_
  rw [z_add]
  refine y_ld C hB.2.2.2.2.2 (show i + 2 < L by omega) hL dL_law_751 ?_
  refine lv_aload_n hx hb dL_law_752 rfl (lv_at hl 0 rfl) ?_
  refine lv_iload_n hx hb dL_law_753 rfl (lv_at hl 3 rfl) ?_
  refine lv_iconst (v := (nI 3)) hx hb dL_law_754 (by decide) ?_
  refine lv_iadd hx hb dL_law_755 ?_
  rw [z_add]
  refine y_ld C hB.2.2.2.2.2 (show i + 3 < L by omega) hL dL_law_756 ?_
  refine y_callM C hB (As := [.int (xs (i + 1)), .int (xs (i + 2)), .int (xs (i + 3))]) (rest := [.int r]) (c_X12_brought hB.2.2.2.1 e2) lm_77 lv_77 rfl ⟨rfl, rfl, by decide, by decide⟩ rfl hl.1 rfl (Nat.le_of_ble_eq_true rfl) dL_law_757 ⟨by omega, by omega⟩ (fun H locs hB => ?_)
  exact lv_icmp_eq (tgt := 1484) hx hb dL_law_760 (by decide) (fun _ => W.widen (k := cells + 3) (n := slots + 267) (by omega) (by omega) (K q NC X' M' H locs hB e4 (by omega) rfl)) (fun h => absurd rfl h)
set_option maxHeartbeats 4000000 in
set_option maxRecDepth 100000 in
theorem y_c_owes {Rl : Nat → x_M → x_M → Prop} {p : Program} {l : Launch} {e : Env} {s : State} {m : MethodId} {below : List Frame} {meth : Method} {c : Code} {Q : State → Prop} {b L : Nat} {xs : Nat → Int32} {D : va_G} {cy : Nat → ClassId} {ad adV q qm : Nat → Nat} {NC i cells slots : Nat} {X M : x_M} {H : Heap} {locs : List Loc} {ls : Array Slot} (hE : y_H_owes Rl) (C : y_C p s m c b L xs D cy ad adV) (hB : y_B D cy ad s q NC X qm M H locs) (hR : Rl NC X M) (hN : 94 ≤ NC ∧ NC % 3 = 1 ∧ NC + 3 ≤ 100000) (hL : L ≤ 3072) (hi : i + 6 ≤ L) (hl : lv_has ls 4 [(0, .ref b), (1, .ref (q 0)), (2, .ref (qm 0)), (3, .int (nI i))]) (hcap : cells + 3 ≤ 600000 ∧ slots + 267 ≤ 7302250)
    (K : ∀ (q' : Nat → Nat) (NC' : Nat) (X' M' : x_M) (H : Heap) (locs : List Loc), y_B D cy ad s q' NC' X' qm M' H locs → Rl NC' X' M' → NC' ≤ NC + 3 → q' 0 = q 0 → W p l e room_1 s m #[Value.ref b] below meth c H locs (cells + 3) (slots + 267) Q (F0 m 1484 ls [])) : W p l e room_1 s m #[Value.ref b] below meth c H locs cells slots Q (F0 m 765 ls []) := by
  have hx := C.1.1
  have hb := C.1.2.1
  obtain ⟨r, X', M', e1, e2, e4⟩ := hE NC X M (xs (i + 1)) (xs (i + 2)) (xs (i + 3)) hR
  refine lv_aload_n hx hb dL_law_765 rfl (lv_at hl 1 rfl) ?_
  refine lv_aload_n hx hb dL_law_766 rfl (lv_at hl 0 rfl) ?_
  refine lv_iload_n hx hb dL_law_767 rfl (lv_at hl 3 rfl) ?_
  refine lv_iconst (v := (nI 1)) hx hb dL_law_768 (by decide) ?_
  refine lv_iadd hx hb dL_law_769 ?_
  rw [z_add]
  refine y_ld C hB.2.2.2.2.2 (show i + 1 < L by omega) hL dL_law_770 ?_
  refine lv_aload_n hx hb dL_law_771 rfl (lv_at hl 0 rfl) ?_
  refine lv_iload_n hx hb dL_law_772 rfl (lv_at hl 3 rfl) ?_
  refine lv_iconst (v := (nI 2)) hx hb dL_law_773 (by decide) ?_
  refine lv_iadd hx hb dL_law_774 ?_
  rw [z_add]
  refine y_ld C hB.2.2.2.2.2 (show i + 2 < L by omega) hL dL_law_775 ?_
  refine lv_aload_n hx hb dL_law_776 rfl (lv_at hl 0 rfl) ?_
  refine lv_iload_n hx hb dL_law_777 rfl (lv_at hl 3 rfl) ?_
  refine lv_iconst (v := (nI 3)) hx hb dL_law_778 (by decide) ?_
  refine lv_iadd hx hb dL_law_779 ?_
  rw [z_add]
  refine y_ld C hB.2.2.2.2.2 (show i + 3 < L by omega) hL dL_law_780 ?_
  refine y_callX C hB (As := [.int (xs (i + 1)), .int (xs (i + 2)), .int (xs (i + 3))]) (rest := []) (c_X11_owes hB.2.2.1 (by omega) e1) lm_78 lv_78 (by omega) rfl ⟨rfl, rfl, by decide, by decide⟩ rfl hl.1 rfl (Nat.le_of_ble_eq_true rfl) dL_law_781 ⟨by omega, by omega⟩ (fun H locs hB => ?_)
  refine lv_aload_n hx hb dL_law_784 rfl (lv_at hl 2 rfl) ?_
  refine lv_aload_n hx hb dL_law_785 rfl (lv_at hl 0 rfl) ?_
  refine lv_iload_n hx hb dL_law_786 rfl (lv_at hl 3 rfl) ?_
  refine lv_iconst (v := (nI 1)) hx hb dL_law_787 (by decide) ?_
  refine lv_iadd hx hb dL_law_788 ?_
  rw [z_add]
  refine y_ld C hB.2.2.2.2.2 (show i + 1 < L by omega) hL dL_law_789 ?_
  refine lv_aload_n hx hb dL_law_790 rfl (lv_at hl 0 rfl) ?_
  refine lv_iload_n hx hb dL_law_791 rfl (lv_at hl 3 rfl) ?_
  refine lv_iconst (v := (nI 2)) hx hb dL_law_792 (by decide) ?_
  refine lv_iadd hx hb dL_law_793 ?_
  rw [z_add]
  refine y_ld C hB.2.2.2.2.2 (show i + 2 < L by omega) hL dL_law_794 ?_
  refine lv_aload_n hx hb dL_law_795 rfl (lv_at hl 0 rfl) ?_
  refine lv_iload_n hx hb dL_law_796 rfl (lv_at hl 3 rfl) ?_
  refine lv_iconst (v := (nI 3)) hx hb dL_law_797 (by decide) ?_
  refine lv_iadd hx hb dL_law_798 ?_
  rw [z_add]
  refine y_ld C hB.2.2.2.2.2 (show i + 3 < L by omega) hL dL_law_799 ?_
  refine y_callM C hB (As := [.int (xs (i + 1)), .int (xs (i + 2)), .int (xs (i + 3))]) (rest := [.int r]) (c_X12_owes hB.2.2.2.1 e2) lm_81 lv_81 rfl ⟨rfl, rfl, by decide, by decide⟩ rfl hl.1 rfl (Nat.le_of_ble_eq_true rfl) dL_law_800 ⟨by omega, by omega⟩ (fun H locs hB => ?_)
  exact lv_icmp_eq (tgt := 1484) hx hb dL_law_803 (by decide) (fun _ => W.widen (k := cells + 3) (n := slots + 267) (by omega) (by omega) (K q NC X' M' H locs hB e4 (by omega) rfl)) (fun h => absurd rfl h)
set_option maxHeartbeats 4000000 in
set_option maxRecDepth 100000 in
theorem y_c_rate {Rl : Nat → x_M → x_M → Prop} {p : Program} {l : Launch} {e : Env} {s : State} {m : MethodId} {below : List Frame} {meth : Method} {c : Code} {Q : State → Prop} {b L : Nat} {xs : Nat → Int32} {D : va_G} {cy : Nat → ClassId} {ad adV q qm : Nat → Nat} {NC i cells slots : Nat} {X M : x_M} {H : Heap} {locs : List Loc} {ls : Array Slot} (hE : y_H_rate Rl) (C : y_C p s m c b L xs D cy ad adV) (hB : y_B D cy ad s q NC X qm M H locs) (hR : Rl NC X M) (hN : 94 ≤ NC ∧ NC % 3 = 1 ∧ NC + 3 ≤ 100000) (hL : L ≤ 3072) (hi : i + 6 ≤ L) (hl : lv_has ls 4 [(0, .ref b), (1, .ref (q 0)), (2, .ref (qm 0)), (3, .int (nI i))]) (hcap : cells + 3 ≤ 600000 ∧ slots + 267 ≤ 7302250)
    (K : ∀ (q' : Nat → Nat) (NC' : Nat) (X' M' : x_M) (H : Heap) (locs : List Loc), y_B D cy ad s q' NC' X' qm M' H locs → Rl NC' X' M' → NC' ≤ NC + 3 → q' 0 = q 0 → W p l e room_1 s m #[Value.ref b] below meth c H locs (cells + 3) (slots + 267) Q (F0 m 1484 ls [])) : W p l e room_1 s m #[Value.ref b] below meth c H locs cells slots Q (F0 m 808 ls []) := by
  have hx := C.1.1
  have hb := C.1.2.1
  obtain ⟨r, X', M', e1, e2, e4⟩ := hE NC X M (xs (i + 1)) (xs (i + 2)) (xs (i + 3)) hR
  refine lv_aload_n hx hb dL_law_808 rfl (lv_at hl 1 rfl) ?_
  refine lv_aload_n hx hb dL_law_809 rfl (lv_at hl 0 rfl) ?_
  refine lv_iload_n hx hb dL_law_810 rfl (lv_at hl 3 rfl) ?_
  refine lv_iconst (v := (nI 1)) hx hb dL_law_811 (by decide) ?_
  refine lv_iadd hx hb dL_law_812 ?_
  rw [z_add]
  refine y_ld C hB.2.2.2.2.2 (show i + 1 < L by omega) hL dL_law_813 ?_
  refine lv_aload_n hx hb dL_law_814 rfl (lv_at hl 0 rfl) ?_
  refine lv_iload_n hx hb dL_law_815 rfl (lv_at hl 3 rfl) ?_
  refine lv_iconst (v := (nI 2)) hx hb dL_law_816 (by decide) ?_
  refine lv_iadd hx hb dL_law_817 ?_
  rw [z_add]
  refine y_ld C hB.2.2.2.2.2 (show i + 2 < L by omega) hL dL_law_818 ?_
  refine lv_aload_n hx hb dL_law_819 rfl (lv_at hl 0 rfl) ?_
  refine lv_iload_n hx hb dL_law_820 rfl (lv_at hl 3 rfl) ?_
  refine lv_iconst (v := (nI 3)) hx hb dL_law_821 (by decide) ?_
  refine lv_iadd hx hb dL_law_822 ?_
  rw [z_add]
  refine y_ld C hB.2.2.2.2.2 (show i + 3 < L by omega) hL dL_law_823 ?_
  refine y_callX C hB (As := [.int (xs (i + 1)), .int (xs (i + 2)), .int (xs (i + 3))]) (rest := []) (c_X11_rate hB.2.2.1 (by omega) e1) lm_82 lv_82 (by omega) rfl ⟨rfl, rfl, by decide, by decide⟩ rfl hl.1 rfl (Nat.le_of_ble_eq_true rfl) dL_law_824 ⟨by omega, by omega⟩ (fun H locs hB => ?_)
  refine lv_aload_n hx hb dL_law_827 rfl (lv_at hl 2 rfl) ?_
  refine lv_aload_n hx hb dL_law_828 rfl (lv_at hl 0 rfl) ?_
  refine lv_iload_n hx hb dL_law_829 rfl (lv_at hl 3 rfl) ?_
  refine lv_iconst (v := (nI 1)) hx hb dL_law_830 (by decide) ?_
  refine lv_iadd hx hb dL_law_831 ?_
  rw [z_add]
  refine y_ld C hB.2.2.2.2.2 (show i + 1 < L by omega) hL dL_law_832 ?_
  refine lv_aload_n hx hb dL_law_833 rfl (lv_at hl 0 rfl) ?_
  refine lv_iload_n hx hb dL_law_834 rfl (lv_at hl 3 rfl) ?_
  refine lv_iconst (v := (nI 2)) hx hb dL_law_835 (by decide) ?_
  refine lv_iadd hx hb dL_law_836 ?_
  rw [z_add]
  refine y_ld C hB.2.2.2.2.2 (show i + 2 < L by omega) hL dL_law_837 ?_
  refine lv_aload_n hx hb dL_law_838 rfl (lv_at hl 0 rfl) ?_
  refine lv_iload_n hx hb dL_law_839 rfl (lv_at hl 3 rfl) ?_
  refine lv_iconst (v := (nI 3)) hx hb dL_law_840 (by decide) ?_
  refine lv_iadd hx hb dL_law_841 ?_
  rw [z_add]
  refine y_ld C hB.2.2.2.2.2 (show i + 3 < L by omega) hL dL_law_842 ?_
  refine y_callM C hB (As := [.int (xs (i + 1)), .int (xs (i + 2)), .int (xs (i + 3))]) (rest := [.int r]) (c_X12_rate hB.2.2.2.1 e2) lm_85 lv_85 rfl ⟨rfl, rfl, by decide, by decide⟩ rfl hl.1 rfl (Nat.le_of_ble_eq_true rfl) dL_law_843 ⟨by omega, by omega⟩ (fun H locs hB => ?_)
  exact lv_icmp_eq (tgt := 1484) hx hb dL_law_846 (by decide) (fun _ => W.widen (k := cells + 3) (n := slots + 267) (by omega) (by omega) (K q NC X' M' H locs hB e4 (by omega) rfl)) (fun h => absurd rfl h)
set_option maxHeartbeats 4000000 in
set_option maxRecDepth 100000 in
theorem y_c_feed {Rl : Nat → x_M → x_M → Prop} {p : Program} {l : Launch} {e : Env} {s : State} {m : MethodId} {below : List Frame} {meth : Method} {c : Code} {Q : State → Prop} {b L : Nat} {xs : Nat → Int32} {D : va_G} {cy : Nat → ClassId} {ad adV q qm : Nat → Nat} {NC i cells slots : Nat} {X M : x_M} {H : Heap} {locs : List Loc} {ls : Array Slot} (hE : y_H_feed Rl) (C : y_C p s m c b L xs D cy ad adV) (hB : y_B D cy ad s q NC X qm M H locs) (hR : Rl NC X M) (hN : 94 ≤ NC ∧ NC % 3 = 1 ∧ NC + 3 ≤ 100000) (hL : L ≤ 3072) (hi : i + 6 ≤ L) (hl : lv_has ls 4 [(0, .ref b), (1, .ref (q 0)), (2, .ref (qm 0)), (3, .int (nI i))]) (hcap : cells + 3 ≤ 600000 ∧ slots + 267 ≤ 7302250)
    (K : ∀ (q' : Nat → Nat) (NC' : Nat) (X' M' : x_M) (H : Heap) (locs : List Loc), y_B D cy ad s q' NC' X' qm M' H locs → Rl NC' X' M' → NC' ≤ NC + 3 → q' 0 = q 0 → W p l e room_1 s m #[Value.ref b] below meth c H locs (cells + 3) (slots + 267) Q (F0 m 1484 ls [])) : W p l e room_1 s m #[Value.ref b] below meth c H locs cells slots Q (F0 m 851 ls []) := by
  have hx := C.1.1
  have hb := C.1.2.1
  obtain ⟨r, X', M', e1, e2, e4⟩ := hE NC X M (xs (i + 1)) (xs (i + 2)) (xs (i + 3)) hR
  refine lv_aload_n hx hb dL_law_851 rfl (lv_at hl 1 rfl) ?_
  refine lv_aload_n hx hb dL_law_852 rfl (lv_at hl 0 rfl) ?_
  refine lv_iload_n hx hb dL_law_853 rfl (lv_at hl 3 rfl) ?_
  refine lv_iconst (v := (nI 1)) hx hb dL_law_854 (by decide) ?_
  refine lv_iadd hx hb dL_law_855 ?_
  rw [z_add]
  refine y_ld C hB.2.2.2.2.2 (show i + 1 < L by omega) hL dL_law_856 ?_
  refine lv_aload_n hx hb dL_law_857 rfl (lv_at hl 0 rfl) ?_
  refine lv_iload_n hx hb dL_law_858 rfl (lv_at hl 3 rfl) ?_
  refine lv_iconst (v := (nI 2)) hx hb dL_law_859 (by decide) ?_
  refine lv_iadd hx hb dL_law_860 ?_
  rw [z_add]
  refine y_ld C hB.2.2.2.2.2 (show i + 2 < L by omega) hL dL_law_861 ?_
  refine lv_aload_n hx hb dL_law_862 rfl (lv_at hl 0 rfl) ?_
  refine lv_iload_n hx hb dL_law_863 rfl (lv_at hl 3 rfl) ?_
  refine lv_iconst (v := (nI 3)) hx hb dL_law_864 (by decide) ?_
  refine lv_iadd hx hb dL_law_865 ?_
  rw [z_add]
  refine y_ld C hB.2.2.2.2.2 (show i + 3 < L by omega) hL dL_law_866 ?_
  refine y_callX C hB (As := [.int (xs (i + 1)), .int (xs (i + 2)), .int (xs (i + 3))]) (rest := []) (c_X11_feed hB.2.2.1 (by omega) e1) lm_86 lv_86 (by omega) rfl ⟨rfl, rfl, by decide, by decide⟩ rfl hl.1 rfl (Nat.le_of_ble_eq_true rfl) dL_law_867 ⟨by omega, by omega⟩ (fun H locs hB => ?_)
  refine lv_aload_n hx hb dL_law_870 rfl (lv_at hl 2 rfl) ?_
  refine lv_aload_n hx hb dL_law_871 rfl (lv_at hl 0 rfl) ?_
  refine lv_iload_n hx hb dL_law_872 rfl (lv_at hl 3 rfl) ?_
  refine lv_iconst (v := (nI 1)) hx hb dL_law_873 (by decide) ?_
  refine lv_iadd hx hb dL_law_874 ?_
  rw [z_add]
  refine y_ld C hB.2.2.2.2.2 (show i + 1 < L by omega) hL dL_law_875 ?_
  refine lv_aload_n hx hb dL_law_876 rfl (lv_at hl 0 rfl) ?_
  refine lv_iload_n hx hb dL_law_877 rfl (lv_at hl 3 rfl) ?_
  refine lv_iconst (v := (nI 2)) hx hb dL_law_878 (by decide) ?_
  refine lv_iadd hx hb dL_law_879 ?_
  rw [z_add]
  refine y_ld C hB.2.2.2.2.2 (show i + 2 < L by omega) hL dL_law_880 ?_
  refine lv_aload_n hx hb dL_law_881 rfl (lv_at hl 0 rfl) ?_
  refine lv_iload_n hx hb dL_law_882 rfl (lv_at hl 3 rfl) ?_
  refine lv_iconst (v := (nI 3)) hx hb dL_law_883 (by decide) ?_
  refine lv_iadd hx hb dL_law_884 ?_
  rw [z_add]
  refine y_ld C hB.2.2.2.2.2 (show i + 3 < L by omega) hL dL_law_885 ?_
  refine y_callM C hB (As := [.int (xs (i + 1)), .int (xs (i + 2)), .int (xs (i + 3))]) (rest := [.int r]) (c_X12_feed hB.2.2.2.1 e2) lm_89 lv_89 rfl ⟨rfl, rfl, by decide, by decide⟩ rfl hl.1 rfl (Nat.le_of_ble_eq_true rfl) dL_law_886 ⟨by omega, by omega⟩ (fun H locs hB => ?_)
  exact lv_icmp_eq (tgt := 1484) hx hb dL_law_889 (by decide) (fun _ => W.widen (k := cells + 3) (n := slots + 267) (by omega) (by omega) (K q NC X' M' H locs hB e4 (by omega) rfl)) (fun h => absurd rfl h)
set_option maxHeartbeats 4000000 in
set_option maxRecDepth 100000 in
theorem y_c_trim {Rl : Nat → x_M → x_M → Prop} {p : Program} {l : Launch} {e : Env} {s : State} {m : MethodId} {below : List Frame} {meth : Method} {c : Code} {Q : State → Prop} {b L : Nat} {xs : Nat → Int32} {D : va_G} {cy : Nat → ClassId} {ad adV q qm : Nat → Nat} {NC i cells slots : Nat} {X M : x_M} {H : Heap} {locs : List Loc} {ls : Array Slot} (hE : y_H_trim Rl) (C : y_C p s m c b L xs D cy ad adV) (hB : y_B D cy ad s q NC X qm M H locs) (hR : Rl NC X M) (hN : 94 ≤ NC ∧ NC % 3 = 1 ∧ NC + 3 ≤ 100000) (hL : L ≤ 3072) (hi : i + 6 ≤ L) (hl : lv_has ls 4 [(0, .ref b), (1, .ref (q 0)), (2, .ref (qm 0)), (3, .int (nI i))]) (hcap : cells + 3 ≤ 600000 ∧ slots + 267 ≤ 7302250)
    (K : ∀ (q' : Nat → Nat) (NC' : Nat) (X' M' : x_M) (H : Heap) (locs : List Loc), y_B D cy ad s q' NC' X' qm M' H locs → Rl NC' X' M' → NC' ≤ NC + 3 → q' 0 = q 0 → W p l e room_1 s m #[Value.ref b] below meth c H locs (cells + 3) (slots + 267) Q (F0 m 1484 ls [])) : W p l e room_1 s m #[Value.ref b] below meth c H locs cells slots Q (F0 m 894 ls []) := by
  have hx := C.1.1
  have hb := C.1.2.1
  obtain ⟨r, X', M', e1, e2, e4⟩ := hE NC X M (xs (i + 1)) hR
  refine lv_aload_n hx hb dL_law_894 rfl (lv_at hl 1 rfl) ?_
  refine lv_aload_n hx hb dL_law_895 rfl (lv_at hl 0 rfl) ?_
  refine lv_iload_n hx hb dL_law_896 rfl (lv_at hl 3 rfl) ?_
  refine lv_iconst (v := (nI 1)) hx hb dL_law_897 (by decide) ?_
  refine lv_iadd hx hb dL_law_898 ?_
  rw [z_add]
  refine y_ld C hB.2.2.2.2.2 (show i + 1 < L by omega) hL dL_law_899 ?_
  refine y_callX C hB (As := [.int (xs (i + 1))]) (rest := []) (c_X11_trim hB.2.2.1 (by omega) e1) lm_90 lv_90 (by omega) rfl ⟨rfl, rfl, by decide, by decide⟩ rfl hl.1 rfl (Nat.le_of_ble_eq_true rfl) dL_law_900 ⟨by omega, by omega⟩ (fun H locs hB => ?_)
  refine lv_aload_n hx hb dL_law_903 rfl (lv_at hl 2 rfl) ?_
  refine lv_aload_n hx hb dL_law_904 rfl (lv_at hl 0 rfl) ?_
  refine lv_iload_n hx hb dL_law_905 rfl (lv_at hl 3 rfl) ?_
  refine lv_iconst (v := (nI 1)) hx hb dL_law_906 (by decide) ?_
  refine lv_iadd hx hb dL_law_907 ?_
  rw [z_add]
  refine y_ld C hB.2.2.2.2.2 (show i + 1 < L by omega) hL dL_law_908 ?_
  refine y_callM C hB (As := [.int (xs (i + 1))]) (rest := [.int r]) (c_X12_trim hB.2.2.2.1 e2) lm_93 lv_93 rfl ⟨rfl, rfl, by decide, by decide⟩ rfl hl.1 rfl (Nat.le_of_ble_eq_true rfl) dL_law_909 ⟨by omega, by omega⟩ (fun H locs hB => ?_)
  exact lv_icmp_eq (tgt := 1484) hx hb dL_law_912 (by decide) (fun _ => W.widen (k := cells + 3) (n := slots + 267) (by omega) (by omega) (K q NC X' M' H locs hB e4 (by omega) rfl)) (fun h => absurd rfl h)
set_option maxHeartbeats 4000000 in
set_option maxRecDepth 100000 in
theorem y_c_terms {Rl : Nat → x_M → x_M → Prop} {p : Program} {l : Launch} {e : Env} {s : State} {m : MethodId} {below : List Frame} {meth : Method} {c : Code} {Q : State → Prop} {b L : Nat} {xs : Nat → Int32} {D : va_G} {cy : Nat → ClassId} {ad adV q qm : Nat → Nat} {NC i cells slots : Nat} {X M : x_M} {H : Heap} {locs : List Loc} {ls : Array Slot} (hE : y_H_terms Rl) (C : y_C p s m c b L xs D cy ad adV) (hB : y_B D cy ad s q NC X qm M H locs) (hR : Rl NC X M) (hN : 94 ≤ NC ∧ NC % 3 = 1 ∧ NC + 3 ≤ 100000) (hL : L ≤ 3072) (hi : i + 6 ≤ L) (hl : lv_has ls 4 [(0, .ref b), (1, .ref (q 0)), (2, .ref (qm 0)), (3, .int (nI i))]) (hcap : cells + 3 ≤ 600000 ∧ slots + 267 ≤ 7302250)
    (K : ∀ (q' : Nat → Nat) (NC' : Nat) (X' M' : x_M) (H : Heap) (locs : List Loc), y_B D cy ad s q' NC' X' qm M' H locs → Rl NC' X' M' → NC' ≤ NC + 3 → q' 0 = q 0 → W p l e room_1 s m #[Value.ref b] below meth c H locs (cells + 3) (slots + 267) Q (F0 m 1484 ls [])) : W p l e room_1 s m #[Value.ref b] below meth c H locs cells slots Q (F0 m 917 ls []) := by
  have hx := C.1.1
  have hb := C.1.2.1
  obtain ⟨r, NC', X', M', e1, e2, e3, e4⟩ := hE NC X M (xs (i + 1)) hR hN.2.2
  refine lv_aload_n hx hb dL_law_917 rfl (lv_at hl 1 rfl) ?_
  refine lv_aload_n hx hb dL_law_918 rfl (lv_at hl 0 rfl) ?_
  refine lv_iload_n hx hb dL_law_919 rfl (lv_at hl 3 rfl) ?_
  refine lv_iconst (v := (nI 1)) hx hb dL_law_920 (by decide) ?_
  refine lv_iadd hx hb dL_law_921 ?_
  rw [z_add]
  refine y_ld C hB.2.2.2.2.2 (show i + 1 < L by omega) hL dL_law_922 ?_
  refine y_callT C hB (c_X11_terms hB.2.2.1 hN.1 ⟨hN.2.1, by omega⟩ C.2.2.1 e1) (rest := []) lm_94 lv_94 (by omega) hl.1 (Nat.le_of_ble_eq_true rfl) dL_law_923 hcap (fun q' H locs hq0 hB => ?_)
  refine lv_aload_n hx hb dL_law_926 rfl (lv_at hl 2 rfl) ?_
  refine lv_aload_n hx hb dL_law_927 rfl (lv_at hl 0 rfl) ?_
  refine lv_iload_n hx hb dL_law_928 rfl (lv_at hl 3 rfl) ?_
  refine lv_iconst (v := (nI 1)) hx hb dL_law_929 (by decide) ?_
  refine lv_iadd hx hb dL_law_930 ?_
  rw [z_add]
  refine y_ld C hB.2.2.2.2.2 (show i + 1 < L by omega) hL dL_law_931 ?_
  refine y_callM C hB (As := [.int (xs (i + 1))]) (rest := [.int r]) (c_X12_terms hB.2.2.2.1 e2) lm_97 lv_97 rfl ⟨rfl, rfl, by decide, by decide⟩ rfl hl.1 rfl (Nat.le_of_ble_eq_true rfl) dL_law_932 ⟨by omega, by omega⟩ (fun H locs hB => ?_)
  exact lv_icmp_eq (tgt := 1484) hx hb dL_law_935 (by decide) (fun _ => K q' NC' X' M' H locs hB e4 e3 hq0) (fun h => absurd rfl h)
set_option maxHeartbeats 4000000 in
set_option maxRecDepth 100000 in
theorem y_c_flight {Rl : Nat → x_M → x_M → Prop} {p : Program} {l : Launch} {e : Env} {s : State} {m : MethodId} {below : List Frame} {meth : Method} {c : Code} {Q : State → Prop} {b L : Nat} {xs : Nat → Int32} {D : va_G} {cy : Nat → ClassId} {ad adV q qm : Nat → Nat} {NC i cells slots : Nat} {X M : x_M} {H : Heap} {locs : List Loc} {ls : Array Slot} (hE : y_H_flight Rl) (C : y_C p s m c b L xs D cy ad adV) (hB : y_B D cy ad s q NC X qm M H locs) (hR : Rl NC X M) (hN : 94 ≤ NC ∧ NC % 3 = 1 ∧ NC + 3 ≤ 100000) (hL : L ≤ 3072) (hi : i + 6 ≤ L) (hl : lv_has ls 4 [(0, .ref b), (1, .ref (q 0)), (2, .ref (qm 0)), (3, .int (nI i))]) (hcap : cells + 3 ≤ 600000 ∧ slots + 267 ≤ 7302250)
    (K : ∀ (q' : Nat → Nat) (NC' : Nat) (X' M' : x_M) (H : Heap) (locs : List Loc), y_B D cy ad s q' NC' X' qm M' H locs → Rl NC' X' M' → NC' ≤ NC + 3 → q' 0 = q 0 → W p l e room_1 s m #[Value.ref b] below meth c H locs (cells + 3) (slots + 267) Q (F0 m 1484 ls [])) : W p l e room_1 s m #[Value.ref b] below meth c H locs cells slots Q (F0 m 940 ls []) := by
  have hx := C.1.1
  have hb := C.1.2.1
  obtain ⟨r, X', M', e1, e2, e4⟩ := hE NC X M (xs (i + 1)) (xs (i + 2)) (xs (i + 3)) (xs (i + 4)) hR
  refine lv_aload_n hx hb dL_law_940 rfl (lv_at hl 1 rfl) ?_
  refine lv_aload_n hx hb dL_law_941 rfl (lv_at hl 0 rfl) ?_
  refine lv_iload_n hx hb dL_law_942 rfl (lv_at hl 3 rfl) ?_
  refine lv_iconst (v := (nI 1)) hx hb dL_law_943 (by decide) ?_
  refine lv_iadd hx hb dL_law_944 ?_
  rw [z_add]
  refine y_ld C hB.2.2.2.2.2 (show i + 1 < L by omega) hL dL_law_945 ?_
  refine lv_aload_n hx hb dL_law_946 rfl (lv_at hl 0 rfl) ?_
  refine lv_iload_n hx hb dL_law_947 rfl (lv_at hl 3 rfl) ?_
  refine lv_iconst (v := (nI 2)) hx hb dL_law_948 (by decide) ?_
  refine lv_iadd hx hb dL_law_949 ?_
  rw [z_add]
  refine y_ld C hB.2.2.2.2.2 (show i + 2 < L by omega) hL dL_law_950 ?_
  refine lv_aload_n hx hb dL_law_951 rfl (lv_at hl 0 rfl) ?_
  refine lv_iload_n hx hb dL_law_952 rfl (lv_at hl 3 rfl) ?_
  refine lv_iconst (v := (nI 3)) hx hb dL_law_953 (by decide) ?_
  refine lv_iadd hx hb dL_law_954 ?_
  rw [z_add]
  refine y_ld C hB.2.2.2.2.2 (show i + 3 < L by omega) hL dL_law_955 ?_
  refine lv_aload_n hx hb dL_law_956 rfl (lv_at hl 0 rfl) ?_
  refine lv_iload_n hx hb dL_law_957 rfl (lv_at hl 3 rfl) ?_
  refine lv_iconst (v := (nI 4)) hx hb dL_law_958 (by decide) ?_
  refine lv_iadd hx hb dL_law_959 ?_
  rw [z_add]
  refine y_ld C hB.2.2.2.2.2 (show i + 4 < L by omega) hL dL_law_960 ?_
  refine y_callX C hB (As := [.int (xs (i + 1)), .int (xs (i + 2)), .int (xs (i + 3)), .int (xs (i + 4))]) (rest := []) (c_X11_flight hB.2.2.1 (by omega) e1) lm_98 lv_98 (by omega) rfl ⟨rfl, rfl, by decide, by decide⟩ rfl hl.1 rfl (Nat.le_of_ble_eq_true rfl) dL_law_961 ⟨by omega, by omega⟩ (fun H locs hB => ?_)
  refine lv_aload_n hx hb dL_law_964 rfl (lv_at hl 2 rfl) ?_
  refine lv_aload_n hx hb dL_law_965 rfl (lv_at hl 0 rfl) ?_
  refine lv_iload_n hx hb dL_law_966 rfl (lv_at hl 3 rfl) ?_
  refine lv_iconst (v := (nI 1)) hx hb dL_law_967 (by decide) ?_
  refine lv_iadd hx hb dL_law_968 ?_
  rw [z_add]
  refine y_ld C hB.2.2.2.2.2 (show i + 1 < L by omega) hL dL_law_969 ?_
  refine lv_aload_n hx hb dL_law_970 rfl (lv_at hl 0 rfl) ?_
  refine lv_iload_n hx hb dL_law_971 rfl (lv_at hl 3 rfl) ?_
  refine lv_iconst (v := (nI 2)) hx hb dL_law_972 (by decide) ?_
  refine lv_iadd hx hb dL_law_973 ?_
  rw [z_add]
  refine y_ld C hB.2.2.2.2.2 (show i + 2 < L by omega) hL dL_law_974 ?_
  refine lv_aload_n hx hb dL_law_975 rfl (lv_at hl 0 rfl) ?_
  refine lv_iload_n hx hb dL_law_976 rfl (lv_at hl 3 rfl) ?_
  refine lv_iconst (v := (nI 3)) hx hb dL_law_977 (by decide) ?_
  refine lv_iadd hx hb dL_law_978 ?_
  rw [z_add]
  refine y_ld C hB.2.2.2.2.2 (show i + 3 < L by omega) hL dL_law_979 ?_
  refine lv_aload_n hx hb dL_law_980 rfl (lv_at hl 0 rfl) ?_
  refine lv_iload_n hx hb dL_law_981 rfl (lv_at hl 3 rfl) ?_
  refine lv_iconst (v := (nI 4)) hx hb dL_law_982 (by decide) ?_
  refine lv_iadd hx hb dL_law_983 ?_
  rw [z_add]
  refine y_ld C hB.2.2.2.2.2 (show i + 4 < L by omega) hL dL_law_984 ?_
  refine y_callM C hB (As := [.int (xs (i + 1)), .int (xs (i + 2)), .int (xs (i + 3)), .int (xs (i + 4))]) (rest := [.int r]) (c_X12_flight hB.2.2.2.1 e2) lm_101 lv_101 rfl ⟨rfl, rfl, by decide, by decide⟩ rfl hl.1 rfl (Nat.le_of_ble_eq_true rfl) dL_law_985 ⟨by omega, by omega⟩ (fun H locs hB => ?_)
  exact lv_icmp_eq (tgt := 1484) hx hb dL_law_988 (by decide) (fun _ => W.widen (k := cells + 3) (n := slots + 267) (by omega) (by omega) (K q NC X' M' H locs hB e4 (by omega) rfl)) (fun h => absurd rfl h)
set_option maxHeartbeats 4000000 in
set_option maxRecDepth 100000 in
theorem y_c_ask {Rl : Nat → x_M → x_M → Prop} {p : Program} {l : Launch} {e : Env} {s : State} {m : MethodId} {below : List Frame} {meth : Method} {c : Code} {Q : State → Prop} {b L : Nat} {xs : Nat → Int32} {D : va_G} {cy : Nat → ClassId} {ad adV q qm : Nat → Nat} {NC i cells slots : Nat} {X M : x_M} {H : Heap} {locs : List Loc} {ls : Array Slot} (hE : y_H_ask Rl) (C : y_C p s m c b L xs D cy ad adV) (hB : y_B D cy ad s q NC X qm M H locs) (hR : Rl NC X M) (hN : 94 ≤ NC ∧ NC % 3 = 1 ∧ NC + 3 ≤ 100000) (hL : L ≤ 3072) (hi : i + 6 ≤ L) (hl : lv_has ls 4 [(0, .ref b), (1, .ref (q 0)), (2, .ref (qm 0)), (3, .int (nI i))]) (hcap : cells + 3 ≤ 600000 ∧ slots + 267 ≤ 7302250)
    (K : ∀ (q' : Nat → Nat) (NC' : Nat) (X' M' : x_M) (H : Heap) (locs : List Loc), y_B D cy ad s q' NC' X' qm M' H locs → Rl NC' X' M' → NC' ≤ NC + 3 → q' 0 = q 0 → W p l e room_1 s m #[Value.ref b] below meth c H locs (cells + 3) (slots + 267) Q (F0 m 1484 ls [])) : W p l e room_1 s m #[Value.ref b] below meth c H locs cells slots Q (F0 m 993 ls []) := by
  have hx := C.1.1
  have hb := C.1.2.1
  obtain ⟨r, X', M', e1, e2, e4⟩ := hE NC X M (xs (i + 1)) (xs (i + 2)) (xs (i + 3)) hR
  refine lv_aload_n hx hb dL_law_993 rfl (lv_at hl 1 rfl) ?_
  refine lv_aload_n hx hb dL_law_994 rfl (lv_at hl 0 rfl) ?_
  refine lv_iload_n hx hb dL_law_995 rfl (lv_at hl 3 rfl) ?_
  refine lv_iconst (v := (nI 1)) hx hb dL_law_996 (by decide) ?_
  refine lv_iadd hx hb dL_law_997 ?_
  rw [z_add]
  refine y_ld C hB.2.2.2.2.2 (show i + 1 < L by omega) hL dL_law_998 ?_
  refine lv_aload_n hx hb dL_law_999 rfl (lv_at hl 0 rfl) ?_
  refine lv_iload_n hx hb dL_law_1000 rfl (lv_at hl 3 rfl) ?_
  refine lv_iconst (v := (nI 2)) hx hb dL_law_1001 (by decide) ?_
  refine lv_iadd hx hb dL_law_1002 ?_
  rw [z_add]
  refine y_ld C hB.2.2.2.2.2 (show i + 2 < L by omega) hL dL_law_1003 ?_
  refine lv_aload_n hx hb dL_law_1004 rfl (lv_at hl 0 rfl) ?_
  refine lv_iload_n hx hb dL_law_1005 rfl (lv_at hl 3 rfl) ?_
  refine lv_iconst (v := (nI 3)) hx hb dL_law_1006 (by decide) ?_
  refine lv_iadd hx hb dL_law_1007 ?_
  rw [z_add]
  refine y_ld C hB.2.2.2.2.2 (show i + 3 < L by omega) hL dL_law_1008 ?_
  refine y_callX C hB (As := [.int (xs (i + 1)), .int (xs (i + 2)), .int (xs (i + 3))]) (rest := []) (c_X11_ask hB.2.2.1 (by omega) e1) lm_102 lv_102 (by omega) rfl ⟨rfl, rfl, by decide, by decide⟩ rfl hl.1 rfl (Nat.le_of_ble_eq_true rfl) dL_law_1009 ⟨by omega, by omega⟩ (fun H locs hB => ?_)
  refine lv_aload_n hx hb dL_law_1012 rfl (lv_at hl 2 rfl) ?_
  refine lv_aload_n hx hb dL_law_1013 rfl (lv_at hl 0 rfl) ?_
  refine lv_iload_n hx hb dL_law_1014 rfl (lv_at hl 3 rfl) ?_
  refine lv_iconst (v := (nI 1)) hx hb dL_law_1015 (by decide) ?_
  refine lv_iadd hx hb dL_law_1016 ?_
  rw [z_add]
  refine y_ld C hB.2.2.2.2.2 (show i + 1 < L by omega) hL dL_law_1017 ?_
  refine lv_aload_n hx hb dL_law_1018 rfl (lv_at hl 0 rfl) ?_
  refine lv_iload_n hx hb dL_law_1019 rfl (lv_at hl 3 rfl) ?_
  refine lv_iconst (v := (nI 2)) hx hb dL_law_1020 (by decide) ?_
  refine lv_iadd hx hb dL_law_1021 ?_
  rw [z_add]
  refine y_ld C hB.2.2.2.2.2 (show i + 2 < L by omega) hL dL_law_1022 ?_
  refine lv_aload_n hx hb dL_law_1023 rfl (lv_at hl 0 rfl) ?_
  refine lv_iload_n hx hb dL_law_1024 rfl (lv_at hl 3 rfl) ?_
  refine lv_iconst (v := (nI 3)) hx hb dL_law_1025 (by decide) ?_
  refine lv_iadd hx hb dL_law_1026 ?_
  rw [z_add]
  refine y_ld C hB.2.2.2.2.2 (show i + 3 < L by omega) hL dL_law_1027 ?_
  refine y_callM C hB (As := [.int (xs (i + 1)), .int (xs (i + 2)), .int (xs (i + 3))]) (rest := [.int r]) (c_X12_ask hB.2.2.2.1 e2) lm_105 lv_105 rfl ⟨rfl, rfl, by decide, by decide⟩ rfl hl.1 rfl (Nat.le_of_ble_eq_true rfl) dL_law_1028 ⟨by omega, by omega⟩ (fun H locs hB => ?_)
  exact lv_icmp_eq (tgt := 1484) hx hb dL_law_1031 (by decide) (fun _ => W.widen (k := cells + 3) (n := slots + 267) (by omega) (by omega) (K q NC X' M' H locs hB e4 (by omega) rfl)) (fun h => absurd rfl h)
set_option maxHeartbeats 4000000 in
set_option maxRecDepth 100000 in
theorem y_c_settle {Rl : Nat → x_M → x_M → Prop} {p : Program} {l : Launch} {e : Env} {s : State} {m : MethodId} {below : List Frame} {meth : Method} {c : Code} {Q : State → Prop} {b L : Nat} {xs : Nat → Int32} {D : va_G} {cy : Nat → ClassId} {ad adV q qm : Nat → Nat} {NC i cells slots : Nat} {X M : x_M} {H : Heap} {locs : List Loc} {ls : Array Slot} (hE : y_H_settle Rl) (C : y_C p s m c b L xs D cy ad adV) (hB : y_B D cy ad s q NC X qm M H locs) (hR : Rl NC X M) (hN : 94 ≤ NC ∧ NC % 3 = 1 ∧ NC + 3 ≤ 100000) (hL : L ≤ 3072) (hi : i + 6 ≤ L) (hl : lv_has ls 4 [(0, .ref b), (1, .ref (q 0)), (2, .ref (qm 0)), (3, .int (nI i))]) (hcap : cells + 3 ≤ 600000 ∧ slots + 267 ≤ 7302250)
    (K : ∀ (q' : Nat → Nat) (NC' : Nat) (X' M' : x_M) (H : Heap) (locs : List Loc), y_B D cy ad s q' NC' X' qm M' H locs → Rl NC' X' M' → NC' ≤ NC + 3 → q' 0 = q 0 → W p l e room_1 s m #[Value.ref b] below meth c H locs (cells + 3) (slots + 267) Q (F0 m 1484 ls [])) : W p l e room_1 s m #[Value.ref b] below meth c H locs cells slots Q (F0 m 1036 ls []) := by
  have hx := C.1.1
  have hb := C.1.2.1
  obtain ⟨r, X', M', e1, e2, e4⟩ := hE NC X M (xs (i + 1)) hR
  refine lv_aload_n hx hb dL_law_1036 rfl (lv_at hl 1 rfl) ?_
  refine lv_aload_n hx hb dL_law_1037 rfl (lv_at hl 0 rfl) ?_
  refine lv_iload_n hx hb dL_law_1038 rfl (lv_at hl 3 rfl) ?_
  refine lv_iconst (v := (nI 1)) hx hb dL_law_1039 (by decide) ?_
  refine lv_iadd hx hb dL_law_1040 ?_
  rw [z_add]
  refine y_ld C hB.2.2.2.2.2 (show i + 1 < L by omega) hL dL_law_1041 ?_
  refine y_callX C hB (As := [.int (xs (i + 1))]) (rest := []) (c_X11_settle hB.2.2.1 (by omega) e1) lm_106 lv_106 (by omega) rfl ⟨rfl, rfl, by decide, by decide⟩ rfl hl.1 rfl (Nat.le_of_ble_eq_true rfl) dL_law_1042 ⟨by omega, by omega⟩ (fun H locs hB => ?_)
  refine lv_aload_n hx hb dL_law_1045 rfl (lv_at hl 2 rfl) ?_
  refine lv_aload_n hx hb dL_law_1046 rfl (lv_at hl 0 rfl) ?_
  refine lv_iload_n hx hb dL_law_1047 rfl (lv_at hl 3 rfl) ?_
  refine lv_iconst (v := (nI 1)) hx hb dL_law_1048 (by decide) ?_
  refine lv_iadd hx hb dL_law_1049 ?_
  rw [z_add]
  refine y_ld C hB.2.2.2.2.2 (show i + 1 < L by omega) hL dL_law_1050 ?_
  refine y_callM C hB (As := [.int (xs (i + 1))]) (rest := [.int r]) (c_X12_settle hB.2.2.2.1 e2) lm_109 lv_109 rfl ⟨rfl, rfl, by decide, by decide⟩ rfl hl.1 rfl (Nat.le_of_ble_eq_true rfl) dL_law_1051 ⟨by omega, by omega⟩ (fun H locs hB => ?_)
  exact lv_icmp_eq (tgt := 1484) hx hb dL_law_1054 (by decide) (fun _ => W.widen (k := cells + 3) (n := slots + 267) (by omega) (by omega) (K q NC X' M' H locs hB e4 (by omega) rfl)) (fun h => absurd rfl h)
set_option maxHeartbeats 4000000 in
set_option maxRecDepth 100000 in
theorem y_c_asked {Rl : Nat → x_M → x_M → Prop} {p : Program} {l : Launch} {e : Env} {s : State} {m : MethodId} {below : List Frame} {meth : Method} {c : Code} {Q : State → Prop} {b L : Nat} {xs : Nat → Int32} {D : va_G} {cy : Nat → ClassId} {ad adV q qm : Nat → Nat} {NC i cells slots : Nat} {X M : x_M} {H : Heap} {locs : List Loc} {ls : Array Slot} (hE : y_H_asked Rl) (C : y_C p s m c b L xs D cy ad adV) (hB : y_B D cy ad s q NC X qm M H locs) (hR : Rl NC X M) (hN : 94 ≤ NC ∧ NC % 3 = 1 ∧ NC + 3 ≤ 100000) (hL : L ≤ 3072) (hi : i + 6 ≤ L) (hl : lv_has ls 4 [(0, .ref b), (1, .ref (q 0)), (2, .ref (qm 0)), (3, .int (nI i))]) (hcap : cells + 3 ≤ 600000 ∧ slots + 267 ≤ 7302250)
    (K : ∀ (q' : Nat → Nat) (NC' : Nat) (X' M' : x_M) (H : Heap) (locs : List Loc), y_B D cy ad s q' NC' X' qm M' H locs → Rl NC' X' M' → NC' ≤ NC + 3 → q' 0 = q 0 → W p l e room_1 s m #[Value.ref b] below meth c H locs (cells + 3) (slots + 267) Q (F0 m 1484 ls [])) : W p l e room_1 s m #[Value.ref b] below meth c H locs cells slots Q (F0 m 1059 ls []) := by
  have hx := C.1.1
  have hb := C.1.2.1
  obtain ⟨r, X', M', e1, e2, e4⟩ := hE NC X M (xs (i + 1)) (xs (i + 2)) hR
  refine lv_aload_n hx hb dL_law_1059 rfl (lv_at hl 1 rfl) ?_
  refine lv_aload_n hx hb dL_law_1060 rfl (lv_at hl 0 rfl) ?_
  refine lv_iload_n hx hb dL_law_1061 rfl (lv_at hl 3 rfl) ?_
  refine lv_iconst (v := (nI 1)) hx hb dL_law_1062 (by decide) ?_
  refine lv_iadd hx hb dL_law_1063 ?_
  rw [z_add]
  refine y_ld C hB.2.2.2.2.2 (show i + 1 < L by omega) hL dL_law_1064 ?_
  refine lv_aload_n hx hb dL_law_1065 rfl (lv_at hl 0 rfl) ?_
  refine lv_iload_n hx hb dL_law_1066 rfl (lv_at hl 3 rfl) ?_
  refine lv_iconst (v := (nI 2)) hx hb dL_law_1067 (by decide) ?_
  refine lv_iadd hx hb dL_law_1068 ?_
  rw [z_add]
  refine y_ld C hB.2.2.2.2.2 (show i + 2 < L by omega) hL dL_law_1069 ?_
  refine y_callX C hB (As := [.int (xs (i + 1)), .int (xs (i + 2))]) (rest := []) (c_X11_asked hB.2.2.1 (by omega) e1) lm_110 lv_110 (by omega) rfl ⟨rfl, rfl, by decide, by decide⟩ rfl hl.1 rfl (Nat.le_of_ble_eq_true rfl) dL_law_1070 ⟨by omega, by omega⟩ (fun H locs hB => ?_)
  refine lv_aload_n hx hb dL_law_1073 rfl (lv_at hl 2 rfl) ?_
  refine lv_aload_n hx hb dL_law_1074 rfl (lv_at hl 0 rfl) ?_
  refine lv_iload_n hx hb dL_law_1075 rfl (lv_at hl 3 rfl) ?_
  refine lv_iconst (v := (nI 1)) hx hb dL_law_1076 (by decide) ?_
  refine lv_iadd hx hb dL_law_1077 ?_
  rw [z_add]
  refine y_ld C hB.2.2.2.2.2 (show i + 1 < L by omega) hL dL_law_1078 ?_
  refine lv_aload_n hx hb dL_law_1079 rfl (lv_at hl 0 rfl) ?_
  refine lv_iload_n hx hb dL_law_1080 rfl (lv_at hl 3 rfl) ?_
  refine lv_iconst (v := (nI 2)) hx hb dL_law_1081 (by decide) ?_
  refine lv_iadd hx hb dL_law_1082 ?_
  rw [z_add]
  refine y_ld C hB.2.2.2.2.2 (show i + 2 < L by omega) hL dL_law_1083 ?_
  refine y_callM C hB (As := [.int (xs (i + 1)), .int (xs (i + 2))]) (rest := [.int r]) (c_X12_asked hB.2.2.2.1 e2) lm_113 lv_113 rfl ⟨rfl, rfl, by decide, by decide⟩ rfl hl.1 rfl (Nat.le_of_ble_eq_true rfl) dL_law_1084 ⟨by omega, by omega⟩ (fun H locs hB => ?_)
  exact lv_icmp_eq (tgt := 1484) hx hb dL_law_1087 (by decide) (fun _ => W.widen (k := cells + 3) (n := slots + 267) (by omega) (by omega) (K q NC X' M' H locs hB e4 (by omega) rfl)) (fun h => absurd rfl h)
set_option maxHeartbeats 4000000 in
set_option maxRecDepth 100000 in
theorem y_c_open {Rl : Nat → x_M → x_M → Prop} {p : Program} {l : Launch} {e : Env} {s : State} {m : MethodId} {below : List Frame} {meth : Method} {c : Code} {Q : State → Prop} {b L : Nat} {xs : Nat → Int32} {D : va_G} {cy : Nat → ClassId} {ad adV q qm : Nat → Nat} {NC i cells slots : Nat} {X M : x_M} {H : Heap} {locs : List Loc} {ls : Array Slot} (hE : y_H_open Rl) (C : y_C p s m c b L xs D cy ad adV) (hB : y_B D cy ad s q NC X qm M H locs) (hR : Rl NC X M) (hN : 94 ≤ NC ∧ NC % 3 = 1 ∧ NC + 3 ≤ 100000) (hL : L ≤ 3072) (hi : i + 6 ≤ L) (hl : lv_has ls 4 [(0, .ref b), (1, .ref (q 0)), (2, .ref (qm 0)), (3, .int (nI i))]) (hcap : cells + 3 ≤ 600000 ∧ slots + 267 ≤ 7302250)
    (K : ∀ (q' : Nat → Nat) (NC' : Nat) (X' M' : x_M) (H : Heap) (locs : List Loc), y_B D cy ad s q' NC' X' qm M' H locs → Rl NC' X' M' → NC' ≤ NC + 3 → q' 0 = q 0 → W p l e room_1 s m #[Value.ref b] below meth c H locs (cells + 3) (slots + 267) Q (F0 m 1484 ls [])) : W p l e room_1 s m #[Value.ref b] below meth c H locs cells slots Q (F0 m 1092 ls []) := by
  have hx := C.1.1
  have hb := C.1.2.1
  obtain ⟨r, X', M', e1, e2, e4⟩ := hE NC X M (xs (i + 1)) hR
  refine lv_aload_n hx hb dL_law_1092 rfl (lv_at hl 1 rfl) ?_
  refine lv_aload_n hx hb dL_law_1093 rfl (lv_at hl 0 rfl) ?_
  refine lv_iload_n hx hb dL_law_1094 rfl (lv_at hl 3 rfl) ?_
  refine lv_iconst (v := (nI 1)) hx hb dL_law_1095 (by decide) ?_
  refine lv_iadd hx hb dL_law_1096 ?_
  rw [z_add]
  refine y_ld C hB.2.2.2.2.2 (show i + 1 < L by omega) hL dL_law_1097 ?_
  refine y_callX C hB (As := [.int (xs (i + 1))]) (rest := []) (c_X11_open hB.2.2.1 (by omega) e1) lm_114 lv_114 (by omega) rfl ⟨rfl, rfl, by decide, by decide⟩ rfl hl.1 rfl (Nat.le_of_ble_eq_true rfl) dL_law_1098 ⟨by omega, by omega⟩ (fun H locs hB => ?_)
  refine lv_aload_n hx hb dL_law_1101 rfl (lv_at hl 2 rfl) ?_
  refine lv_aload_n hx hb dL_law_1102 rfl (lv_at hl 0 rfl) ?_
  refine lv_iload_n hx hb dL_law_1103 rfl (lv_at hl 3 rfl) ?_
  refine lv_iconst (v := (nI 1)) hx hb dL_law_1104 (by decide) ?_
  refine lv_iadd hx hb dL_law_1105 ?_
  rw [z_add]
  refine y_ld C hB.2.2.2.2.2 (show i + 1 < L by omega) hL dL_law_1106 ?_
  refine y_callM C hB (As := [.int (xs (i + 1))]) (rest := [.int r]) (c_X12_open hB.2.2.2.1 e2) lm_117 lv_117 rfl ⟨rfl, rfl, by decide, by decide⟩ rfl hl.1 rfl (Nat.le_of_ble_eq_true rfl) dL_law_1107 ⟨by omega, by omega⟩ (fun H locs hB => ?_)
  exact lv_icmp_eq (tgt := 1484) hx hb dL_law_1110 (by decide) (fun _ => W.widen (k := cells + 3) (n := slots + 267) (by omega) (by omega) (K q NC X' M' H locs hB e4 (by omega) rfl)) (fun h => absurd rfl h)
set_option maxHeartbeats 4000000 in
set_option maxRecDepth 100000 in
theorem y_c_offer {Rl : Nat → x_M → x_M → Prop} {p : Program} {l : Launch} {e : Env} {s : State} {m : MethodId} {below : List Frame} {meth : Method} {c : Code} {Q : State → Prop} {b L : Nat} {xs : Nat → Int32} {D : va_G} {cy : Nat → ClassId} {ad adV q qm : Nat → Nat} {NC i cells slots : Nat} {X M : x_M} {H : Heap} {locs : List Loc} {ls : Array Slot} (hE : y_H_offer Rl) (C : y_C p s m c b L xs D cy ad adV) (hB : y_B D cy ad s q NC X qm M H locs) (hR : Rl NC X M) (hN : 94 ≤ NC ∧ NC % 3 = 1 ∧ NC + 3 ≤ 100000) (hL : L ≤ 3072) (hi : i + 6 ≤ L) (hl : lv_has ls 4 [(0, .ref b), (1, .ref (q 0)), (2, .ref (qm 0)), (3, .int (nI i))]) (hcap : cells + 3 ≤ 600000 ∧ slots + 267 ≤ 7302250)
    (K : ∀ (q' : Nat → Nat) (NC' : Nat) (X' M' : x_M) (H : Heap) (locs : List Loc), y_B D cy ad s q' NC' X' qm M' H locs → Rl NC' X' M' → NC' ≤ NC + 3 → q' 0 = q 0 → W p l e room_1 s m #[Value.ref b] below meth c H locs (cells + 3) (slots + 267) Q (F0 m 1484 ls [])) : W p l e room_1 s m #[Value.ref b] below meth c H locs cells slots Q (F0 m 1115 ls []) := by
  have hx := C.1.1
  have hb := C.1.2.1
  obtain ⟨r, X', M', e1, e2, e4⟩ := hE NC X M (xs (i + 1)) (xs (i + 2)) (xs (i + 3)) hR
  refine lv_aload_n hx hb dL_law_1115 rfl (lv_at hl 1 rfl) ?_
  refine lv_aload_n hx hb dL_law_1116 rfl (lv_at hl 0 rfl) ?_
  refine lv_iload_n hx hb dL_law_1117 rfl (lv_at hl 3 rfl) ?_
  refine lv_iconst (v := (nI 1)) hx hb dL_law_1118 (by decide) ?_
  refine lv_iadd hx hb dL_law_1119 ?_
  rw [z_add]
  refine y_ld C hB.2.2.2.2.2 (show i + 1 < L by omega) hL dL_law_1120 ?_
  refine lv_aload_n hx hb dL_law_1121 rfl (lv_at hl 0 rfl) ?_
  refine lv_iload_n hx hb dL_law_1122 rfl (lv_at hl 3 rfl) ?_
  refine lv_iconst (v := (nI 2)) hx hb dL_law_1123 (by decide) ?_
  refine lv_iadd hx hb dL_law_1124 ?_
  rw [z_add]
  refine y_ld C hB.2.2.2.2.2 (show i + 2 < L by omega) hL dL_law_1125 ?_
  refine lv_aload_n hx hb dL_law_1126 rfl (lv_at hl 0 rfl) ?_
  refine lv_iload_n hx hb dL_law_1127 rfl (lv_at hl 3 rfl) ?_
  refine lv_iconst (v := (nI 3)) hx hb dL_law_1128 (by decide) ?_
  refine lv_iadd hx hb dL_law_1129 ?_
  rw [z_add]
  refine y_ld C hB.2.2.2.2.2 (show i + 3 < L by omega) hL dL_law_1130 ?_
  refine y_callX C hB (As := [.int (xs (i + 1)), .int (xs (i + 2)), .int (xs (i + 3))]) (rest := []) (c_X11_offer hB.2.2.1 (by omega) e1) lm_118 lv_118 (by omega) rfl ⟨rfl, rfl, by decide, by decide⟩ rfl hl.1 rfl (Nat.le_of_ble_eq_true rfl) dL_law_1131 ⟨by omega, by omega⟩ (fun H locs hB => ?_)
  refine lv_aload_n hx hb dL_law_1134 rfl (lv_at hl 2 rfl) ?_
  refine lv_aload_n hx hb dL_law_1135 rfl (lv_at hl 0 rfl) ?_
  refine lv_iload_n hx hb dL_law_1136 rfl (lv_at hl 3 rfl) ?_
  refine lv_iconst (v := (nI 1)) hx hb dL_law_1137 (by decide) ?_
  refine lv_iadd hx hb dL_law_1138 ?_
  rw [z_add]
  refine y_ld C hB.2.2.2.2.2 (show i + 1 < L by omega) hL dL_law_1139 ?_
  refine lv_aload_n hx hb dL_law_1140 rfl (lv_at hl 0 rfl) ?_
  refine lv_iload_n hx hb dL_law_1141 rfl (lv_at hl 3 rfl) ?_
  refine lv_iconst (v := (nI 2)) hx hb dL_law_1142 (by decide) ?_
  refine lv_iadd hx hb dL_law_1143 ?_
  rw [z_add]
  refine y_ld C hB.2.2.2.2.2 (show i + 2 < L by omega) hL dL_law_1144 ?_
  refine lv_aload_n hx hb dL_law_1145 rfl (lv_at hl 0 rfl) ?_
  refine lv_iload_n hx hb dL_law_1146 rfl (lv_at hl 3 rfl) ?_
  refine lv_iconst (v := (nI 3)) hx hb dL_law_1147 (by decide) ?_
  refine lv_iadd hx hb dL_law_1148 ?_
  rw [z_add]
  refine y_ld C hB.2.2.2.2.2 (show i + 3 < L by omega) hL dL_law_1149 ?_
  refine y_callM C hB (As := [.int (xs (i + 1)), .int (xs (i + 2)), .int (xs (i + 3))]) (rest := [.int r]) (c_X12_offer hB.2.2.2.1 e2) lm_121 lv_121 rfl ⟨rfl, rfl, by decide, by decide⟩ rfl hl.1 rfl (Nat.le_of_ble_eq_true rfl) dL_law_1150 ⟨by omega, by omega⟩ (fun H locs hB => ?_)
  exact lv_icmp_eq (tgt := 1484) hx hb dL_law_1153 (by decide) (fun _ => W.widen (k := cells + 3) (n := slots + 267) (by omega) (by omega) (K q NC X' M' H locs hB e4 (by omega) rfl)) (fun h => absurd rfl h)
set_option maxHeartbeats 4000000 in
set_option maxRecDepth 100000 in
theorem y_c_clear {Rl : Nat → x_M → x_M → Prop} {p : Program} {l : Launch} {e : Env} {s : State} {m : MethodId} {below : List Frame} {meth : Method} {c : Code} {Q : State → Prop} {b L : Nat} {xs : Nat → Int32} {D : va_G} {cy : Nat → ClassId} {ad adV q qm : Nat → Nat} {NC i cells slots : Nat} {X M : x_M} {H : Heap} {locs : List Loc} {ls : Array Slot} (hE : y_H_clear Rl) (C : y_C p s m c b L xs D cy ad adV) (hB : y_B D cy ad s q NC X qm M H locs) (hR : Rl NC X M) (hN : 94 ≤ NC ∧ NC % 3 = 1 ∧ NC + 3 ≤ 100000) (hL : L ≤ 3072) (hi : i + 6 ≤ L) (hl : lv_has ls 4 [(0, .ref b), (1, .ref (q 0)), (2, .ref (qm 0)), (3, .int (nI i))]) (hcap : cells + 3 ≤ 600000 ∧ slots + 267 ≤ 7302250)
    (K : ∀ (q' : Nat → Nat) (NC' : Nat) (X' M' : x_M) (H : Heap) (locs : List Loc), y_B D cy ad s q' NC' X' qm M' H locs → Rl NC' X' M' → NC' ≤ NC + 3 → q' 0 = q 0 → W p l e room_1 s m #[Value.ref b] below meth c H locs (cells + 3) (slots + 267) Q (F0 m 1484 ls [])) : W p l e room_1 s m #[Value.ref b] below meth c H locs cells slots Q (F0 m 1158 ls []) := by
  have hx := C.1.1
  have hb := C.1.2.1
  obtain ⟨r, X', M', e1, e2, e4⟩ := hE NC X M  hR
  refine lv_aload_n hx hb dL_law_1158 rfl (lv_at hl 1 rfl) ?_
  refine y_callX C hB (As := []) (rest := []) (c_X11_clear hB.2.2.1 (by omega) e1) lm_122 lv_122 (by omega) rfl ⟨rfl, rfl, by decide, by decide⟩ rfl hl.1 rfl (Nat.le_of_ble_eq_true rfl) dL_law_1159 ⟨by omega, by omega⟩ (fun H locs hB => ?_)
  refine lv_aload_n hx hb dL_law_1162 rfl (lv_at hl 2 rfl) ?_
  refine y_callM C hB (As := []) (rest := [.int r]) (c_X12_clear hB.2.2.2.1 e2) lm_126 lv_126 rfl ⟨rfl, rfl, by decide, by decide⟩ rfl hl.1 rfl (Nat.le_of_ble_eq_true rfl) dL_law_1163 ⟨by omega, by omega⟩ (fun H locs hB => ?_)
  exact lv_icmp_eq (tgt := 1484) hx hb dL_law_1166 (by decide) (fun _ => W.widen (k := cells + 3) (n := slots + 267) (by omega) (by omega) (K q NC X' M' H locs hB e4 (by omega) rfl)) (fun h => absurd rfl h)
set_option maxHeartbeats 4000000 in
set_option maxRecDepth 100000 in
theorem y_c_way {Rl : Nat → x_M → x_M → Prop} {p : Program} {l : Launch} {e : Env} {s : State} {m : MethodId} {below : List Frame} {meth : Method} {c : Code} {Q : State → Prop} {b L : Nat} {xs : Nat → Int32} {D : va_G} {cy : Nat → ClassId} {ad adV q qm : Nat → Nat} {NC i cells slots : Nat} {X M : x_M} {H : Heap} {locs : List Loc} {ls : Array Slot} (hE : y_H_way Rl) (C : y_C p s m c b L xs D cy ad adV) (hB : y_B D cy ad s q NC X qm M H locs) (hR : Rl NC X M) (hN : 94 ≤ NC ∧ NC % 3 = 1 ∧ NC + 3 ≤ 100000) (hL : L ≤ 3072) (hi : i + 6 ≤ L) (hl : lv_has ls 4 [(0, .ref b), (1, .ref (q 0)), (2, .ref (qm 0)), (3, .int (nI i))]) (hcap : cells + 3 ≤ 600000 ∧ slots + 267 ≤ 7302250)
    (K : ∀ (q' : Nat → Nat) (NC' : Nat) (X' M' : x_M) (H : Heap) (locs : List Loc), y_B D cy ad s q' NC' X' qm M' H locs → Rl NC' X' M' → NC' ≤ NC + 3 → q' 0 = q 0 → W p l e room_1 s m #[Value.ref b] below meth c H locs (cells + 3) (slots + 267) Q (F0 m 1484 ls [])) : W p l e room_1 s m #[Value.ref b] below meth c H locs cells slots Q (F0 m 1171 ls []) := by
  have hx := C.1.1
  have hb := C.1.2.1
  obtain ⟨r, X', M', e1, e2, e4⟩ := hE NC X M (xs (i + 1)) hR
  refine lv_aload_n hx hb dL_law_1171 rfl (lv_at hl 1 rfl) ?_
  refine lv_aload_n hx hb dL_law_1172 rfl (lv_at hl 0 rfl) ?_
  refine lv_iload_n hx hb dL_law_1173 rfl (lv_at hl 3 rfl) ?_
  refine lv_iconst (v := (nI 1)) hx hb dL_law_1174 (by decide) ?_
  refine lv_iadd hx hb dL_law_1175 ?_
  rw [z_add]
  refine y_ld C hB.2.2.2.2.2 (show i + 1 < L by omega) hL dL_law_1176 ?_
  refine y_callX C hB (As := [.int (xs (i + 1))]) (rest := []) (c_X11_way hB.2.2.1 (by omega) e1) lm_127 lv_127 (by omega) rfl ⟨rfl, rfl, by decide, by decide⟩ rfl hl.1 rfl (Nat.le_of_ble_eq_true rfl) dL_law_1177 ⟨by omega, by omega⟩ (fun H locs hB => ?_)
  refine lv_aload_n hx hb dL_law_1180 rfl (lv_at hl 2 rfl) ?_
  refine lv_aload_n hx hb dL_law_1181 rfl (lv_at hl 0 rfl) ?_
  refine lv_iload_n hx hb dL_law_1182 rfl (lv_at hl 3 rfl) ?_
  refine lv_iconst (v := (nI 1)) hx hb dL_law_1183 (by decide) ?_
  refine lv_iadd hx hb dL_law_1184 ?_
  rw [z_add]
  refine y_ld C hB.2.2.2.2.2 (show i + 1 < L by omega) hL dL_law_1185 ?_
  refine y_callM C hB (As := [.int (xs (i + 1))]) (rest := [.int r]) (c_X12_way hB.2.2.2.1 e2) lm_130 lv_130 rfl ⟨rfl, rfl, by decide, by decide⟩ rfl hl.1 rfl (Nat.le_of_ble_eq_true rfl) dL_law_1186 ⟨by omega, by omega⟩ (fun H locs hB => ?_)
  exact lv_icmp_eq (tgt := 1484) hx hb dL_law_1189 (by decide) (fun _ => W.widen (k := cells + 3) (n := slots + 267) (by omega) (by omega) (K q NC X' M' H locs hB e4 (by omega) rfl)) (fun h => absurd rfl h)
set_option maxHeartbeats 4000000 in
set_option maxRecDepth 100000 in
theorem y_c_taken {Rl : Nat → x_M → x_M → Prop} {p : Program} {l : Launch} {e : Env} {s : State} {m : MethodId} {below : List Frame} {meth : Method} {c : Code} {Q : State → Prop} {b L : Nat} {xs : Nat → Int32} {D : va_G} {cy : Nat → ClassId} {ad adV q qm : Nat → Nat} {NC i cells slots : Nat} {X M : x_M} {H : Heap} {locs : List Loc} {ls : Array Slot} (hE : y_H_taken Rl) (C : y_C p s m c b L xs D cy ad adV) (hB : y_B D cy ad s q NC X qm M H locs) (hR : Rl NC X M) (hN : 94 ≤ NC ∧ NC % 3 = 1 ∧ NC + 3 ≤ 100000) (hL : L ≤ 3072) (hi : i + 6 ≤ L) (hl : lv_has ls 4 [(0, .ref b), (1, .ref (q 0)), (2, .ref (qm 0)), (3, .int (nI i))]) (hcap : cells + 3 ≤ 600000 ∧ slots + 267 ≤ 7302250)
    (K : ∀ (q' : Nat → Nat) (NC' : Nat) (X' M' : x_M) (H : Heap) (locs : List Loc), y_B D cy ad s q' NC' X' qm M' H locs → Rl NC' X' M' → NC' ≤ NC + 3 → q' 0 = q 0 → W p l e room_1 s m #[Value.ref b] below meth c H locs (cells + 3) (slots + 267) Q (F0 m 1484 ls [])) : W p l e room_1 s m #[Value.ref b] below meth c H locs cells slots Q (F0 m 1194 ls []) := by
  have hx := C.1.1
  have hb := C.1.2.1
  obtain ⟨r, X', M', e1, e2, e4⟩ := hE NC X M (xs (i + 1)) (xs (i + 2)) hR
  refine lv_aload_n hx hb dL_law_1194 rfl (lv_at hl 1 rfl) ?_
  refine lv_aload_n hx hb dL_law_1195 rfl (lv_at hl 0 rfl) ?_
  refine lv_iload_n hx hb dL_law_1196 rfl (lv_at hl 3 rfl) ?_
  refine lv_iconst (v := (nI 1)) hx hb dL_law_1197 (by decide) ?_
  refine lv_iadd hx hb dL_law_1198 ?_
  rw [z_add]
  refine y_ld C hB.2.2.2.2.2 (show i + 1 < L by omega) hL dL_law_1199 ?_
  refine lv_aload_n hx hb dL_law_1200 rfl (lv_at hl 0 rfl) ?_
  refine lv_iload_n hx hb dL_law_1201 rfl (lv_at hl 3 rfl) ?_
  refine lv_iconst (v := (nI 2)) hx hb dL_law_1202 (by decide) ?_
  refine lv_iadd hx hb dL_law_1203 ?_
  rw [z_add]
  refine y_ld C hB.2.2.2.2.2 (show i + 2 < L by omega) hL dL_law_1204 ?_
  refine y_callX C hB (As := [.int (xs (i + 1)), .int (xs (i + 2))]) (rest := []) (c_X11_taken hB.2.2.1 (by omega) e1) lm_131 lv_131 (by omega) rfl ⟨rfl, rfl, by decide, by decide⟩ rfl hl.1 rfl (Nat.le_of_ble_eq_true rfl) dL_law_1205 ⟨by omega, by omega⟩ (fun H locs hB => ?_)
  refine lv_aload_n hx hb dL_law_1208 rfl (lv_at hl 2 rfl) ?_
  refine lv_aload_n hx hb dL_law_1209 rfl (lv_at hl 0 rfl) ?_
  refine lv_iload_n hx hb dL_law_1210 rfl (lv_at hl 3 rfl) ?_
  refine lv_iconst (v := (nI 1)) hx hb dL_law_1211 (by decide) ?_
  refine lv_iadd hx hb dL_law_1212 ?_
  rw [z_add]
  refine y_ld C hB.2.2.2.2.2 (show i + 1 < L by omega) hL dL_law_1213 ?_
  refine lv_aload_n hx hb dL_law_1214 rfl (lv_at hl 0 rfl) ?_
  refine lv_iload_n hx hb dL_law_1215 rfl (lv_at hl 3 rfl) ?_
  refine lv_iconst (v := (nI 2)) hx hb dL_law_1216 (by decide) ?_
  refine lv_iadd hx hb dL_law_1217 ?_
  rw [z_add]
  refine y_ld C hB.2.2.2.2.2 (show i + 2 < L by omega) hL dL_law_1218 ?_
  refine y_callM C hB (As := [.int (xs (i + 1)), .int (xs (i + 2))]) (rest := [.int r]) (c_X12_taken hB.2.2.2.1 e2) lm_134 lv_134 rfl ⟨rfl, rfl, by decide, by decide⟩ rfl hl.1 rfl (Nat.le_of_ble_eq_true rfl) dL_law_1219 ⟨by omega, by omega⟩ (fun H locs hB => ?_)
  exact lv_icmp_eq (tgt := 1484) hx hb dL_law_1222 (by decide) (fun _ => W.widen (k := cells + 3) (n := slots + 267) (by omega) (by omega) (K q NC X' M' H locs hB e4 (by omega) rfl)) (fun h => absurd rfl h)
set_option maxHeartbeats 4000000 in
set_option maxRecDepth 100000 in
theorem y_c_tell {Rl : Nat → x_M → x_M → Prop} {p : Program} {l : Launch} {e : Env} {s : State} {m : MethodId} {below : List Frame} {meth : Method} {c : Code} {Q : State → Prop} {b L : Nat} {xs : Nat → Int32} {D : va_G} {cy : Nat → ClassId} {ad adV q qm : Nat → Nat} {NC i cells slots : Nat} {X M : x_M} {H : Heap} {locs : List Loc} {ls : Array Slot} (hE : y_H_tell Rl) (C : y_C p s m c b L xs D cy ad adV) (hB : y_B D cy ad s q NC X qm M H locs) (hR : Rl NC X M) (hN : 94 ≤ NC ∧ NC % 3 = 1 ∧ NC + 3 ≤ 100000) (hL : L ≤ 3072) (hi : i + 6 ≤ L) (hl : lv_has ls 4 [(0, .ref b), (1, .ref (q 0)), (2, .ref (qm 0)), (3, .int (nI i))]) (hcap : cells + 3 ≤ 600000 ∧ slots + 267 ≤ 7302250)
    (K : ∀ (q' : Nat → Nat) (NC' : Nat) (X' M' : x_M) (H : Heap) (locs : List Loc), y_B D cy ad s q' NC' X' qm M' H locs → Rl NC' X' M' → NC' ≤ NC + 3 → q' 0 = q 0 → W p l e room_1 s m #[Value.ref b] below meth c H locs (cells + 3) (slots + 267) Q (F0 m 1484 ls [])) : W p l e room_1 s m #[Value.ref b] below meth c H locs cells slots Q (F0 m 1227 ls []) := by
  have hx := C.1.1
  have hb := C.1.2.1
  obtain ⟨r, X', M', e1, e2, e4⟩ := hE NC X M (xs (i + 1)) hR
  refine lv_aload_n hx hb dL_law_1227 rfl (lv_at hl 1 rfl) ?_
  refine lv_aload_n hx hb dL_law_1228 rfl (lv_at hl 0 rfl) ?_
  refine lv_iload_n hx hb dL_law_1229 rfl (lv_at hl 3 rfl) ?_
  refine lv_iconst (v := (nI 1)) hx hb dL_law_1230 (by decide) ?_
  refine lv_iadd hx hb dL_law_1231 ?_
  rw [z_add]
  refine y_ld C hB.2.2.2.2.2 (show i + 1 < L by omega) hL dL_law_1232 ?_
  refine y_callX C hB (As := [.int (xs (i + 1))]) (rest := []) (c_X11_tell hB.2.2.1 (by omega) e1) lm_135 lv_135 (by omega) rfl ⟨rfl, rfl, by decide, by decide⟩ rfl hl.1 rfl (Nat.le_of_ble_eq_true rfl) dL_law_1233 ⟨by omega, by omega⟩ (fun H locs hB => ?_)
  refine lv_aload_n hx hb dL_law_1236 rfl (lv_at hl 2 rfl) ?_
  refine lv_aload_n hx hb dL_law_1237 rfl (lv_at hl 0 rfl) ?_
  refine lv_iload_n hx hb dL_law_1238 rfl (lv_at hl 3 rfl) ?_
  refine lv_iconst (v := (nI 1)) hx hb dL_law_1239 (by decide) ?_
  refine lv_iadd hx hb dL_law_1240 ?_
  rw [z_add]
  refine y_ld C hB.2.2.2.2.2 (show i + 1 < L by omega) hL dL_law_1241 ?_
  refine y_callM C hB (As := [.int (xs (i + 1))]) (rest := [.int r]) (c_X12_tell hB.2.2.2.1 e2) lm_138 lv_138 rfl ⟨rfl, rfl, by decide, by decide⟩ rfl hl.1 rfl (Nat.le_of_ble_eq_true rfl) dL_law_1242 ⟨by omega, by omega⟩ (fun H locs hB => ?_)
  exact lv_icmp_eq (tgt := 1484) hx hb dL_law_1245 (by decide) (fun _ => W.widen (k := cells + 3) (n := slots + 267) (by omega) (by omega) (K q NC X' M' H locs hB e4 (by omega) rfl)) (fun h => absurd rfl h)
set_option maxHeartbeats 4000000 in
set_option maxRecDepth 100000 in
theorem y_c_check {Rl : Nat → x_M → x_M → Prop} {p : Program} {l : Launch} {e : Env} {s : State} {m : MethodId} {below : List Frame} {meth : Method} {c : Code} {Q : State → Prop} {b L : Nat} {xs : Nat → Int32} {D : va_G} {cy : Nat → ClassId} {ad adV q qm : Nat → Nat} {NC i cells slots : Nat} {X M : x_M} {H : Heap} {locs : List Loc} {ls : Array Slot} (hE : y_H_check Rl) (C : y_C p s m c b L xs D cy ad adV) (hB : y_B D cy ad s q NC X qm M H locs) (hR : Rl NC X M) (hN : 94 ≤ NC ∧ NC % 3 = 1 ∧ NC + 3 ≤ 100000) (hL : L ≤ 3072) (hi : i + 6 ≤ L) (hl : lv_has ls 4 [(0, .ref b), (1, .ref (q 0)), (2, .ref (qm 0)), (3, .int (nI i))]) (hcap : cells + 3 ≤ 600000 ∧ slots + 267 ≤ 7302250)
    (K : ∀ (q' : Nat → Nat) (NC' : Nat) (X' M' : x_M) (H : Heap) (locs : List Loc), y_B D cy ad s q' NC' X' qm M' H locs → Rl NC' X' M' → NC' ≤ NC + 3 → q' 0 = q 0 → W p l e room_1 s m #[Value.ref b] below meth c H locs (cells + 3) (slots + 267) Q (F0 m 1484 ls [])) : W p l e room_1 s m #[Value.ref b] below meth c H locs cells slots Q (F0 m 1250 ls []) := by
  have hx := C.1.1
  have hb := C.1.2.1
  obtain ⟨r, X', M', e1, e2, e4⟩ := hE NC X M (xs (i + 1)) hR
  refine lv_aload_n hx hb dL_law_1250 rfl (lv_at hl 1 rfl) ?_
  refine lv_aload_n hx hb dL_law_1251 rfl (lv_at hl 0 rfl) ?_
  refine lv_iload_n hx hb dL_law_1252 rfl (lv_at hl 3 rfl) ?_
  refine lv_iconst (v := (nI 1)) hx hb dL_law_1253 (by decide) ?_
  refine lv_iadd hx hb dL_law_1254 ?_
  rw [z_add]
  refine y_ld C hB.2.2.2.2.2 (show i + 1 < L by omega) hL dL_law_1255 ?_
  refine y_callX C hB (As := [.int (xs (i + 1))]) (rest := []) (c_X11_check hB.2.2.1 (by omega) e1) lm_139 lv_139 (by omega) rfl ⟨rfl, rfl, by decide, by decide⟩ rfl hl.1 rfl (Nat.le_of_ble_eq_true rfl) dL_law_1256 ⟨by omega, by omega⟩ (fun H locs hB => ?_)
  refine lv_aload_n hx hb dL_law_1259 rfl (lv_at hl 2 rfl) ?_
  refine lv_aload_n hx hb dL_law_1260 rfl (lv_at hl 0 rfl) ?_
  refine lv_iload_n hx hb dL_law_1261 rfl (lv_at hl 3 rfl) ?_
  refine lv_iconst (v := (nI 1)) hx hb dL_law_1262 (by decide) ?_
  refine lv_iadd hx hb dL_law_1263 ?_
  rw [z_add]
  refine y_ld C hB.2.2.2.2.2 (show i + 1 < L by omega) hL dL_law_1264 ?_
  refine y_callM C hB (As := [.int (xs (i + 1))]) (rest := [.int r]) (c_X12_check hB.2.2.2.1 e2) lm_142 lv_142 rfl ⟨rfl, rfl, by decide, by decide⟩ rfl hl.1 rfl (Nat.le_of_ble_eq_true rfl) dL_law_1265 ⟨by omega, by omega⟩ (fun H locs hB => ?_)
  exact lv_icmp_eq (tgt := 1484) hx hb dL_law_1268 (by decide) (fun _ => W.widen (k := cells + 3) (n := slots + 267) (by omega) (by omega) (K q NC X' M' H locs hB e4 (by omega) rfl)) (fun h => absurd rfl h)
set_option maxHeartbeats 4000000 in
set_option maxRecDepth 100000 in
theorem y_c_ring {Rl : Nat → x_M → x_M → Prop} {p : Program} {l : Launch} {e : Env} {s : State} {m : MethodId} {below : List Frame} {meth : Method} {c : Code} {Q : State → Prop} {b L : Nat} {xs : Nat → Int32} {D : va_G} {cy : Nat → ClassId} {ad adV q qm : Nat → Nat} {NC i cells slots : Nat} {X M : x_M} {H : Heap} {locs : List Loc} {ls : Array Slot} (hE : y_H_ring Rl) (C : y_C p s m c b L xs D cy ad adV) (hB : y_B D cy ad s q NC X qm M H locs) (hR : Rl NC X M) (hN : 94 ≤ NC ∧ NC % 3 = 1 ∧ NC + 3 ≤ 100000) (hL : L ≤ 3072) (hi : i + 6 ≤ L) (hl : lv_has ls 4 [(0, .ref b), (1, .ref (q 0)), (2, .ref (qm 0)), (3, .int (nI i))]) (hcap : cells + 3 ≤ 600000 ∧ slots + 267 ≤ 7302250)
    (K : ∀ (q' : Nat → Nat) (NC' : Nat) (X' M' : x_M) (H : Heap) (locs : List Loc), y_B D cy ad s q' NC' X' qm M' H locs → Rl NC' X' M' → NC' ≤ NC + 3 → q' 0 = q 0 → W p l e room_1 s m #[Value.ref b] below meth c H locs (cells + 3) (slots + 267) Q (F0 m 1484 ls [])) : W p l e room_1 s m #[Value.ref b] below meth c H locs cells slots Q (F0 m 1273 ls []) := by
  have hx := C.1.1
  have hb := C.1.2.1
  obtain ⟨r, X', M', e1, e2, e4⟩ := hE NC X M (xs (i + 1)) hR
  refine lv_aload_n hx hb dL_law_1273 rfl (lv_at hl 1 rfl) ?_
  refine lv_aload_n hx hb dL_law_1274 rfl (lv_at hl 0 rfl) ?_
  refine lv_iload_n hx hb dL_law_1275 rfl (lv_at hl 3 rfl) ?_
  refine lv_iconst (v := (nI 1)) hx hb dL_law_1276 (by decide) ?_
  refine lv_iadd hx hb dL_law_1277 ?_
  rw [z_add]
  refine y_ld C hB.2.2.2.2.2 (show i + 1 < L by omega) hL dL_law_1278 ?_
  refine y_callX C hB (As := [.int (xs (i + 1))]) (rest := []) (c_X11_ring hB.2.2.1 (by omega) e1) lm_143 lv_143 (by omega) rfl ⟨rfl, rfl, by decide, by decide⟩ rfl hl.1 rfl (Nat.le_of_ble_eq_true rfl) dL_law_1279 ⟨by omega, by omega⟩ (fun H locs hB => ?_)
  refine lv_aload_n hx hb dL_law_1282 rfl (lv_at hl 2 rfl) ?_
  refine lv_aload_n hx hb dL_law_1283 rfl (lv_at hl 0 rfl) ?_
  refine lv_iload_n hx hb dL_law_1284 rfl (lv_at hl 3 rfl) ?_
  refine lv_iconst (v := (nI 1)) hx hb dL_law_1285 (by decide) ?_
  refine lv_iadd hx hb dL_law_1286 ?_
  rw [z_add]
  refine y_ld C hB.2.2.2.2.2 (show i + 1 < L by omega) hL dL_law_1287 ?_
  refine y_callM C hB (As := [.int (xs (i + 1))]) (rest := [.int r]) (c_X12_ring hB.2.2.2.1 e2) lm_146 lv_146 rfl ⟨rfl, rfl, by decide, by decide⟩ rfl hl.1 rfl (Nat.le_of_ble_eq_true rfl) dL_law_1288 ⟨by omega, by omega⟩ (fun H locs hB => ?_)
  exact lv_icmp_eq (tgt := 1484) hx hb dL_law_1291 (by decide) (fun _ => W.widen (k := cells + 3) (n := slots + 267) (by omega) (by omega) (K q NC X' M' H locs hB e4 (by omega) rfl)) (fun h => absurd rfl h)
set_option maxHeartbeats 4000000 in
set_option maxRecDepth 100000 in
theorem y_c_keep {Rl : Nat → x_M → x_M → Prop} {p : Program} {l : Launch} {e : Env} {s : State} {m : MethodId} {below : List Frame} {meth : Method} {c : Code} {Q : State → Prop} {b L : Nat} {xs : Nat → Int32} {D : va_G} {cy : Nat → ClassId} {ad adV q qm : Nat → Nat} {NC i cells slots : Nat} {X M : x_M} {H : Heap} {locs : List Loc} {ls : Array Slot} (hE : y_H_keep Rl) (C : y_C p s m c b L xs D cy ad adV) (hB : y_B D cy ad s q NC X qm M H locs) (hR : Rl NC X M) (hN : 94 ≤ NC ∧ NC % 3 = 1 ∧ NC + 3 ≤ 100000) (hL : L ≤ 3072) (hi : i + 6 ≤ L) (hl : lv_has ls 4 [(0, .ref b), (1, .ref (q 0)), (2, .ref (qm 0)), (3, .int (nI i))]) (hcap : cells + 3 ≤ 600000 ∧ slots + 267 ≤ 7302250)
    (K : ∀ (q' : Nat → Nat) (NC' : Nat) (X' M' : x_M) (H : Heap) (locs : List Loc), y_B D cy ad s q' NC' X' qm M' H locs → Rl NC' X' M' → NC' ≤ NC + 3 → q' 0 = q 0 → W p l e room_1 s m #[Value.ref b] below meth c H locs (cells + 3) (slots + 267) Q (F0 m 1484 ls [])) : W p l e room_1 s m #[Value.ref b] below meth c H locs cells slots Q (F0 m 1296 ls []) := by
  have hx := C.1.1
  have hb := C.1.2.1
  obtain ⟨r, X', M', e1, e2, e4⟩ := hE NC X M  hR
  refine lv_aload_n hx hb dL_law_1296 rfl (lv_at hl 1 rfl) ?_
  refine y_callX C hB (As := []) (rest := []) (c_X11_keep hB.2.2.1 (by omega) e1) lm_147 lv_147 (by omega) rfl ⟨rfl, rfl, by decide, by decide⟩ rfl hl.1 rfl (Nat.le_of_ble_eq_true rfl) dL_law_1297 ⟨by omega, by omega⟩ (fun H locs hB => ?_)
  refine lv_aload_n hx hb dL_law_1300 rfl (lv_at hl 2 rfl) ?_
  refine y_callM C hB (As := []) (rest := [.int r]) (c_X12_keep hB.2.2.2.1 e2) lm_150 lv_150 rfl ⟨rfl, rfl, by decide, by decide⟩ rfl hl.1 rfl (Nat.le_of_ble_eq_true rfl) dL_law_1301 ⟨by omega, by omega⟩ (fun H locs hB => ?_)
  exact lv_icmp_eq (tgt := 1484) hx hb dL_law_1304 (by decide) (fun _ => W.widen (k := cells + 3) (n := slots + 267) (by omega) (by omega) (K q NC X' M' H locs hB e4 (by omega) rfl)) (fun h => absurd rfl h)
set_option maxHeartbeats 4000000 in
set_option maxRecDepth 100000 in
theorem y_c_again {Rl : Nat → x_M → x_M → Prop} {p : Program} {l : Launch} {e : Env} {s : State} {m : MethodId} {below : List Frame} {meth : Method} {c : Code} {Q : State → Prop} {b L : Nat} {xs : Nat → Int32} {D : va_G} {cy : Nat → ClassId} {ad adV q qm : Nat → Nat} {NC i cells slots : Nat} {X M : x_M} {H : Heap} {locs : List Loc} {ls : Array Slot} (hE : y_H_again Rl) (C : y_C p s m c b L xs D cy ad adV) (hB : y_B D cy ad s q NC X qm M H locs) (hR : Rl NC X M) (hN : 94 ≤ NC ∧ NC % 3 = 1 ∧ NC + 3 ≤ 100000) (hL : L ≤ 3072) (hi : i + 6 ≤ L) (hl : lv_has ls 4 [(0, .ref b), (1, .ref (q 0)), (2, .ref (qm 0)), (3, .int (nI i))]) (hcap : cells + 3 ≤ 600000 ∧ slots + 267 ≤ 7302250)
    (K : ∀ (q' : Nat → Nat) (NC' : Nat) (X' M' : x_M) (H : Heap) (locs : List Loc), y_B D cy ad s q' NC' X' qm M' H locs → Rl NC' X' M' → NC' ≤ NC + 3 → q' 0 = q 0 → W p l e room_1 s m #[Value.ref b] below meth c H locs (cells + 3) (slots + 267) Q (F0 m 1484 ls [])) : W p l e room_1 s m #[Value.ref b] below meth c H locs cells slots Q (F0 m 1309 ls []) := by
  have hx := C.1.1
  have hb := C.1.2.1
  obtain ⟨r, X', M', e1, e2, e4⟩ := hE NC X M  hR
  refine lv_aload_n hx hb dL_law_1309 rfl (lv_at hl 1 rfl) ?_
  refine y_callX C hB (As := []) (rest := []) (c_X11_again hB.2.2.1 (by omega) e1) lm_151 lv_151 (by omega) rfl ⟨rfl, rfl, by decide, by decide⟩ rfl hl.1 rfl (Nat.le_of_ble_eq_true rfl) dL_law_1310 ⟨by omega, by omega⟩ (fun H locs hB => ?_)
  refine lv_aload_n hx hb dL_law_1313 rfl (lv_at hl 2 rfl) ?_
  refine y_callM C hB (As := []) (rest := [.int r]) (c_X12_again hB.2.2.2.1 e2) lm_154 lv_154 rfl ⟨rfl, rfl, by decide, by decide⟩ rfl hl.1 rfl (Nat.le_of_ble_eq_true rfl) dL_law_1314 ⟨by omega, by omega⟩ (fun H locs hB => ?_)
  exact lv_icmp_eq (tgt := 1484) hx hb dL_law_1317 (by decide) (fun _ => W.widen (k := cells + 3) (n := slots + 267) (by omega) (by omega) (K q NC X' M' H locs hB e4 (by omega) rfl)) (fun h => absurd rfl h)
set_option maxHeartbeats 4000000 in
set_option maxRecDepth 100000 in
theorem y_c_sheet {Rl : Nat → x_M → x_M → Prop} {p : Program} {l : Launch} {e : Env} {s : State} {m : MethodId} {below : List Frame} {meth : Method} {c : Code} {Q : State → Prop} {b L : Nat} {xs : Nat → Int32} {D : va_G} {cy : Nat → ClassId} {ad adV q qm : Nat → Nat} {NC i cells slots : Nat} {X M : x_M} {H : Heap} {locs : List Loc} {ls : Array Slot} (hE : y_H_sheet Rl) (C : y_C p s m c b L xs D cy ad adV) (hB : y_B D cy ad s q NC X qm M H locs) (hR : Rl NC X M) (hN : 94 ≤ NC ∧ NC % 3 = 1 ∧ NC + 3 ≤ 100000) (hL : L ≤ 3072) (hi : i + 6 ≤ L) (hl : lv_has ls 4 [(0, .ref b), (1, .ref (q 0)), (2, .ref (qm 0)), (3, .int (nI i))]) (hcap : cells + 3 ≤ 600000 ∧ slots + 267 ≤ 7302250)
    (K : ∀ (q' : Nat → Nat) (NC' : Nat) (X' M' : x_M) (H : Heap) (locs : List Loc), y_B D cy ad s q' NC' X' qm M' H locs → Rl NC' X' M' → NC' ≤ NC + 3 → q' 0 = q 0 → W p l e room_1 s m #[Value.ref b] below meth c H locs (cells + 3) (slots + 267) Q (F0 m 1484 ls [])) : W p l e room_1 s m #[Value.ref b] below meth c H locs cells slots Q (F0 m 1322 ls []) := by
  have hx := C.1.1
  have hb := C.1.2.1
  obtain ⟨r, X', M', e1, e2, e4⟩ := hE NC X M (xs (i + 1)) (xs (i + 2)) hR
  refine lv_aload_n hx hb dL_law_1322 rfl (lv_at hl 1 rfl) ?_
  refine lv_aload_n hx hb dL_law_1323 rfl (lv_at hl 0 rfl) ?_
  refine lv_iload_n hx hb dL_law_1324 rfl (lv_at hl 3 rfl) ?_
  refine lv_iconst (v := (nI 1)) hx hb dL_law_1325 (by decide) ?_
  refine lv_iadd hx hb dL_law_1326 ?_
  rw [z_add]
  refine y_ld C hB.2.2.2.2.2 (show i + 1 < L by omega) hL dL_law_1327 ?_
  refine lv_aload_n hx hb dL_law_1328 rfl (lv_at hl 0 rfl) ?_
  refine lv_iload_n hx hb dL_law_1329 rfl (lv_at hl 3 rfl) ?_
  refine lv_iconst (v := (nI 2)) hx hb dL_law_1330 (by decide) ?_
  refine lv_iadd hx hb dL_law_1331 ?_
  rw [z_add]
  refine y_ld C hB.2.2.2.2.2 (show i + 2 < L by omega) hL dL_law_1332 ?_
  refine y_callX C hB (As := [.int (xs (i + 1)), .int (xs (i + 2))]) (rest := []) (c_X11_sheet hB.2.2.1 (by omega) e1) lm_155 lv_155 (by omega) rfl ⟨rfl, rfl, by decide, by decide⟩ rfl hl.1 rfl (Nat.le_of_ble_eq_true rfl) dL_law_1333 ⟨by omega, by omega⟩ (fun H locs hB => ?_)
  refine lv_aload_n hx hb dL_law_1336 rfl (lv_at hl 2 rfl) ?_
  refine lv_aload_n hx hb dL_law_1337 rfl (lv_at hl 0 rfl) ?_
  refine lv_iload_n hx hb dL_law_1338 rfl (lv_at hl 3 rfl) ?_
  refine lv_iconst (v := (nI 1)) hx hb dL_law_1339 (by decide) ?_
  refine lv_iadd hx hb dL_law_1340 ?_
  rw [z_add]
  refine y_ld C hB.2.2.2.2.2 (show i + 1 < L by omega) hL dL_law_1341 ?_
  refine lv_aload_n hx hb dL_law_1342 rfl (lv_at hl 0 rfl) ?_
  refine lv_iload_n hx hb dL_law_1343 rfl (lv_at hl 3 rfl) ?_
  refine lv_iconst (v := (nI 2)) hx hb dL_law_1344 (by decide) ?_
  refine lv_iadd hx hb dL_law_1345 ?_
  rw [z_add]
  refine y_ld C hB.2.2.2.2.2 (show i + 2 < L by omega) hL dL_law_1346 ?_
  refine y_callM C hB (As := [.int (xs (i + 1)), .int (xs (i + 2))]) (rest := [.int r]) (c_X12_sheet hB.2.2.2.1 e2) lm_158 lv_158 rfl ⟨rfl, rfl, by decide, by decide⟩ rfl hl.1 rfl (Nat.le_of_ble_eq_true rfl) dL_law_1347 ⟨by omega, by omega⟩ (fun H locs hB => ?_)
  exact lv_icmp_eq (tgt := 1484) hx hb dL_law_1350 (by decide) (fun _ => W.widen (k := cells + 3) (n := slots + 267) (by omega) (by omega) (K q NC X' M' H locs hB e4 (by omega) rfl)) (fun h => absurd rfl h)
set_option maxHeartbeats 4000000 in
set_option maxRecDepth 100000 in
theorem y_c_mark {Rl : Nat → x_M → x_M → Prop} {p : Program} {l : Launch} {e : Env} {s : State} {m : MethodId} {below : List Frame} {meth : Method} {c : Code} {Q : State → Prop} {b L : Nat} {xs : Nat → Int32} {D : va_G} {cy : Nat → ClassId} {ad adV q qm : Nat → Nat} {NC i cells slots : Nat} {X M : x_M} {H : Heap} {locs : List Loc} {ls : Array Slot} (hE : y_H_mark Rl) (C : y_C p s m c b L xs D cy ad adV) (hB : y_B D cy ad s q NC X qm M H locs) (hR : Rl NC X M) (hN : 94 ≤ NC ∧ NC % 3 = 1 ∧ NC + 3 ≤ 100000) (hL : L ≤ 3072) (hi : i + 6 ≤ L) (hl : lv_has ls 4 [(0, .ref b), (1, .ref (q 0)), (2, .ref (qm 0)), (3, .int (nI i))]) (hcap : cells + 3 ≤ 600000 ∧ slots + 267 ≤ 7302250)
    (K : ∀ (q' : Nat → Nat) (NC' : Nat) (X' M' : x_M) (H : Heap) (locs : List Loc), y_B D cy ad s q' NC' X' qm M' H locs → Rl NC' X' M' → NC' ≤ NC + 3 → q' 0 = q 0 → W p l e room_1 s m #[Value.ref b] below meth c H locs (cells + 3) (slots + 267) Q (F0 m 1484 ls [])) : W p l e room_1 s m #[Value.ref b] below meth c H locs cells slots Q (F0 m 1355 ls []) := by
  have hx := C.1.1
  have hb := C.1.2.1
  obtain ⟨r, X', M', e1, e2, e4⟩ := hE NC X M (xs (i + 1)) (xs (i + 2)) (xs (i + 3)) hR
  refine lv_aload_n hx hb dL_law_1355 rfl (lv_at hl 1 rfl) ?_
  refine lv_aload_n hx hb dL_law_1356 rfl (lv_at hl 0 rfl) ?_
  refine lv_iload_n hx hb dL_law_1357 rfl (lv_at hl 3 rfl) ?_
  refine lv_iconst (v := (nI 1)) hx hb dL_law_1358 (by decide) ?_
  refine lv_iadd hx hb dL_law_1359 ?_
  rw [z_add]
  refine y_ld C hB.2.2.2.2.2 (show i + 1 < L by omega) hL dL_law_1360 ?_
  refine lv_aload_n hx hb dL_law_1361 rfl (lv_at hl 0 rfl) ?_
  refine lv_iload_n hx hb dL_law_1362 rfl (lv_at hl 3 rfl) ?_
  refine lv_iconst (v := (nI 2)) hx hb dL_law_1363 (by decide) ?_
  refine lv_iadd hx hb dL_law_1364 ?_
  rw [z_add]
  refine y_ld C hB.2.2.2.2.2 (show i + 2 < L by omega) hL dL_law_1365 ?_
  refine lv_aload_n hx hb dL_law_1366 rfl (lv_at hl 0 rfl) ?_
  refine lv_iload_n hx hb dL_law_1367 rfl (lv_at hl 3 rfl) ?_
  refine lv_iconst (v := (nI 3)) hx hb dL_law_1368 (by decide) ?_
  refine lv_iadd hx hb dL_law_1369 ?_
  rw [z_add]
  refine y_ld C hB.2.2.2.2.2 (show i + 3 < L by omega) hL dL_law_1370 ?_
  refine y_callX C hB (As := [.int (xs (i + 1)), .int (xs (i + 2)), .int (xs (i + 3))]) (rest := []) (c_X11_mark hB.2.2.1 (by omega) e1) lm_159 lv_159 (by omega) rfl ⟨rfl, rfl, by decide, by decide⟩ rfl hl.1 rfl (Nat.le_of_ble_eq_true rfl) dL_law_1371 ⟨by omega, by omega⟩ (fun H locs hB => ?_)
  refine lv_aload_n hx hb dL_law_1374 rfl (lv_at hl 2 rfl) ?_
  refine lv_aload_n hx hb dL_law_1375 rfl (lv_at hl 0 rfl) ?_
  refine lv_iload_n hx hb dL_law_1376 rfl (lv_at hl 3 rfl) ?_
  refine lv_iconst (v := (nI 1)) hx hb dL_law_1377 (by decide) ?_
  refine lv_iadd hx hb dL_law_1378 ?_
  rw [z_add]
  refine y_ld C hB.2.2.2.2.2 (show i + 1 < L by omega) hL dL_law_1379 ?_
  refine lv_aload_n hx hb dL_law_1380 rfl (lv_at hl 0 rfl) ?_
  refine lv_iload_n hx hb dL_law_1381 rfl (lv_at hl 3 rfl) ?_
  refine lv_iconst (v := (nI 2)) hx hb dL_law_1382 (by decide) ?_
  refine lv_iadd hx hb dL_law_1383 ?_
  rw [z_add]
  refine y_ld C hB.2.2.2.2.2 (show i + 2 < L by omega) hL dL_law_1384 ?_
  refine lv_aload_n hx hb dL_law_1385 rfl (lv_at hl 0 rfl) ?_
  refine lv_iload_n hx hb dL_law_1386 rfl (lv_at hl 3 rfl) ?_
  refine lv_iconst (v := (nI 3)) hx hb dL_law_1387 (by decide) ?_
  refine lv_iadd hx hb dL_law_1388 ?_
  rw [z_add]
  refine y_ld C hB.2.2.2.2.2 (show i + 3 < L by omega) hL dL_law_1389 ?_
  refine y_callM C hB (As := [.int (xs (i + 1)), .int (xs (i + 2)), .int (xs (i + 3))]) (rest := [.int r]) (c_X12_mark hB.2.2.2.1 e2) lm_162 lv_162 rfl ⟨rfl, rfl, by decide, by decide⟩ rfl hl.1 rfl (Nat.le_of_ble_eq_true rfl) dL_law_1390 ⟨by omega, by omega⟩ (fun H locs hB => ?_)
  exact lv_icmp_eq (tgt := 1484) hx hb dL_law_1393 (by decide) (fun _ => W.widen (k := cells + 3) (n := slots + 267) (by omega) (by omega) (K q NC X' M' H locs hB e4 (by omega) rfl)) (fun h => absurd rfl h)
set_option maxHeartbeats 4000000 in
set_option maxRecDepth 100000 in
theorem y_c_copy {Rl : Nat → x_M → x_M → Prop} {p : Program} {l : Launch} {e : Env} {s : State} {m : MethodId} {below : List Frame} {meth : Method} {c : Code} {Q : State → Prop} {b L : Nat} {xs : Nat → Int32} {D : va_G} {cy : Nat → ClassId} {ad adV q qm : Nat → Nat} {NC i cells slots : Nat} {X M : x_M} {H : Heap} {locs : List Loc} {ls : Array Slot} (hE : y_H_copy Rl) (C : y_C p s m c b L xs D cy ad adV) (hB : y_B D cy ad s q NC X qm M H locs) (hR : Rl NC X M) (hN : 94 ≤ NC ∧ NC % 3 = 1 ∧ NC + 3 ≤ 100000) (hL : L ≤ 3072) (hi : i + 6 ≤ L) (hl : lv_has ls 4 [(0, .ref b), (1, .ref (q 0)), (2, .ref (qm 0)), (3, .int (nI i))]) (hcap : cells + 3 ≤ 600000 ∧ slots + 267 ≤ 7302250)
    (K : ∀ (q' : Nat → Nat) (NC' : Nat) (X' M' : x_M) (H : Heap) (locs : List Loc), y_B D cy ad s q' NC' X' qm M' H locs → Rl NC' X' M' → NC' ≤ NC + 3 → q' 0 = q 0 → W p l e room_1 s m #[Value.ref b] below meth c H locs (cells + 3) (slots + 267) Q (F0 m 1484 ls [])) : W p l e room_1 s m #[Value.ref b] below meth c H locs cells slots Q (F0 m 1398 ls []) := by
  have hx := C.1.1
  have hb := C.1.2.1
  obtain ⟨r, X', M', e1, e2, e4⟩ := hE NC X M (xs (i + 1)) (xs (i + 2)) (xs (i + 3)) (xs (i + 4)) (xs (i + 5)) hR
  refine lv_aload_n hx hb dL_law_1398 rfl (lv_at hl 1 rfl) ?_
  refine lv_aload_n hx hb dL_law_1399 rfl (lv_at hl 0 rfl) ?_
  refine lv_iload_n hx hb dL_law_1400 rfl (lv_at hl 3 rfl) ?_
  refine lv_iconst (v := (nI 1)) hx hb dL_law_1401 (by decide) ?_
  refine lv_iadd hx hb dL_law_1402 ?_
  rw [z_add]
  refine y_ld C hB.2.2.2.2.2 (show i + 1 < L by omega) hL dL_law_1403 ?_
  refine lv_aload_n hx hb dL_law_1404 rfl (lv_at hl 0 rfl) ?_
  refine lv_iload_n hx hb dL_law_1405 rfl (lv_at hl 3 rfl) ?_
  refine lv_iconst (v := (nI 2)) hx hb dL_law_1406 (by decide) ?_
  refine lv_iadd hx hb dL_law_1407 ?_
  rw [z_add]
  refine y_ld C hB.2.2.2.2.2 (show i + 2 < L by omega) hL dL_law_1408 ?_
  refine lv_aload_n hx hb dL_law_1409 rfl (lv_at hl 0 rfl) ?_
  refine lv_iload_n hx hb dL_law_1410 rfl (lv_at hl 3 rfl) ?_
  refine lv_iconst (v := (nI 3)) hx hb dL_law_1411 (by decide) ?_
  refine lv_iadd hx hb dL_law_1412 ?_
  rw [z_add]
  refine y_ld C hB.2.2.2.2.2 (show i + 3 < L by omega) hL dL_law_1413 ?_
  refine lv_aload_n hx hb dL_law_1414 rfl (lv_at hl 0 rfl) ?_
  refine lv_iload_n hx hb dL_law_1415 rfl (lv_at hl 3 rfl) ?_
  refine lv_iconst (v := (nI 4)) hx hb dL_law_1416 (by decide) ?_
  refine lv_iadd hx hb dL_law_1417 ?_
  rw [z_add]
  refine y_ld C hB.2.2.2.2.2 (show i + 4 < L by omega) hL dL_law_1418 ?_
  refine lv_aload_n hx hb dL_law_1419 rfl (lv_at hl 0 rfl) ?_
  refine lv_iload_n hx hb dL_law_1420 rfl (lv_at hl 3 rfl) ?_
  refine lv_iconst (v := (nI 5)) hx hb dL_law_1421 (by decide) ?_
  refine lv_iadd hx hb dL_law_1422 ?_
  rw [z_add]
  refine y_ld C hB.2.2.2.2.2 (show i + 5 < L by omega) hL dL_law_1423 ?_
  refine y_callX C hB (As := [.int (xs (i + 1)), .int (xs (i + 2)), .int (xs (i + 3)), .int (xs (i + 4)), .int (xs (i + 5))]) (rest := []) (c_X11_copy hB.2.2.1 (by omega) e1) lm_163 lv_163 (by omega) rfl ⟨rfl, rfl, by decide, by decide⟩ rfl hl.1 rfl (Nat.le_of_ble_eq_true rfl) dL_law_1424 ⟨by omega, by omega⟩ (fun H locs hB => ?_)
  refine lv_aload_n hx hb dL_law_1427 rfl (lv_at hl 2 rfl) ?_
  refine lv_aload_n hx hb dL_law_1428 rfl (lv_at hl 0 rfl) ?_
  refine lv_iload_n hx hb dL_law_1429 rfl (lv_at hl 3 rfl) ?_
  refine lv_iconst (v := (nI 1)) hx hb dL_law_1430 (by decide) ?_
  refine lv_iadd hx hb dL_law_1431 ?_
  rw [z_add]
  refine y_ld C hB.2.2.2.2.2 (show i + 1 < L by omega) hL dL_law_1432 ?_
  refine lv_aload_n hx hb dL_law_1433 rfl (lv_at hl 0 rfl) ?_
  refine lv_iload_n hx hb dL_law_1434 rfl (lv_at hl 3 rfl) ?_
  refine lv_iconst (v := (nI 2)) hx hb dL_law_1435 (by decide) ?_
  refine lv_iadd hx hb dL_law_1436 ?_
  rw [z_add]
  refine y_ld C hB.2.2.2.2.2 (show i + 2 < L by omega) hL dL_law_1437 ?_
  refine lv_aload_n hx hb dL_law_1438 rfl (lv_at hl 0 rfl) ?_
  refine lv_iload_n hx hb dL_law_1439 rfl (lv_at hl 3 rfl) ?_
  refine lv_iconst (v := (nI 3)) hx hb dL_law_1440 (by decide) ?_
  refine lv_iadd hx hb dL_law_1441 ?_
  rw [z_add]
  refine y_ld C hB.2.2.2.2.2 (show i + 3 < L by omega) hL dL_law_1442 ?_
  refine lv_aload_n hx hb dL_law_1443 rfl (lv_at hl 0 rfl) ?_
  refine lv_iload_n hx hb dL_law_1444 rfl (lv_at hl 3 rfl) ?_
  refine lv_iconst (v := (nI 4)) hx hb dL_law_1445 (by decide) ?_
  refine lv_iadd hx hb dL_law_1446 ?_
  rw [z_add]
  refine y_ld C hB.2.2.2.2.2 (show i + 4 < L by omega) hL dL_law_1447 ?_
  refine lv_aload_n hx hb dL_law_1448 rfl (lv_at hl 0 rfl) ?_
  refine lv_iload_n hx hb dL_law_1449 rfl (lv_at hl 3 rfl) ?_
  refine lv_iconst (v := (nI 5)) hx hb dL_law_1450 (by decide) ?_
  refine lv_iadd hx hb dL_law_1451 ?_
  rw [z_add]
  refine y_ld C hB.2.2.2.2.2 (show i + 5 < L by omega) hL dL_law_1452 ?_
  refine y_callM C hB (As := [.int (xs (i + 1)), .int (xs (i + 2)), .int (xs (i + 3)), .int (xs (i + 4)), .int (xs (i + 5))]) (rest := [.int r]) (c_X12_copy hB.2.2.2.1 e2) lm_166 lv_166 rfl ⟨rfl, rfl, by decide, by decide⟩ rfl hl.1 rfl (Nat.le_of_ble_eq_true rfl) dL_law_1453 ⟨by omega, by omega⟩ (fun H locs hB => ?_)
  exact lv_icmp_eq (tgt := 1484) hx hb dL_law_1456 (by decide) (fun _ => W.widen (k := cells + 3) (n := slots + 267) (by omega) (by omega) (K q NC X' M' H locs hB e4 (by omega) rfl)) (fun h => absurd rfl h)
set_option maxHeartbeats 4000000 in
set_option maxRecDepth 100000 in
theorem y_c_count {Rl : Nat → x_M → x_M → Prop} {p : Program} {l : Launch} {e : Env} {s : State} {m : MethodId} {below : List Frame} {meth : Method} {c : Code} {Q : State → Prop} {b L : Nat} {xs : Nat → Int32} {D : va_G} {cy : Nat → ClassId} {ad adV q qm : Nat → Nat} {NC i cells slots : Nat} {X M : x_M} {H : Heap} {locs : List Loc} {ls : Array Slot} (hE : y_H_count Rl) (C : y_C p s m c b L xs D cy ad adV) (hB : y_B D cy ad s q NC X qm M H locs) (hR : Rl NC X M) (hN : 94 ≤ NC ∧ NC % 3 = 1 ∧ NC + 3 ≤ 100000) (hL : L ≤ 3072) (hi : i + 6 ≤ L) (hl : lv_has ls 4 [(0, .ref b), (1, .ref (q 0)), (2, .ref (qm 0)), (3, .int (nI i))]) (hcap : cells + 3 ≤ 600000 ∧ slots + 267 ≤ 7302250)
    (K : ∀ (q' : Nat → Nat) (NC' : Nat) (X' M' : x_M) (H : Heap) (locs : List Loc), y_B D cy ad s q' NC' X' qm M' H locs → Rl NC' X' M' → NC' ≤ NC + 3 → q' 0 = q 0 → W p l e room_1 s m #[Value.ref b] below meth c H locs (cells + 3) (slots + 267) Q (F0 m 1484 ls [])) : W p l e room_1 s m #[Value.ref b] below meth c H locs cells slots Q (F0 m 1461 ls []) := by
  have hx := C.1.1
  have hb := C.1.2.1
  obtain ⟨r, X', M', e1, e2, e4⟩ := hE NC X M (xs (i + 1)) hR
  refine lv_aload_n hx hb dL_law_1461 rfl (lv_at hl 1 rfl) ?_
  refine lv_aload_n hx hb dL_law_1462 rfl (lv_at hl 0 rfl) ?_
  refine lv_iload_n hx hb dL_law_1463 rfl (lv_at hl 3 rfl) ?_
  refine lv_iconst (v := (nI 1)) hx hb dL_law_1464 (by decide) ?_
  refine lv_iadd hx hb dL_law_1465 ?_
  rw [z_add]
  refine y_ld C hB.2.2.2.2.2 (show i + 1 < L by omega) hL dL_law_1466 ?_
  refine y_callX C hB (As := [.int (xs (i + 1))]) (rest := []) (c_X11_count hB.2.2.1 (by omega) e1) lm_167 lv_167 (by omega) rfl ⟨rfl, rfl, by decide, by decide⟩ rfl hl.1 rfl (Nat.le_of_ble_eq_true rfl) dL_law_1467 ⟨by omega, by omega⟩ (fun H locs hB => ?_)
  refine lv_aload_n hx hb dL_law_1470 rfl (lv_at hl 2 rfl) ?_
  refine lv_aload_n hx hb dL_law_1471 rfl (lv_at hl 0 rfl) ?_
  refine lv_iload_n hx hb dL_law_1472 rfl (lv_at hl 3 rfl) ?_
  refine lv_iconst (v := (nI 1)) hx hb dL_law_1473 (by decide) ?_
  refine lv_iadd hx hb dL_law_1474 ?_
  rw [z_add]
  refine y_ld C hB.2.2.2.2.2 (show i + 1 < L by omega) hL dL_law_1475 ?_
  refine y_callM C hB (As := [.int (xs (i + 1))]) (rest := [.int r]) (c_X12_count hB.2.2.2.1 e2) lm_170 lv_170 rfl ⟨rfl, rfl, by decide, by decide⟩ rfl hl.1 rfl (Nat.le_of_ble_eq_true rfl) dL_law_1476 ⟨by omega, by omega⟩ (fun H locs hB => ?_)
  exact lv_icmp_eq (tgt := 1484) hx hb dL_law_1479 (by decide) (fun _ => W.widen (k := cells + 3) (n := slots + 267) (by omega) (by omega) (K q NC X' M' H locs hB e4 (by omega) rfl)) (fun h => absurd rfl h)
