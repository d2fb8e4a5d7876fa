/-- the reference as it is made, ahead of its body -/
def x_Y0 : x_M := fun k => if k = 22 then upd (upd (fun _ => 0) 0 (-1)) 1 (-1) else fun _ => 0
def x_oX12 (cy : Nat → ClassId) (a : Nat → Nat) : va_W := [((a 0), .inr (12, [.ref (a 1), .ref (a 2), .int 0, .ref (a 3), .int 0, .int 0, .int 0, .int 0, .int 0, .int 0, .int 0, .int 0, .int 0, .int 0, .ref (a 4), .ref (a 5), .int 0, .int 0, .int 0, .ref (a 6), .ref (a 7), .ref (a 8), .ref (a 9), .ref (a 10), .int 0, .ref (a 11), .ref (a 12), .ref (a 13), .ref (a 14), .ref (a 15), .ref (a 16), .ref (a 17), .ref (a 18), .ref (a 19), .ref (a 20), .int 0, .ref (a 21), .ref (a 22), .ref (a 23)])), ((a 1), .inl (cy 0, 5512, .inl (fun _ => 0))), ((a 2), .inl (cy 0, 5512, .inl (fun _ => 0))), ((a 3), .inl (cy 0, 132, .inl (fun _ => 0))), ((a 4), .inl (cy 0, 1060, .inl (fun _ => 0))), ((a 5), .inl (cy 0, 140, .inl (fun _ => 0))), ((a 6), .inl (cy 0, 140, .inl (fun _ => 0))), ((a 7), .inl (cy 0, 128, .inl (fun _ => 0))), ((a 8), .inl (cy 0, 100, .inl (fun _ => 0))), ((a 9), .inl (cy 0, 100, .inl (fun _ => 0))), ((a 10), .inl (cy 0, 100, .inl (fun _ => 0))), ((a 11), .inl (cy 0, 40, .inl (fun _ => 0))), ((a 12), .inl (cy 0, 4, .inl (fun _ => 0))), ((a 13), .inl (cy 0, 4, .inl (fun _ => 0))), ((a 14), .inl (cy 0, 100, .inl (fun _ => 0))), ((a 15), .inl (cy 0, 100, .inl (fun _ => 0))), ((a 16), .inl (cy 3, 100, .inl (fun _ => 0))), ((a 17), .inl (cy 0, 10, .inl (fun _ => 0))), ((a 18), .inl (cy 0, 27009, .inl (fun _ => 0))), ((a 19), .inl (cy 0, 8, .inl (fun _ => 0))), ((a 20), .inl (cy 0, 16, .inl (fun _ => 0))), ((a 21), .inl (cy 0, 32, .inl (fun _ => 0))), ((a 22), .inl (cy 0, 2, .inl (upd (upd (fun _ => 0) 0 (-1)) 1 (-1)))), ((a 23), .inl (cy 0, 16, .inl (fun _ => 0)))]
theorem x_oX12_w {cy : Nat → ClassId} {ad a : Nat → Nat} : x_oX12 cy a = x_w cy a ad x_spM 24 x_Y0 := by
  unfold x_w
  rw [show List.range 24 = [0, 1, 2, 3, 4, 5, 6, 7, 8, 9, 10, 11, 12, 13, 14, 15, 16, 17, 18, 19, 20, 21, 22, 23] from rfl]
  simp only [List.map_cons, List.map_nil]
  rfl
def f_X12_init_227 : Nat → x_M → Int32 → Option (Unit × x_M)
  | 0, _, _ => none
  | n + 1, M, v1 => if (nI 3) ≤ v1 then some ((), M) else x_wr 5512 M 1 ((nI 10) + ((nI 2) * v1)) (nI 10) (fun M => x_wr 5512 M 1 (((nI 10) + ((nI 2) * v1)) + (nI 1)) (nI 8) (fun M => (f_X12_init_227 n) M (v1 + (nI 1))))
theorem f_X12_init_227_0 (M : x_M) (v1 : Int32) : f_X12_init_227 0 M v1 = none := rfl
theorem f_X12_init_227_s (n : Nat) (M : x_M) (v1 : Int32) : f_X12_init_227 (n + 1) M v1 = (if (nI 3) ≤ v1 then some ((), M) else x_wr 5512 M 1 ((nI 10) + ((nI 2) * v1)) (nI 10) (fun M => x_wr 5512 M 1 (((nI 10) + ((nI 2) * v1)) + (nI 1)) (nI 8) (fun M => (f_X12_init_227 n) M (v1 + (nI 1))))) := rfl
def f_X12_init (M : x_M) : Option (Unit × x_M) := x_wr 5512 M 1 (nI 1) (nI 30) (fun M => x_wr 5512 M 1 (nI 2) (nI 90) (fun M => x_wr 5512 M 1 (nI 3) (nI 60) (fun M => f_X12_init_227 x_FU M (nI 0))))
abbrev rm_X12_init : Room := { frames := 1, cells := 23, slots := 40365, locals := 60 }
set_option maxHeartbeats 4000000 in
set_option maxRecDepth 100000 in
theorem c_X12_init_rest {l : Launch} {D : va_G} {cy : Nat → ClassId} {s0 : State} {ad q : Nat → Nat} {z : Unit × x_M} (h : f_X12_init x_Y0 = some z) {p : Program} {e : Env} {s : State} {m : MethodId} {args : Array Value} {below : List Frame} {meth : Method} {c : Code} {ls : Array Slot} {Q : State → Prop} {A : Nat → Prop} {H : Heap} {locs : List Loc} (C : x_CC p s m args meth c cX12_init 2 yX12_init.cls D cy s0) (hA0 : ∀ a, A a → s0.heap.size ≤ a) (hAi : ∀ a, A a ↔ (a = q 0 ∨ s.heap.size ≤ a)) (hret : ∀ {pc : Nat} {H : Heap} {locs : List Loc} {ls : Array Slot} (a : Nat → Nat), decode cX12_init pc = .ok (.return_, 1) → a 0 = q 0 → va_P D vwCl (x_w cy a ad x_spM 24 z.2) H → va_D A (x_w cy a ad x_spM 24 z.2) → va_S A s.heap H locs → W p l e rm_X12_init s m args below meth c H locs 23 40365 Q (F0 m pc ls [])) (hl : lv_has ls 2 [(0, .ref (q 0))]) (hPz : va_P D vwCl (x_w cy q ad x_spM 24 x_Y0) H) (hDz : va_D A (x_w cy q ad x_spM 24 x_Y0)) (hS : va_S A s.heap H locs) : W p l e rm_X12_init s m args below meth c H locs 23 40365 Q (F0 m 201 ls []) := by
  have hN : 24 ≤ 24 := Nat.le_refl _
  have hx := C.1.1
  have hb := C.1.2.1
  have ho := C.1.2.2.2.1
  have hL := C.1.2.2.2.2
  have hq : x_Q q 24 s0.heap.size := x_Q_of hDz hA0
  have hAx : ∀ a, A a ↔ x_A q 24 s.heap.size a := x_A_of hDz hAi (by decide)
  have hDa : ∀ M, va_D A (x_w cy q ad x_spM 24 M) := fun M => x_w_D hq.1 (fun k hk => (hAx _).mpr (Or.inl ⟨k, hk, rfl⟩)) M
  have hret : ∀ {pc : Nat} {H : Heap} {locs : List Loc} {ls : Array Slot} {M1 : x_M}, decode cX12_init pc = .ok (.return_, 1) → x_B D cy q ad x_spM 24 s H locs M1 → some ((), M1) = some z → W p l e rm_X12_init s m args below meth c H locs 23 40365 Q (F0 m pc ls []) := by
    intro pc H locs ls M1 hd hw hz
    have hz2 : z.2 = M1 := by rw [← Option.some.inj hz]
    exact hret q hd rfl (by rw [hz2]; exact hw.1) (hDa _) (x_S_to (fun a h => (hAx a).mpr h) hw.2)
  have C : x_C p s m args c cX12_init 2 yX12_init.cls D cy q 24 s0 := ⟨C.1, C.2.1, hq⟩
  have hw := (⟨hPz, x_S_to (fun a h => (hAx a).mp h) hS⟩ : x_B D cy q ad x_spM 24 s H locs x_Y0)
  clear hPz hDz hS
  have w227 : ∀ (n : Nat) (M : x_M) (v1 : Int32) (H : Heap) (locs : List Loc) (ls : Array Slot), x_B D cy q ad x_spM 24 s H locs M → lv_has ls 2 [(0, .ref (q 0)), (1, .int v1)] → f_X12_init_227 n M v1 = some z → W p l e rm_X12_init s m args below meth c H locs 23 40365 Q (F0 m 227 ls []) := by
    intro n
    induction n with
    | zero =>
      intro M v1 H locs ls hw hl h
      rw [f_X12_init_227_0] at h
      cases h
    | succ n227 ih227 =>
      intro M v1 H locs ls hw hl h
      rw [f_X12_init_227_s] at h
      refine lv_iload_n hx hb dX12_init_227 rfl (lv_at hl 1 rfl) ?_
      refine lv_iconst (v := (nI 3)) hx hb dX12_init_228 (by decide) ?_
      refine x_icmp_ge (tgt := 266) hx hb h dX12_init_229 (by decide) (fun h => ?_) (fun h => ?_)
      · exact hret dX12_init_266 hw h
      · refine lv_aload_n hx hb dX12_init_232 rfl (lv_at hl 0 rfl) ?_
        refine xh_getr C hw 0 0 sM_0 (x_lt hN rfl) rfl rfl rfl lk_RX12_7 dX12_init_233 ?_
        refine lv_bipush (v := (nI 10)) hx hb dX12_init_236 (by decide) ?_
        refine lv_iconst (v := (nI 2)) hx hb dX12_init_238 (by decide) ?_
        refine lv_iload_n hx hb dX12_init_239 rfl (lv_at hl 1 rfl) ?_
        refine lv_imul hx hb dX12_init_240 ?_
        refine lv_iadd hx hb dX12_init_241 ?_
        refine lv_bipush (v := (nI 10)) hx hb dX12_init_242 (by decide) ?_
        refine xh_iast C hw 1 5512 h sM_1 (x_lt hN rfl) dX12_init_244 (fun H locs M hw h => ?_)
        refine lv_aload_n hx hb dX12_init_245 rfl (lv_at hl 0 rfl) ?_
        refine xh_getr C hw 0 0 sM_0 (x_lt hN rfl) rfl rfl rfl lk_RX12_7 dX12_init_246 ?_
        refine lv_bipush (v := (nI 10)) hx hb dX12_init_249 (by decide) ?_
        refine lv_iconst (v := (nI 2)) hx hb dX12_init_251 (by decide) ?_
        refine lv_iload_n hx hb dX12_init_252 rfl (lv_at hl 1 rfl) ?_
        refine lv_imul hx hb dX12_init_253 ?_
        refine lv_iadd hx hb dX12_init_254 ?_
        refine lv_iconst (v := (nI 1)) hx hb dX12_init_255 (by decide) ?_
        refine lv_iadd hx hb dX12_init_256 ?_
        refine lv_bipush (v := (nI 8)) hx hb dX12_init_257 (by decide) ?_
        refine xh_iast C hw 1 5512 h sM_1 (x_lt hN rfl) dX12_init_259 (fun H locs M hw h => ?_)
        refine lv_iinc (lv' := [(1, .int _), (0, .ref (q 0))]) hx hb dX12_init_260 hl (k := 1) rfl (x_inc (show Int32.ofInt 1 = (nI 1) by decide) _) (by decide) rfl (fun ls hl => ?_)
        refine lv_goto (tgt := 227) hx hb dX12_init_263 (by decide) ?_
        exact ih227 _ _ _ _ _ hw (lv_sub hl [1, 0] rfl) h
  unfold f_X12_init at h
  refine lv_aload_n hx hb dX12_init_201 rfl (lv_at hl 0 rfl) ?_
  refine xh_getr C hw 0 0 sM_0 (x_lt hN rfl) rfl rfl rfl lk_RX12_7 dX12_init_202 ?_
  refine lv_iconst (v := (nI 1)) hx hb dX12_init_205 (by decide) ?_
  refine lv_bipush (v := (nI 30)) hx hb dX12_init_206 (by decide) ?_
  refine xh_iast C hw 1 5512 h sM_1 (x_lt hN rfl) dX12_init_208 (fun H locs M hw h => ?_)
  refine lv_aload_n hx hb dX12_init_209 rfl (lv_at hl 0 rfl) ?_
  refine xh_getr C hw 0 0 sM_0 (x_lt hN rfl) rfl rfl rfl lk_RX12_7 dX12_init_210 ?_
  refine lv_iconst (v := (nI 2)) hx hb dX12_init_213 (by decide) ?_
  refine lv_bipush (v := (nI 90)) hx hb dX12_init_214 (by decide) ?_
  refine xh_iast C hw 1 5512 h sM_1 (x_lt hN rfl) dX12_init_216 (fun H locs M hw h => ?_)
  refine lv_aload_n hx hb dX12_init_217 rfl (lv_at hl 0 rfl) ?_
  refine xh_getr C hw 0 0 sM_0 (x_lt hN rfl) rfl rfl rfl lk_RX12_7 dX12_init_218 ?_
  refine lv_iconst (v := (nI 3)) hx hb dX12_init_221 (by decide) ?_
  refine lv_bipush (v := (nI 60)) hx hb dX12_init_222 (by decide) ?_
  refine xh_iast C hw 1 5512 h sM_1 (x_lt hN rfl) dX12_init_224 (fun H locs M hw h => ?_)
  refine lv_iconst (v := (nI 0)) hx hb dX12_init_225 (by decide) ?_
  refine lv_istore_n (lv' := [(1, .int _), (0, .ref (q 0))]) hx hb dX12_init_226 rfl hl (by decide) rfl (fun ls hl => ?_)
  exact w227 _ _ _ _ _ _ hw (lv_sub hl [1, 0] rfl) h
