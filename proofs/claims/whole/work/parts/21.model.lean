def f_X12_terms_53 (M : x_M) : Option (Int32 × x_M) := some ((-1000000002), M)
def f_X12_terms_226 : Nat → x_M → Int32 → Int32 → Option (Int32 × x_M)
  | 0, _, _, _ => none
  | n + 1, M, v2, v3 => if (nI 1060) ≤ v3 then x_rd 5512 (M 1) (nI 6) (fun r262 => x_wr 5512 M 1 (nI 6) (r262 + (nI 1)) (fun M => x_gf M 0 13 (fun r267 => some (r267, M)))) else x_rd 1060 (M 4) v3 (fun r247 => x_wr 5512 M 1 ((v2 + (nI 2)) + v3) r247 (fun M => (f_X12_terms_226 n) M v2 (v3 + (nI 1))))
theorem f_X12_terms_226_0 (M : x_M) (v2 : Int32) (v3 : Int32) : f_X12_terms_226 0 M v2 v3 = none := rfl
theorem f_X12_terms_226_s (n : Nat) (M : x_M) (v2 : Int32) (v3 : Int32) : f_X12_terms_226 (n + 1) M v2 v3 = (if (nI 1060) ≤ v3 then x_rd 5512 (M 1) (nI 6) (fun r262 => x_wr 5512 M 1 (nI 6) (r262 + (nI 1)) (fun M => x_gf M 0 13 (fun r267 => some (r267, M)))) else x_rd 1060 (M 4) v3 (fun r247 => x_wr 5512 M 1 ((v2 + (nI 2)) + v3) r247 (fun M => (f_X12_terms_226 n) M v2 (v3 + (nI 1))))) := rfl
def f_X12_terms_172 (M : x_M) (v1 : Int32) : Option (Int32 × x_M) := x_gf M 0 10 (fun r173 => if r173 = 0 then x_rd 5512 (M 1) (nI 6) (fun r193 => if r193 = (nI 4) then some ((-1000000003), M) else x_rd 5512 (M 1) (nI 6) (fun r213 => x_wr 5512 M 1 ((nI 1050) + ((nI 1062) * r213)) v1 (fun M => f_X12_terms_226 x_FU M ((nI 1050) + ((nI 1062) * r213)) (nI 0)))) else x_gf M 0 9 (fun r182 => some (((-100) - r182), M)))
def f_X12_terms_56 (M : x_M) (v1 : Int32) : Option (Int32 × x_M) := x_pf M 0 6 (nI 0) (fun M => x_pf M 0 8 (nI 0) (fun M => x_cz (nI 0) (x_pf M 0 10 (nI 0) (fun M => x_pf M 0 13 (nI 0) (fun M => x_bn (f_X12_next M) (fun _ M => x_bn (f_X12_isWord M (nI 101) (nI 97) (nI 114) (nI 110) (nI 0)) (fun r92 M => x_bn (f_X12_reads M (nI 0) r92) (fun _ M => x_bn (f_X12_isWord M (nI 108) (nI 97) (nI 112) (nI 115) (nI 101)) (fun r111 M => x_bn (f_X12_reads M (nI 1) r111) (fun _ M => x_bn (f_X12_isWord M (nI 112) (nI 114) (nI 105) (nI 99) (nI 101)) (fun r130 M => x_bn (f_X12_reads M (nI 2) r130) (fun _ M => x_bn (f_X12_isWord M (nI 116) (nI 105) (nI 101) (nI 114) (nI 0)) (fun r148 M => x_bn (f_X12_reads M (nI 3) r148) (fun _ M => x_gf M 0 10 (fun r155 => if r155 = 0 then x_gf M 0 8 (fun r162 => if r162 = 0 then f_X12_terms_172 M v1 else x_bn (f_X12_wrong M) (fun _ M => f_X12_terms_172 M v1)) else f_X12_terms_172 M v1)))))))))))))))
def f_X12_terms (M : x_M) (a1 : Int32) : Option (Int32 × x_M) := x_gf M 0 4 (fun r2 => x_pf M 0 7 r2 (fun M => x_pf M 0 4 (nI 0) (fun M => x_bn (f_X12_isDay M a1) (fun r14 M => if r14 = 0 then some ((-1000000001), M) else x_rd 5512 (M 1) (nI 0) (fun r29 => x_rd 5512 (M 1) (nI 1) (fun r36 => if r36 ≤ (a1 - r29) then f_X12_terms_56 M a1 else if a1 = 0 then x_rd 5512 (M 1) (nI 0) (fun r49 => if r49 = 0 then f_X12_terms_56 M a1 else f_X12_terms_53 M) else f_X12_terms_53 M))))))
abbrev rm_X12_terms : Room := { frames := 6, cells := 0, slots := 0, locals := 131 }
set_option maxHeartbeats 4000000 in
set_option maxRecDepth 100000 in
theorem c_X12_terms {l : Launch} {D : va_G} {cy : Nat → ClassId} {q ad : Nat → Nat} {s0 : State} (hq : x_Q q 24 s0.heap.size) {M : x_M} {a1 : Int32} {z : Int32 × x_M} (h : f_X12_terms M a1 = some z) : x_Ci l D cy q ad x_spM 24 s0 yX12_terms (x_uw yX12_terms cX12_terms 4 (some .int)) rm_X12_terms [.ref (q 0), .int a1] M z.1 z.2 := by
  have hN : 24 ≤ 24 := Nat.le_refl _
  refine x_meti hq (by decide) (Nat.le_of_ble_eq_true rfl) ?_
  intro p e s m args below meth c ls Q C hret hl hw
  have hx := C.1.1
  have hb := C.1.2.1
  have ho := C.1.2.2.2.1
  have hL := C.1.2.2.2.2
  have hl : lv_has ls 4 [(0, .ref (q 0)), (1, .int a1)] := hl
  have w53 : ∀ (M : x_M) (H : Heap) (locs : List Loc) (ls : Array Slot), x_B D cy q ad x_spM 24 s H locs M → lv_has ls 4 [] → f_X12_terms_53 M = some z → W p l e rm_X12_terms s m args below meth c H locs 0 0 Q (F0 m 53 ls []) := by
    intro M H locs ls hw hl h
    unfold f_X12_terms_53 at h
    refine lv_ldc hx hb ho (hL _ kc_RX12_111) dX12_terms_53 ?_
    exact hret dX12_terms_55 rfl hw h
  have w56 : ∀ (M : x_M) (v1 : Int32) (H : Heap) (locs : List Loc) (ls : Array Slot), x_B D cy q ad x_spM 24 s H locs M → lv_has ls 4 [(0, .ref (q 0)), (1, .int v1)] → f_X12_terms_56 M v1 = some z → W p l e rm_X12_terms s m args below meth c H locs 0 0 Q (F0 m 56 ls []) := by
    have w172 : ∀ (M : x_M) (v1 : Int32) (H : Heap) (locs : List Loc) (ls : Array Slot), x_B D cy q ad x_spM 24 s H locs M → lv_has ls 4 [(0, .ref (q 0)), (1, .int v1)] → f_X12_terms_172 M v1 = some z → W p l e rm_X12_terms s m args below meth c H locs 0 0 Q (F0 m 172 ls []) := by
      have w226 : ∀ (n : Nat) (M : x_M) (v2 : Int32) (v3 : Int32) (H : Heap) (locs : List Loc) (ls : Array Slot), x_B D cy q ad x_spM 24 s H locs M → lv_has ls 4 [(0, .ref (q 0)), (2, .int v2), (3, .int v3)] → f_X12_terms_226 n M v2 v3 = some z → W p l e rm_X12_terms s m args below meth c H locs 0 0 Q (F0 m 226 ls []) := by
        intro n
        induction n with
        | zero =>
          intro M v2 v3 H locs ls hw hl h
          rw [f_X12_terms_226_0] at h
          cases h
        | succ n226 ih226 =>
          intro M v2 v3 H locs ls hw hl h
          rw [f_X12_terms_226_s] at h
          refine lv_iload_n hx hb dX12_terms_226 rfl (lv_at hl 2 rfl) ?_
          refine lv_sipush (v := (nI 1060)) hx hb dX12_terms_227 (by decide) ?_
          refine x_icmp_ge (tgt := 255) hx hb h dX12_terms_230 (by decide) (fun h => ?_) (fun h => ?_)
          · refine lv_aload_n hx hb dX12_terms_255 rfl (lv_at hl 0 rfl) ?_
            refine xh_getr C hw 0 0 sM_0 (x_lt hN rfl) rfl rfl rfl lk_RX12_7 dX12_terms_256 ?_
            refine lv_bipush (v := (nI 6)) hx hb dX12_terms_259 (by decide) ?_
            refine lv_dup2_11 hx hb dX12_terms_261 rfl rfl ?_
            refine xh_iald C hw 1 5512 h sM_1 (x_lt hN rfl) dX12_terms_262 (fun r262 h => ?_)
            refine lv_iconst (v := (nI 1)) hx hb dX12_terms_263 (by decide) ?_
            refine lv_iadd hx hb dX12_terms_264 ?_
            refine xh_iast C hw 1 5512 h sM_1 (x_lt hN rfl) dX12_terms_265 (fun H locs M hw h => ?_)
            refine lv_aload_n hx hb dX12_terms_266 rfl (lv_at hl 0 rfl) ?_
            refine xh_geti C hw 0 13 h sM_0 (x_lt hN rfl) rfl rfl rfl lk_RX12_173 dX12_terms_267 (fun r267 h => ?_)
            exact hret dX12_terms_270 rfl hw h
          · refine lv_aload_n hx hb dX12_terms_233 rfl (lv_at hl 0 rfl) ?_
            refine xh_getr C hw 0 0 sM_0 (x_lt hN rfl) rfl rfl rfl lk_RX12_7 dX12_terms_234 ?_
            refine lv_iload_n hx hb dX12_terms_237 rfl (lv_at hl 1 rfl) ?_
            refine lv_iconst (v := (nI 2)) hx hb dX12_terms_238 (by decide) ?_
            refine lv_iadd hx hb dX12_terms_239 ?_
            refine lv_iload_n hx hb dX12_terms_240 rfl (lv_at hl 2 rfl) ?_
            refine lv_iadd hx hb dX12_terms_241 ?_
            refine lv_aload_n hx hb dX12_terms_242 rfl (lv_at hl 0 rfl) ?_
            refine xh_getr C hw 0 14 sM_0 (x_lt hN rfl) rfl rfl rfl lk_RX12_19 dX12_terms_243 ?_
            refine lv_iload_n hx hb dX12_terms_246 rfl (lv_at hl 2 rfl) ?_
            refine xh_iald C hw 4 1060 h sM_4 (x_lt hN rfl) dX12_terms_247 (fun r247 h => ?_)
            refine xh_iast C hw 1 5512 h sM_1 (x_lt hN rfl) dX12_terms_248 (fun H locs M hw h => ?_)
            refine lv_iinc (lv' := [(3, .int _), (0, .ref (q 0)), (2, .int _)]) hx hb dX12_terms_249 hl (k := 2) rfl (x_inc (show Int32.ofInt 1 = (nI 1) by decide) _) (by decide) rfl (fun ls hl => ?_)
            refine lv_goto (tgt := 226) hx hb dX12_terms_252 (by decide) ?_
            exact ih226 _ _ _ _ _ _ hw (lv_sub hl [1, 2, 0] rfl) h
      intro M v1 H locs ls hw hl h
      unfold f_X12_terms_172 at h
      refine lv_aload_n hx hb dX12_terms_172 rfl (lv_at hl 0 rfl) ?_
      refine xh_geti C hw 0 10 h sM_0 (x_lt hN rfl) rfl rfl rfl lk_RX12_116 dX12_terms_173 (fun r173 h => ?_)
      refine x_if_eq (tgt := 187) hx hb h dX12_terms_176 (by decide) (fun h => ?_) (fun h => ?_)
      · refine lv_aload_n hx hb dX12_terms_187 rfl (lv_at hl 0 rfl) ?_
        refine xh_getr C hw 0 0 sM_0 (x_lt hN rfl) rfl rfl rfl lk_RX12_7 dX12_terms_188 ?_
        refine lv_bipush (v := (nI 6)) hx hb dX12_terms_191 (by decide) ?_
        refine xh_iald C hw 1 5512 h sM_1 (x_lt hN rfl) dX12_terms_193 (fun r193 h => ?_)
        refine lv_iconst (v := (nI 4)) hx hb dX12_terms_194 (by decide) ?_
        refine x_icmp_ne (tgt := 201) hx hb h dX12_terms_195 (by decide) (fun h => ?_) (fun h => ?_)
        · refine lv_ldc hx hb ho (hL _ kc_RX12_86) dX12_terms_198 ?_
          exact hret dX12_terms_200 rfl hw h
        · refine lv_sipush (v := (nI 1050)) hx hb dX12_terms_201 (by decide) ?_
          refine lv_sipush (v := (nI 1062)) hx hb dX12_terms_204 (by decide) ?_
          refine lv_aload_n hx hb dX12_terms_207 rfl (lv_at hl 0 rfl) ?_
          refine xh_getr C hw 0 0 sM_0 (x_lt hN rfl) rfl rfl rfl lk_RX12_7 dX12_terms_208 ?_
          refine lv_bipush (v := (nI 6)) hx hb dX12_terms_211 (by decide) ?_
          refine xh_iald C hw 1 5512 h sM_1 (x_lt hN rfl) dX12_terms_213 (fun r213 h => ?_)
          refine lv_imul hx hb dX12_terms_214 ?_
          refine lv_iadd hx hb dX12_terms_215 ?_
          refine lv_istore_n (lv' := [(2, .int _), (0, .ref (q 0)), (1, .int _)]) hx hb dX12_terms_216 rfl hl (by decide) rfl (fun ls hl => ?_)
          refine lv_aload_n hx hb dX12_terms_217 rfl (lv_at hl 1 rfl) ?_
          refine xh_getr C hw 0 0 sM_0 (x_lt hN rfl) rfl rfl rfl lk_RX12_7 dX12_terms_218 ?_
          refine lv_iload_n hx hb dX12_terms_221 rfl (lv_at hl 0 rfl) ?_
          refine lv_iload_n hx hb dX12_terms_222 rfl (lv_at hl 2 rfl) ?_
          refine xh_iast C hw 1 5512 h sM_1 (x_lt hN rfl) dX12_terms_223 (fun H locs M hw h => ?_)
          refine lv_iconst (v := (nI 0)) hx hb dX12_terms_224 (by decide) ?_
          refine lv_istore_n (lv' := [(3, .int _), (2, .int _), (0, .ref (q 0)), (1, .int _)]) hx hb dX12_terms_225 rfl hl (by decide) rfl (fun ls hl => ?_)
          exact w226 _ _ _ _ _ _ _ hw (lv_sub hl [2, 1, 0] rfl) h
      · refine lv_bipush (v := (-100)) hx hb dX12_terms_179 (by decide) ?_
        refine lv_aload_n hx hb dX12_terms_181 rfl (lv_at hl 0 rfl) ?_
        refine xh_geti C hw 0 9 h sM_0 (x_lt hN rfl) rfl rfl rfl lk_RX12_123 dX12_terms_182 (fun r182 h => ?_)
        refine lv_isub hx hb dX12_terms_185 ?_
        exact hret dX12_terms_186 rfl hw h
    intro M v1 H locs ls hw hl h
    unfold f_X12_terms_56 at h
    refine lv_aload_n hx hb dX12_terms_56 rfl (lv_at hl 0 rfl) ?_
    refine lv_iconst (v := (nI 0)) hx hb dX12_terms_57 (by decide) ?_
    refine xh_puti C hw 0 6 h sM_0 (x_lt hN rfl) rfl rfl rfl lk_RX12_126 rfl rfl dX12_terms_58 (fun H locs M hw h => ?_)
    refine lv_aload_n hx hb dX12_terms_61 rfl (lv_at hl 0 rfl) ?_
    refine lv_iconst (v := (nI 0)) hx hb dX12_terms_62 (by decide) ?_
    refine xh_puti C hw 0 8 h sM_0 (x_lt hN rfl) rfl rfl rfl lk_RX12_132 rfl rfl dX12_terms_63 (fun H locs M hw h => ?_)
    refine lv_aload_n hx hb dX12_terms_66 rfl (lv_at hl 0 rfl) ?_
    refine lv_iconst (v := (nI 0)) hx hb dX12_terms_67 (by decide) ?_
    refine xh_putz C hw 0 10 h sM_0 (x_lt hN rfl) rfl rfl rfl lk_RX12_116 rfl rfl dX12_terms_68 (fun H locs M hw h => ?_)
    refine lv_aload_n hx hb dX12_terms_71 rfl (lv_at hl 0 rfl) ?_
    refine lv_iconst (v := (nI 0)) hx hb dX12_terms_72 (by decide) ?_
    refine xh_puti C hw 0 13 h sM_0 (x_lt hN rfl) rfl rfl rfl lk_RX12_173 rfl rfl dX12_terms_73 (fun H locs M hw h => ?_)
    refine lv_aload_n hx hb dX12_terms_76 rfl (lv_at hl 0 rfl) ?_
    refine xh_cVv C hw (rest := []) h (fun _ hy => c_X12_next hq hy) ml_RX12_167 mv_X12_next sM_0 (x_lt hN rfl) rfl ⟨rfl, rfl, by decide, by decide⟩ rfl hl.1 rfl (Nat.le_of_ble_eq_true rfl) dX12_terms_77 (fun H locs _ M hw h => ?_)
    refine lv_aload_n hx hb dX12_terms_80 rfl (lv_at hl 0 rfl) ?_
    refine lv_iconst (v := (nI 0)) hx hb dX12_terms_81 (by decide) ?_
    refine lv_aload_n hx hb dX12_terms_82 rfl (lv_at hl 0 rfl) ?_
    refine lv_bipush (v := (nI 101)) hx hb dX12_terms_83 (by decide) ?_
    refine lv_bipush (v := (nI 97)) hx hb dX12_terms_85 (by decide) ?_
    refine lv_bipush (v := (nI 114)) hx hb dX12_terms_87 (by decide) ?_
    refine lv_bipush (v := (nI 110)) hx hb dX12_terms_89 (by decide) ?_
    refine lv_iconst (v := (nI 0)) hx hb dX12_terms_91 (by decide) ?_
    refine xh_cVi C hw (rest := [_, _]) h (fun _ hy => c_X12_isWord hq hy) ml_RX12_197 mv_X12_isWord sM_0 (x_lt hN rfl) rfl ⟨rfl, rfl, by decide, by decide⟩ rfl hl.1 rfl (Nat.le_of_ble_eq_true rfl) dX12_terms_92 (fun H locs r92 M hw h => ?_)
    refine xh_cVv C hw (rest := []) h (fun _ hy => c_X12_reads hq hy) ml_RX12_201 mv_X12_reads sM_0 (x_lt hN rfl) rfl ⟨rfl, rfl, by decide, by decide⟩ rfl hl.1 rfl (Nat.le_of_ble_eq_true rfl) dX12_terms_95 (fun H locs _ M hw h => ?_)
    refine lv_aload_n hx hb dX12_terms_98 rfl (lv_at hl 0 rfl) ?_
    refine lv_iconst (v := (nI 1)) hx hb dX12_terms_99 (by decide) ?_
    refine lv_aload_n hx hb dX12_terms_100 rfl (lv_at hl 0 rfl) ?_
    refine lv_bipush (v := (nI 108)) hx hb dX12_terms_101 (by decide) ?_
    refine lv_bipush (v := (nI 97)) hx hb dX12_terms_103 (by decide) ?_
    refine lv_bipush (v := (nI 112)) hx hb dX12_terms_105 (by decide) ?_
    refine lv_bipush (v := (nI 115)) hx hb dX12_terms_107 (by decide) ?_
    refine lv_bipush (v := (nI 101)) hx hb dX12_terms_109 (by decide) ?_
    refine xh_cVi C hw (rest := [_, _]) h (fun _ hy => c_X12_isWord hq hy) ml_RX12_197 mv_X12_isWord sM_0 (x_lt hN rfl) rfl ⟨rfl, rfl, by decide, by decide⟩ rfl hl.1 rfl (Nat.le_of_ble_eq_true rfl) dX12_terms_111 (fun H locs r111 M hw h => ?_)
    refine xh_cVv C hw (rest := []) h (fun _ hy => c_X12_reads hq hy) ml_RX12_201 mv_X12_reads sM_0 (x_lt hN rfl) rfl ⟨rfl, rfl, by decide, by decide⟩ rfl hl.1 rfl (Nat.le_of_ble_eq_true rfl) dX12_terms_114 (fun H locs _ M hw h => ?_)
    refine lv_aload_n hx hb dX12_terms_117 rfl (lv_at hl 0 rfl) ?_
    refine lv_iconst (v := (nI 2)) hx hb dX12_terms_118 (by decide) ?_
    refine lv_aload_n hx hb dX12_terms_119 rfl (lv_at hl 0 rfl) ?_
    refine lv_bipush (v := (nI 112)) hx hb dX12_terms_120 (by decide) ?_
    refine lv_bipush (v := (nI 114)) hx hb dX12_terms_122 (by decide) ?_
    refine lv_bipush (v := (nI 105)) hx hb dX12_terms_124 (by decide) ?_
    refine lv_bipush (v := (nI 99)) hx hb dX12_terms_126 (by decide) ?_
    refine lv_bipush (v := (nI 101)) hx hb dX12_terms_128 (by decide) ?_
    refine xh_cVi C hw (rest := [_, _]) h (fun _ hy => c_X12_isWord hq hy) ml_RX12_197 mv_X12_isWord sM_0 (x_lt hN rfl) rfl ⟨rfl, rfl, by decide, by decide⟩ rfl hl.1 rfl (Nat.le_of_ble_eq_true rfl) dX12_terms_130 (fun H locs r130 M hw h => ?_)
    refine xh_cVv C hw (rest := []) h (fun _ hy => c_X12_reads hq hy) ml_RX12_201 mv_X12_reads sM_0 (x_lt hN rfl) rfl ⟨rfl, rfl, by decide, by decide⟩ rfl hl.1 rfl (Nat.le_of_ble_eq_true rfl) dX12_terms_133 (fun H locs _ M hw h => ?_)
    refine lv_aload_n hx hb dX12_terms_136 rfl (lv_at hl 0 rfl) ?_
    refine lv_iconst (v := (nI 3)) hx hb dX12_terms_137 (by decide) ?_
    refine lv_aload_n hx hb dX12_terms_138 rfl (lv_at hl 0 rfl) ?_
    refine lv_bipush (v := (nI 116)) hx hb dX12_terms_139 (by decide) ?_
    refine lv_bipush (v := (nI 105)) hx hb dX12_terms_141 (by decide) ?_
    refine lv_bipush (v := (nI 101)) hx hb dX12_terms_143 (by decide) ?_
    refine lv_bipush (v := (nI 114)) hx hb dX12_terms_145 (by decide) ?_
    refine lv_iconst (v := (nI 0)) hx hb dX12_terms_147 (by decide) ?_
    refine xh_cVi C hw (rest := [_, _]) h (fun _ hy => c_X12_isWord hq hy) ml_RX12_197 mv_X12_isWord sM_0 (x_lt hN rfl) rfl ⟨rfl, rfl, by decide, by decide⟩ rfl hl.1 rfl (Nat.le_of_ble_eq_true rfl) dX12_terms_148 (fun H locs r148 M hw h => ?_)
    refine xh_cVv C hw (rest := []) h (fun _ hy => c_X12_reads hq hy) ml_RX12_201 mv_X12_reads sM_0 (x_lt hN rfl) rfl ⟨rfl, rfl, by decide, by decide⟩ rfl hl.1 rfl (Nat.le_of_ble_eq_true rfl) dX12_terms_151 (fun H locs _ M hw h => ?_)
    refine lv_aload_n hx hb dX12_terms_154 rfl (lv_at hl 0 rfl) ?_
    refine xh_geti C hw 0 10 h sM_0 (x_lt hN rfl) rfl rfl rfl lk_RX12_116 dX12_terms_155 (fun r155 h => ?_)
    refine x_if_ne (tgt := 172) hx hb h dX12_terms_158 (by decide) (fun h => ?_) (fun h => ?_)
    · refine lv_aload_n hx hb dX12_terms_161 rfl (lv_at hl 0 rfl) ?_
      refine xh_geti C hw 0 8 h sM_0 (x_lt hN rfl) rfl rfl rfl lk_RX12_132 dX12_terms_162 (fun r162 h => ?_)
      refine x_if_eq (tgt := 172) hx hb h dX12_terms_165 (by decide) (fun h => ?_) (fun h => ?_)
      · exact w172 _ _ _ _ _ hw (lv_sub hl [0, 1] rfl) h
      · refine lv_aload_n hx hb dX12_terms_168 rfl (lv_at hl 0 rfl) ?_
        refine xh_cVv C hw (rest := []) h (fun _ hy => c_X12_wrong hq hy) ml_RX12_138 mv_X12_wrong sM_0 (x_lt hN rfl) rfl ⟨rfl, rfl, by decide, by decide⟩ rfl hl.1 rfl (Nat.le_of_ble_eq_true rfl) dX12_terms_169 (fun H locs _ M hw h => ?_)
        exact w172 _ _ _ _ _ hw (lv_sub hl [0, 1] rfl) h
    · exact w172 _ _ _ _ _ hw (lv_sub hl [0, 1] rfl) h
  unfold f_X12_terms at h
  refine lv_aload_n hx hb dX12_terms_0 rfl (lv_at hl 0 rfl) ?_
  refine lv_aload_n hx hb dX12_terms_1 rfl (lv_at hl 0 rfl) ?_
  refine xh_geti C hw 0 4 h sM_0 (x_lt hN rfl) rfl rfl rfl lk_RX12_112 dX12_terms_2 (fun r2 h => ?_)
  refine xh_puti C hw 0 7 h sM_0 (x_lt hN rfl) rfl rfl rfl lk_RX12_129 rfl rfl dX12_terms_5 (fun H locs M hw h => ?_)
  refine lv_aload_n hx hb dX12_terms_8 rfl (lv_at hl 0 rfl) ?_
  refine lv_iconst (v := (nI 0)) hx hb dX12_terms_9 (by decide) ?_
  refine xh_puti C hw 0 4 h sM_0 (x_lt hN rfl) rfl rfl rfl lk_RX12_112 rfl rfl dX12_terms_10 (fun H locs M hw h => ?_)
  refine lv_iload_n hx hb dX12_terms_13 rfl (lv_at hl 1 rfl) ?_
  refine xh_cSi C hw (rest := []) h (fun _ hy => c_X12_isDay hq hy) ml_RX12_194 st_X12_isDay ⟨rfl, rfl, by decide, by decide⟩ rfl hl.1 rfl (Nat.le_of_ble_eq_true rfl) dX12_terms_14 (fun H locs r14 M hw h => ?_)
  refine x_if_ne (tgt := 23) hx hb h dX12_terms_17 (by decide) (fun h => ?_) (fun h => ?_)
  · refine lv_ldc hx hb ho (hL _ kc_RX12_85) dX12_terms_20 ?_
    exact hret dX12_terms_22 rfl hw h
  · refine lv_iload_n hx hb dX12_terms_23 rfl (lv_at hl 1 rfl) ?_
    refine lv_aload_n hx hb dX12_terms_24 rfl (lv_at hl 0 rfl) ?_
    refine xh_getr C hw 0 0 sM_0 (x_lt hN rfl) rfl rfl rfl lk_RX12_7 dX12_terms_25 ?_
    refine lv_iconst (v := (nI 0)) hx hb dX12_terms_28 (by decide) ?_
    refine xh_iald C hw 1 5512 h sM_1 (x_lt hN rfl) dX12_terms_29 (fun r29 h => ?_)
    refine lv_isub hx hb dX12_terms_30 ?_
    refine lv_aload_n hx hb dX12_terms_31 rfl (lv_at hl 0 rfl) ?_
    refine xh_getr C hw 0 0 sM_0 (x_lt hN rfl) rfl rfl rfl lk_RX12_7 dX12_terms_32 ?_
    refine lv_iconst (v := (nI 1)) hx hb dX12_terms_35 (by decide) ?_
    refine xh_iald C hw 1 5512 h sM_1 (x_lt hN rfl) dX12_terms_36 (fun r36 h => ?_)
    refine x_icmp_ge (tgt := 56) hx hb h dX12_terms_37 (by decide) (fun h => ?_) (fun h => ?_)
    · exact w56 _ _ _ _ _ hw (lv_sub hl [0, 1] rfl) h
    · refine lv_iload_n hx hb dX12_terms_40 rfl (lv_at hl 1 rfl) ?_
      refine x_if_ne (tgt := 53) hx hb h dX12_terms_41 (by decide) (fun h => ?_) (fun h => ?_)
      · refine lv_aload_n hx hb dX12_terms_44 rfl (lv_at hl 0 rfl) ?_
        refine xh_getr C hw 0 0 sM_0 (x_lt hN rfl) rfl rfl rfl lk_RX12_7 dX12_terms_45 ?_
        refine lv_iconst (v := (nI 0)) hx hb dX12_terms_48 (by decide) ?_
        refine xh_iald C hw 1 5512 h sM_1 (x_lt hN rfl) dX12_terms_49 (fun r49 h => ?_)
        refine x_if_eq (tgt := 56) hx hb h dX12_terms_50 (by decide) (fun h => ?_) (fun h => ?_)
        · exact w56 _ _ _ _ _ hw (lv_sub hl [0, 1] rfl) h
        · exact w53 _ _ _ _ hw (lv_sub hl [] rfl) h
      · exact w53 _ _ _ _ hw (lv_sub hl [] rfl) h
def f_X12_both_84 (M : x_M) : Option (Int32 × x_M) := some ((nI 1), M)
def f_X12_both_102 (M : x_M) : Option (Int32 × x_M) := some ((nI 0), M)
def f_X12_both (M : x_M) (a1 : Int32) (a2 : Int32) (a3 : Int32) : Option (Int32 × x_M) := if a1 = (nI 10) then if a2 = 0 then if a3 = 0 then some ((nI 0), M) else f_X12_both_84 M else f_X12_both_84 M else if a1 = (nI 20) then if a2 = 0 then f_X12_both_102 M else if a3 = 0 then f_X12_both_102 M else some ((nI 1), M) else if a1 = (nI 30) then if a3 ≤ a2 then some ((nI 0), M) else some ((nI 1), M) else if a1 = (nI 31) then if a2 = a3 then some ((nI 1), M) else some ((nI 0), M) else if a1 = (nI 32) then if a2 ≤ a3 then some ((nI 0), M) else some ((nI 1), M) else if a1 = (nI 40) then some ((a2 + a3), M) else if a1 = (nI 41) then some ((a2 - a3), M) else if a1 = (nI 50) then some ((a2 * a3), M) else if a3 = 0 then some ((nI 0), M) else x_dv a3 (some ((a2 / a3), M))
abbrev rm_X12_both : Room := { frames := 0, cells := 0, slots := 0, locals := 0 }
set_option maxHeartbeats 4000000 in
set_option maxRecDepth 100000 in
theorem c_X12_both {l : Launch} {D : va_G} {cy : Nat → ClassId} {q ad : Nat → Nat} {s0 : State} (hq : x_Q q 24 s0.heap.size) {M : x_M} {a1 : Int32} {a2 : Int32} {a3 : Int32} {z : Int32 × x_M} (h : f_X12_both M a1 a2 a3 = some z) : x_Ci l D cy q ad x_spM 24 s0 yX12_both (x_uw yX12_both cX12_both 3 (some .int)) rm_X12_both [.int a1, .int a2, .int a3] M z.1 z.2 := by
  have hN : 24 ≤ 24 := Nat.le_refl _
  refine x_meti hq (by decide) (Nat.le_of_ble_eq_true rfl) ?_
  intro p e s m args below meth c ls Q C hret hl hw
  have hx := C.1.1
  have hb := C.1.2.1
  have ho := C.1.2.2.2.1
  have hL := C.1.2.2.2.2
  have hl : lv_has ls 3 [(0, .int a1), (1, .int a2), (2, .int a3)] := hl
  have w84 : ∀ (M : x_M) (H : Heap) (locs : List Loc) (ls : Array Slot), x_B D cy q ad x_spM 24 s H locs M → lv_has ls 3 [] → f_X12_both_84 M = some z → W p l e rm_X12_both s m args below meth c H locs 0 0 Q (F0 m 84 ls []) := by
    intro M H locs ls hw hl h
    unfold f_X12_both_84 at h
    refine lv_iconst (v := (nI 1)) hx hb dX12_both_84 (by decide) ?_
    refine lv_goto (tgt := 89) hx hb dX12_both_85 (by decide) ?_
    exact hret dX12_both_89 rfl hw h
  have w102 : ∀ (M : x_M) (H : Heap) (locs : List Loc) (ls : Array Slot), x_B D cy q ad x_spM 24 s H locs M → lv_has ls 3 [] → f_X12_both_102 M = some z → W p l e rm_X12_both s m args below meth c H locs 0 0 Q (F0 m 102 ls []) := by
    intro M H locs ls hw hl h
    unfold f_X12_both_102 at h
    refine lv_iconst (v := (nI 0)) hx hb dX12_both_102 (by decide) ?_
    exact hret dX12_both_103 rfl hw h
  unfold f_X12_both at h
  refine lv_iload_n hx hb dX12_both_0 rfl (lv_at hl 0 rfl) ?_
  refine (Decidable.em (a1 = (nI 10))).elim (fun c1_10 => ?_) (fun c1_10 => ?_)
  · rw [if_pos c1_10] at h
    rw [c1_10]
    refine lv_lookup (off := 75) (tgt := 76) hx hb dX12_both_1 (by decide) (by decide) (by decide) ?_
    refine lv_iload_n hx hb dX12_both_76 rfl (lv_at hl 1 rfl) ?_
    refine x_if_ne (tgt := 84) hx hb h dX12_both_77 (by decide) (fun h => ?_) (fun h => ?_)
    · refine lv_iload_n hx hb dX12_both_80 rfl (lv_at hl 2 rfl) ?_
      refine x_if_eq (tgt := 88) hx hb h dX12_both_81 (by decide) (fun h => ?_) (fun h => ?_)
      · refine lv_iconst (v := (nI 0)) hx hb dX12_both_88 (by decide) ?_
        exact hret dX12_both_89 rfl hw h
      · exact w84 _ _ _ _ hw (lv_sub hl [] rfl) h
    · exact w84 _ _ _ _ hw (lv_sub hl [] rfl) h
  rw [if_neg c1_10] at h
  refine (Decidable.em (a1 = (nI 20))).elim (fun c1_20 => ?_) (fun c1_20 => ?_)
  · rw [if_pos c1_20] at h
    rw [c1_20]
    refine lv_lookup (off := 89) (tgt := 90) hx hb dX12_both_1 (by decide) (by decide) (by decide) ?_
    refine lv_iload_n hx hb dX12_both_90 rfl (lv_at hl 1 rfl) ?_
    refine x_if_eq (tgt := 102) hx hb h dX12_both_91 (by decide) (fun h => ?_) (fun h => ?_)
    · exact w102 _ _ _ _ hw (lv_sub hl [] rfl) h
    · refine lv_iload_n hx hb dX12_both_94 rfl (lv_at hl 2 rfl) ?_
      refine x_if_eq (tgt := 102) hx hb h dX12_both_95 (by decide) (fun h => ?_) (fun h => ?_)
      · exact w102 _ _ _ _ hw (lv_sub hl [] rfl) h
      · refine lv_iconst (v := (nI 1)) hx hb dX12_both_98 (by decide) ?_
        refine lv_goto (tgt := 103) hx hb dX12_both_99 (by decide) ?_
        exact hret dX12_both_103 rfl hw h
  rw [if_neg c1_20] at h
  refine (Decidable.em (a1 = (nI 30))).elim (fun c1_30 => ?_) (fun c1_30 => ?_)
  · rw [if_pos c1_30] at h
    rw [c1_30]
    refine lv_lookup (off := 103) (tgt := 104) hx hb dX12_both_1 (by decide) (by decide) (by decide) ?_
    refine lv_iload_n hx hb dX12_both_104 rfl (lv_at hl 1 rfl) ?_
    refine lv_iload_n hx hb dX12_both_105 rfl (lv_at hl 2 rfl) ?_
    refine x_icmp_ge (tgt := 113) hx hb h dX12_both_106 (by decide) (fun h => ?_) (fun h => ?_)
    · refine lv_iconst (v := (nI 0)) hx hb dX12_both_113 (by decide) ?_
      exact hret dX12_both_114 rfl hw h
    · refine lv_iconst (v := (nI 1)) hx hb dX12_both_109 (by decide) ?_
      refine lv_goto (tgt := 114) hx hb dX12_both_110 (by decide) ?_
      exact hret dX12_both_114 rfl hw h
  rw [if_neg c1_30] at h
  refine (Decidable.em (a1 = (nI 31))).elim (fun c1_31 => ?_) (fun c1_31 => ?_)
  · rw [if_pos c1_31] at h
    rw [c1_31]
    refine lv_lookup (off := 114) (tgt := 115) hx hb dX12_both_1 (by decide) (by decide) (by decide) ?_
    refine lv_iload_n hx hb dX12_both_115 rfl (lv_at hl 1 rfl) ?_
    refine lv_iload_n hx hb dX12_both_116 rfl (lv_at hl 2 rfl) ?_
    refine x_icmp_ne (tgt := 124) hx hb h dX12_both_117 (by decide) (fun h => ?_) (fun h => ?_)
    · refine lv_iconst (v := (nI 1)) hx hb dX12_both_120 (by decide) ?_
      refine lv_goto (tgt := 125) hx hb dX12_both_121 (by decide) ?_
      exact hret dX12_both_125 rfl hw h
    · refine lv_iconst (v := (nI 0)) hx hb dX12_both_124 (by decide) ?_
      exact hret dX12_both_125 rfl hw h
  rw [if_neg c1_31] at h
  refine (Decidable.em (a1 = (nI 32))).elim (fun c1_32 => ?_) (fun c1_32 => ?_)
  · rw [if_pos c1_32] at h
    rw [c1_32]
    refine lv_lookup (off := 125) (tgt := 126) hx hb dX12_both_1 (by decide) (by decide) (by decide) ?_
    refine lv_iload_n hx hb dX12_both_126 rfl (lv_at hl 1 rfl) ?_
    refine lv_iload_n hx hb dX12_both_127 rfl (lv_at hl 2 rfl) ?_
    refine x_icmp_le (tgt := 135) hx hb h dX12_both_128 (by decide) (fun h => ?_) (fun h => ?_)
    · refine lv_iconst (v := (nI 0)) hx hb dX12_both_135 (by decide) ?_
      exact hret dX12_both_136 rfl hw h
    · refine lv_iconst (v := (nI 1)) hx hb dX12_both_131 (by decide) ?_
      refine lv_goto (tgt := 136) hx hb dX12_both_132 (by decide) ?_
      exact hret dX12_both_136 rfl hw h
  rw [if_neg c1_32] at h
  refine (Decidable.em (a1 = (nI 40))).elim (fun c1_40 => ?_) (fun c1_40 => ?_)
  · rw [if_pos c1_40] at h
    rw [c1_40]
    refine lv_lookup (off := 136) (tgt := 137) hx hb dX12_both_1 (by decide) (by decide) (by decide) ?_
    refine lv_iload_n hx hb dX12_both_137 rfl (lv_at hl 1 rfl) ?_
    refine lv_iload_n hx hb dX12_both_138 rfl (lv_at hl 2 rfl) ?_
    refine lv_iadd hx hb dX12_both_139 ?_
    exact hret dX12_both_140 rfl hw h
  rw [if_neg c1_40] at h
  refine (Decidable.em (a1 = (nI 41))).elim (fun c1_41 => ?_) (fun c1_41 => ?_)
  · rw [if_pos c1_41] at h
    rw [c1_41]
    refine lv_lookup (off := 140) (tgt := 141) hx hb dX12_both_1 (by decide) (by decide) (by decide) ?_
    refine lv_iload_n hx hb dX12_both_141 rfl (lv_at hl 1 rfl) ?_
    refine lv_iload_n hx hb dX12_both_142 rfl (lv_at hl 2 rfl) ?_
    refine lv_isub hx hb dX12_both_143 ?_
    exact hret dX12_both_144 rfl hw h
  rw [if_neg c1_41] at h
  refine (Decidable.em (a1 = (nI 50))).elim (fun c1_50 => ?_) (fun c1_50 => ?_)
  · rw [if_pos c1_50] at h
    rw [c1_50]
    refine lv_lookup (off := 144) (tgt := 145) hx hb dX12_both_1 (by decide) (by decide) (by decide) ?_
    refine lv_iload_n hx hb dX12_both_145 rfl (lv_at hl 1 rfl) ?_
    refine lv_iload_n hx hb dX12_both_146 rfl (lv_at hl 2 rfl) ?_
    refine lv_imul hx hb dX12_both_147 ?_
    exact hret dX12_both_148 rfl hw h
  rw [if_neg c1_50] at h
  refine lv_lookup (off := 148) (tgt := 149) hx hb dX12_both_1 (by decide) (by show Op.lookupswitch.offset [(10, 75), (20, 89), (30, 103), (31, 114), (32, 125), (40, 136), (41, 140), (50, 144)] 148 _ = _; rw [lv_osw c1_10 (show ((nI 10) : Int32).toInt = 10 by decide), lv_osw c1_20 (show ((nI 20) : Int32).toInt = 20 by decide), lv_osw c1_30 (show ((nI 30) : Int32).toInt = 30 by decide), lv_osw c1_31 (show ((nI 31) : Int32).toInt = 31 by decide), lv_osw c1_32 (show ((nI 32) : Int32).toInt = 32 by decide), lv_osw c1_40 (show ((nI 40) : Int32).toInt = 40 by decide), lv_osw c1_41 (show ((nI 41) : Int32).toInt = 41 by decide), lv_osw c1_50 (show ((nI 50) : Int32).toInt = 50 by decide)]; rfl) (by decide) ?_
  refine lv_iload_n hx hb dX12_both_149 rfl (lv_at hl 2 rfl) ?_
  refine x_if_ne (tgt := 157) hx hb h dX12_both_150 (by decide) (fun h => ?_) (fun h => ?_)
  · refine lv_iconst (v := (nI 0)) hx hb dX12_both_153 (by decide) ?_
    refine lv_goto (tgt := 160) hx hb dX12_both_154 (by decide) ?_
    exact hret dX12_both_160 rfl hw h
  · refine lv_iload_n hx hb dX12_both_157 rfl (lv_at hl 1 rfl) ?_
    refine lv_iload_n hx hb dX12_both_158 rfl (lv_at hl 2 rfl) ?_
    refine xh_idiv hx hb h dX12_both_159 (fun h => ?_)
    exact hret dX12_both_160 rfl hw h
def f_X12_worked_173 (k24 : x_M → Int32 → Int32 → Int32 → Option (Int32 × x_M)) (M : x_M) (v3 : Int32) (v4 : Int32) (v5 : Int32) : Option (Int32 × x_M) := k24 M v3 v4 (v5 + (nI 1))
def f_X12_worked_103 (k24 : x_M → Int32 → Int32 → Int32 → Option (Int32 × x_M)) (M : x_M) (v3 : Int32) (v4 : Int32) (v5 : Int32) (t1 : Int32) (t2 : Int32) : Option (Int32 × x_M) := x_wr 140 M 6 t1 t2 (fun M => f_X12_worked_173 k24 M (v3 + (nI 1)) v4 v5)
def f_X12_worked_80 (k24 : x_M → Int32 → Int32 → Int32 → Option (Int32 × x_M)) (M : x_M) (v3 : Int32) (v4 : Int32) (v5 : Int32) (v6 : Int32) (v7 : Int32) : Option (Int32 × x_M) := if v6 = (nI 1) then f_X12_worked_103 k24 M v3 v4 v5 v3 v7 else x_rd 128 (M 7) v7 (fun r102 => f_X12_worked_103 k24 M v3 v4 v5 v3 r102)
def f_X12_worked_139 (k24 : x_M → Int32 → Int32 → Int32 → Option (Int32 × x_M)) (M : x_M) (v3 : Int32) (v4 : Int32) (v5 : Int32) (t1 : Int32) (t2 : Int32) : Option (Int32 × x_M) := x_wr 140 M 6 t1 t2 (fun M => f_X12_worked_173 k24 M v3 v4 v5)
def f_X12_worked_24 : Nat → x_M → Int32 → Int32 → Int32 → Option (Int32 × x_M)
  | 0, _, _, _, _ => none
  | n + 1, M, v3, v4, v5 => x_rd 5512 (M 1) v4 (fun r32 => if r32 ≤ v5 then x_rd 140 (M 6) (nI 0) (fun r184 => some (r184, M)) else x_rd 5512 (M 1) ((v4 + (nI 1)) + ((nI 2) * v5)) (fun r49 => x_rd 5512 (M 1) ((v4 + (nI 2)) + ((nI 2) * v5)) (fun r65 => if r49 = (nI 1) then f_X12_worked_80 (f_X12_worked_24 n) M v3 v4 v5 r49 r65 else if r49 = (nI 2) then f_X12_worked_80 (f_X12_worked_24 n) M v3 v4 v5 r49 r65 else if r49 = (nI 3) then x_rd 140 (M 6) (v3 - (nI 1)) (fun r130 => if r130 = 0 then f_X12_worked_139 (f_X12_worked_24 n) M v3 v4 v5 (v3 - (nI 1)) (nI 1) else f_X12_worked_139 (f_X12_worked_24 n) M v3 v4 v5 (v3 - (nI 1)) (nI 0)) else x_rd 140 (M 6) ((v3 + (-1)) - (nI 1)) (fun r162 => x_rd 140 (M 6) (v3 + (-1)) (fun r168 => x_bn (f_X12_both M r49 r162 r168) (fun r169 M => x_wr 140 M 6 ((v3 + (-1)) - (nI 1)) r169 (fun M => f_X12_worked_173 (f_X12_worked_24 n) M (v3 + (-1)) v4 v5)))))))
theorem f_X12_worked_24_0 (M : x_M) (v3 : Int32) (v4 : Int32) (v5 : Int32) : f_X12_worked_24 0 M v3 v4 v5 = none := rfl
theorem f_X12_worked_24_s (n : Nat) (M : x_M) (v3 : Int32) (v4 : Int32) (v5 : Int32) : f_X12_worked_24 (n + 1) M v3 v4 v5 = (x_rd 5512 (M 1) v4 (fun r32 => if r32 ≤ v5 then x_rd 140 (M 6) (nI 0) (fun r184 => some (r184, M)) else x_rd 5512 (M 1) ((v4 + (nI 1)) + ((nI 2) * v5)) (fun r49 => x_rd 5512 (M 1) ((v4 + (nI 2)) + ((nI 2) * v5)) (fun r65 => if r49 = (nI 1) then f_X12_worked_80 (f_X12_worked_24 n) M v3 v4 v5 r49 r65 else if r49 = (nI 2) then f_X12_worked_80 (f_X12_worked_24 n) M v3 v4 v5 r49 r65 else if r49 = (nI 3) then x_rd 140 (M 6) (v3 - (nI 1)) (fun r130 => if r130 = 0 then f_X12_worked_139 (f_X12_worked_24 n) M v3 v4 v5 (v3 - (nI 1)) (nI 1) else f_X12_worked_139 (f_X12_worked_24 n) M v3 v4 v5 (v3 - (nI 1)) (nI 0)) else x_rd 140 (M 6) ((v3 + (-1)) - (nI 1)) (fun r162 => x_rd 140 (M 6) (v3 + (-1)) (fun r168 => x_bn (f_X12_both M r49 r162 r168) (fun r169 M => x_wr 140 M 6 ((v3 + (-1)) - (nI 1)) r169 (fun M => f_X12_worked_173 (f_X12_worked_24 n) M (v3 + (-1)) v4 v5)))))))) := rfl
def f_X12_worked (M : x_M) (a1 : Int32) (a2 : Int32) : Option (Int32 × x_M) := f_X12_worked_24 x_FU M (nI 0) ((((nI 1050) + ((nI 1062) * a1)) + (nI 2)) + ((nI 265) * a2)) (nI 0)
abbrev rm_X12_worked : Room := { frames := 1, cells := 0, slots := 0, locals := 22 }
set_option maxHeartbeats 4000000 in
set_option maxRecDepth 100000 in
theorem c_X12_worked {l : Launch} {D : va_G} {cy : Nat → ClassId} {q ad : Nat → Nat} {s0 : State} (hq : x_Q q 24 s0.heap.size) {M : x_M} {a1 : Int32} {a2 : Int32} {z : Int32 × x_M} (h : f_X12_worked M a1 a2 = some z) : x_Ci l D cy q ad x_spM 24 s0 yX12_worked (x_uw yX12_worked cX12_worked 8 (some .int)) rm_X12_worked [.ref (q 0), .int a1, .int a2] M z.1 z.2 := by
  have hN : 24 ≤ 24 := Nat.le_refl _
  refine x_meti hq (by decide) (Nat.le_of_ble_eq_true rfl) ?_
  intro p e s m args below meth c ls Q C hret hl hw
  have hx := C.1.1
  have hb := C.1.2.1
  have ho := C.1.2.2.2.1
  have hL := C.1.2.2.2.2
  have hl : lv_has ls 8 [(0, .ref (q 0)), (1, .int a1), (2, .int a2)] := hl
  have w24 : ∀ (n : Nat) (M : x_M) (v3 : Int32) (v4 : Int32) (v5 : Int32) (H : Heap) (locs : List Loc) (ls : Array Slot), x_B D cy q ad x_spM 24 s H locs M → lv_has ls 8 [(0, .ref (q 0)), (3, .int v3), (4, .int v4), (5, .int v5)] → f_X12_worked_24 n M v3 v4 v5 = some z → W p l e rm_X12_worked s m args below meth c H locs 0 0 Q (F0 m 24 ls []) := by
    intro n
    induction n with
    | zero =>
      intro M v3 v4 v5 H locs ls hw hl h
      rw [f_X12_worked_24_0] at h
      cases h
    | succ n24 ih24 =>
      have w173 : ∀ (M : x_M) (v3 : Int32) (v4 : Int32) (v5 : Int32) (H : Heap) (locs : List Loc) (ls : Array Slot), x_B D cy q ad x_spM 24 s H locs M → lv_has ls 8 [(0, .ref (q 0)), (3, .int v3), (4, .int v4), (5, .int v5)] → f_X12_worked_173 (f_X12_worked_24 n24) M v3 v4 v5 = some z → W p l e rm_X12_worked s m args below meth c H locs 0 0 Q (F0 m 173 ls []) := by
        intro M v3 v4 v5 H locs ls hw hl h
        unfold f_X12_worked_173 at h
        refine lv_iinc (lv' := [(5, .int _), (0, .ref (q 0)), (3, .int _), (4, .int _)]) hx hb dX12_worked_173 hl (k := 3) rfl (x_inc (show Int32.ofInt 1 = (nI 1) by decide) _) (by decide) rfl (fun ls hl => ?_)
        refine lv_goto (tgt := 24) hx hb dX12_worked_176 (by decide) ?_
        exact ih24 _ _ _ _ _ _ _ hw (lv_sub hl [1, 2, 3, 0] rfl) h
      have w80 : ∀ (M : x_M) (v3 : Int32) (v4 : Int32) (v5 : Int32) (v6 : Int32) (v7 : Int32) (H : Heap) (locs : List Loc) (ls : Array Slot), x_B D cy q ad x_spM 24 s H locs M → lv_has ls 8 [(0, .ref (q 0)), (3, .int v3), (4, .int v4), (5, .int v5), (6, .int v6), (7, .int v7)] → f_X12_worked_80 (f_X12_worked_24 n24) M v3 v4 v5 v6 v7 = some z → W p l e rm_X12_worked s m args below meth c H locs 0 0 Q (F0 m 80 ls []) := by
        have w103 : ∀ (M : x_M) (v3 : Int32) (v4 : Int32) (v5 : Int32) (t1 : Int32) (t2 : Int32) (H : Heap) (locs : List Loc) (ls : Array Slot), x_B D cy q ad x_spM 24 s H locs M → lv_has ls 8 [(0, .ref (q 0)), (3, .int v3), (4, .int v4), (5, .int v5)] → f_X12_worked_103 (f_X12_worked_24 n24) M v3 v4 v5 t1 t2 = some z → W p l e rm_X12_worked s m args below meth c H locs 0 0 Q (F0 m 103 ls [.int t2, .int t1, .ref (q 6)]) := by
          intro M v3 v4 v5 t1 t2 H locs ls hw hl h
          unfold f_X12_worked_103 at h
          refine xh_iast C hw 6 140 h sM_6 (x_lt hN rfl) dX12_worked_103 (fun H locs M hw h => ?_)
          refine lv_iinc (lv' := [(3, .int _), (0, .ref (q 0)), (4, .int _), (5, .int _)]) hx hb dX12_worked_104 hl (k := 1) rfl (x_inc (show Int32.ofInt 1 = (nI 1) by decide) _) (by decide) rfl (fun ls hl => ?_)
          refine lv_goto (tgt := 173) hx hb dX12_worked_107 (by decide) ?_
          exact w173 _ _ _ _ _ _ _ hw (lv_sub hl [1, 0, 2, 3] rfl) h
        intro M v3 v4 v5 v6 v7 H locs ls hw hl h
        unfold f_X12_worked_80 at h
        refine lv_aload_n hx hb dX12_worked_80 rfl (lv_at hl 0 rfl) ?_
        refine xh_getr C hw 0 19 sM_0 (x_lt hN rfl) rfl rfl rfl lk_RX12_25 dX12_worked_81 ?_
        refine lv_iload_n hx hb dX12_worked_84 rfl (lv_at hl 1 rfl) ?_
        refine lv_iload hx hb dX12_worked_85 (lv_at hl 4 rfl) ?_
        refine lv_iconst (v := (nI 1)) hx hb dX12_worked_87 (by decide) ?_
        refine x_icmp_ne (tgt := 96) hx hb h dX12_worked_88 (by decide) (fun h => ?_) (fun h => ?_)
        · refine lv_iload hx hb dX12_worked_91 (lv_at hl 5 rfl) ?_
          refine lv_goto (tgt := 103) hx hb dX12_worked_93 (by decide) ?_
          exact w103 _ _ _ _ _ _ _ _ _ hw (lv_sub hl [0, 1, 2, 3] rfl) h
        · refine lv_aload_n hx hb dX12_worked_96 rfl (lv_at hl 0 rfl) ?_
          refine xh_getr C hw 0 20 sM_0 (x_lt hN rfl) rfl rfl rfl lk_RX12_28 dX12_worked_97 ?_
          refine lv_iload hx hb dX12_worked_100 (lv_at hl 5 rfl) ?_
          refine xh_iald C hw 7 128 h sM_7 (x_lt hN rfl) dX12_worked_102 (fun r102 h => ?_)
          exact w103 _ _ _ _ _ _ _ _ _ hw (lv_sub hl [0, 1, 2, 3] rfl) h
      have w139 : ∀ (M : x_M) (v3 : Int32) (v4 : Int32) (v5 : Int32) (t1 : Int32) (t2 : Int32) (H : Heap) (locs : List Loc) (ls : Array Slot), x_B D cy q ad x_spM 24 s H locs M → lv_has ls 8 [(0, .ref (q 0)), (3, .int v3), (4, .int v4), (5, .int v5)] → f_X12_worked_139 (f_X12_worked_24 n24) M v3 v4 v5 t1 t2 = some z → W p l e rm_X12_worked s m args below meth c H locs 0 0 Q (F0 m 139 ls [.int t2, .int t1, .ref (q 6)]) := by
        intro M v3 v4 v5 t1 t2 H locs ls hw hl h
        unfold f_X12_worked_139 at h
        refine xh_iast C hw 6 140 h sM_6 (x_lt hN rfl) dX12_worked_139 (fun H locs M hw h => ?_)
        refine lv_goto (tgt := 173) hx hb dX12_worked_140 (by decide) ?_
        exact w173 _ _ _ _ _ _ _ hw (lv_sub hl [0, 1, 2, 3] rfl) h
      intro M v3 v4 v5 H locs ls hw hl h
      rw [f_X12_worked_24_s] at h
      refine lv_iload hx hb dX12_worked_24 (lv_at hl 3 rfl) ?_
      refine lv_aload_n hx hb dX12_worked_26 rfl (lv_at hl 0 rfl) ?_
      refine xh_getr C hw 0 0 sM_0 (x_lt hN rfl) rfl rfl rfl lk_RX12_7 dX12_worked_27 ?_
      refine lv_iload hx hb dX12_worked_30 (lv_at hl 2 rfl) ?_
      refine xh_iald C hw 1 5512 h sM_1 (x_lt hN rfl) dX12_worked_32 (fun r32 h => ?_)
      refine x_icmp_ge (tgt := 179) hx hb h dX12_worked_33 (by decide) (fun h => ?_) (fun h => ?_)
      · refine lv_aload_n hx hb dX12_worked_179 rfl (lv_at hl 0 rfl) ?_
        refine xh_getr C hw 0 19 sM_0 (x_lt hN rfl) rfl rfl rfl lk_RX12_25 dX12_worked_180 ?_
        refine lv_iconst (v := (nI 0)) hx hb dX12_worked_183 (by decide) ?_
        refine xh_iald C hw 6 140 h sM_6 (x_lt hN rfl) dX12_worked_184 (fun r184 h => ?_)
        exact hret dX12_worked_185 rfl hw h
      · refine lv_aload_n hx hb dX12_worked_36 rfl (lv_at hl 0 rfl) ?_
        refine xh_getr C hw 0 0 sM_0 (x_lt hN rfl) rfl rfl rfl lk_RX12_7 dX12_worked_37 ?_
        refine lv_iload hx hb dX12_worked_40 (lv_at hl 2 rfl) ?_
        refine lv_iconst (v := (nI 1)) hx hb dX12_worked_42 (by decide) ?_
        refine lv_iadd hx hb dX12_worked_43 ?_
        refine lv_iconst (v := (nI 2)) hx hb dX12_worked_44 (by decide) ?_
        refine lv_iload hx hb dX12_worked_45 (lv_at hl 3 rfl) ?_
        refine lv_imul hx hb dX12_worked_47 ?_
        refine lv_iadd hx hb dX12_worked_48 ?_
        refine xh_iald C hw 1 5512 h sM_1 (x_lt hN rfl) dX12_worked_49 (fun r49 h => ?_)
        refine lv_istore (lv' := [(6, .int _), (0, .ref (q 0)), (3, .int _), (4, .int _), (5, .int _)]) hx hb dX12_worked_50 hl (by decide) rfl (fun ls hl => ?_)
        refine lv_aload_n hx hb dX12_worked_52 rfl (lv_at hl 1 rfl) ?_
        refine xh_getr C hw 0 0 sM_0 (x_lt hN rfl) rfl rfl rfl lk_RX12_7 dX12_worked_53 ?_
        refine lv_iload hx hb dX12_worked_56 (lv_at hl 3 rfl) ?_
        refine lv_iconst (v := (nI 2)) hx hb dX12_worked_58 (by decide) ?_
        refine lv_iadd hx hb dX12_worked_59 ?_
        refine lv_iconst (v := (nI 2)) hx hb dX12_worked_60 (by decide) ?_
        refine lv_iload hx hb dX12_worked_61 (lv_at hl 4 rfl) ?_
        refine lv_imul hx hb dX12_worked_63 ?_
        refine lv_iadd hx hb dX12_worked_64 ?_
        refine xh_iald C hw 1 5512 h sM_1 (x_lt hN rfl) dX12_worked_65 (fun r65 h => ?_)
        refine lv_istore (lv' := [(7, .int _), (6, .int _), (0, .ref (q 0)), (3, .int _), (4, .int _), (5, .int _)]) hx hb dX12_worked_66 hl (by decide) rfl (fun ls hl => ?_)
        refine lv_iload hx hb dX12_worked_68 (lv_at hl 1 rfl) ?_
        refine lv_iconst (v := (nI 1)) hx hb dX12_worked_70 (by decide) ?_
        refine x_icmp_eq (tgt := 80) hx hb h dX12_worked_71 (by decide) (fun h => ?_) (fun h => ?_)
        · exact w80 _ _ _ _ _ _ _ _ _ hw (lv_sub hl [2, 3, 4, 5, 1, 0] rfl) h
        · refine lv_iload hx hb dX12_worked_74 (lv_at hl 1 rfl) ?_
          refine lv_iconst (v := (nI 2)) hx hb dX12_worked_76 (by decide) ?_
          refine x_icmp_ne (tgt := 110) hx hb h dX12_worked_77 (by decide) (fun h => ?_) (fun h => ?_)
          · exact w80 _ _ _ _ _ _ _ _ _ hw (lv_sub hl [2, 3, 4, 5, 1, 0] rfl) h
          · refine lv_iload hx hb dX12_worked_110 (lv_at hl 1 rfl) ?_
            refine lv_iconst (v := (nI 3)) hx hb dX12_worked_112 (by decide) ?_
            refine x_icmp_ne (tgt := 143) hx hb h dX12_worked_113 (by decide) (fun h => ?_) (fun h => ?_)
            · refine lv_aload_n hx hb dX12_worked_116 rfl (lv_at hl 2 rfl) ?_
              refine xh_getr C hw 0 19 sM_0 (x_lt hN rfl) rfl rfl rfl lk_RX12_25 dX12_worked_117 ?_
              refine lv_iload_n hx hb dX12_worked_120 rfl (lv_at hl 3 rfl) ?_
              refine lv_iconst (v := (nI 1)) hx hb dX12_worked_121 (by decide) ?_
              refine lv_isub hx hb dX12_worked_122 ?_
              refine lv_aload_n hx hb dX12_worked_123 rfl (lv_at hl 2 rfl) ?_
              refine xh_getr C hw 0 19 sM_0 (x_lt hN rfl) rfl rfl rfl lk_RX12_25 dX12_worked_124 ?_
              refine lv_iload_n hx hb dX12_worked_127 rfl (lv_at hl 3 rfl) ?_
              refine lv_iconst (v := (nI 1)) hx hb dX12_worked_128 (by decide) ?_
              refine lv_isub hx hb dX12_worked_129 ?_
              refine xh_iald C hw 6 140 h sM_6 (x_lt hN rfl) dX12_worked_130 (fun r130 h => ?_)
              refine x_if_ne (tgt := 138) hx hb h dX12_worked_131 (by decide) (fun h => ?_) (fun h => ?_)
              · refine lv_iconst (v := (nI 1)) hx hb dX12_worked_134 (by decide) ?_
                refine lv_goto (tgt := 139) hx hb dX12_worked_135 (by decide) ?_
                exact w139 _ _ _ _ _ _ _ _ _ hw (lv_sub hl [2, 3, 4, 5] rfl) h
              · refine lv_iconst (v := (nI 0)) hx hb dX12_worked_138 (by decide) ?_
                exact w139 _ _ _ _ _ _ _ _ _ hw (lv_sub hl [2, 3, 4, 5] rfl) h
            · refine lv_iinc (lv' := [(3, .int _), (7, .int _), (6, .int _), (0, .ref (q 0)), (4, .int _), (5, .int _)]) hx hb dX12_worked_143 hl (k := 3) rfl (x_inc (show Int32.ofInt (-1) = (-1) by decide) _) (by decide) rfl (fun ls hl => ?_)
              refine lv_aload_n hx hb dX12_worked_146 rfl (lv_at hl 3 rfl) ?_
              refine xh_getr C hw 0 19 sM_0 (x_lt hN rfl) rfl rfl rfl lk_RX12_25 dX12_worked_147 ?_
              refine lv_iload_n hx hb dX12_worked_150 rfl (lv_at hl 0 rfl) ?_
              refine lv_iconst (v := (nI 1)) hx hb dX12_worked_151 (by decide) ?_
              refine lv_isub hx hb dX12_worked_152 ?_
              refine lv_iload hx hb dX12_worked_153 (lv_at hl 2 rfl) ?_
              refine lv_aload_n hx hb dX12_worked_155 rfl (lv_at hl 3 rfl) ?_
              refine xh_getr C hw 0 19 sM_0 (x_lt hN rfl) rfl rfl rfl lk_RX12_25 dX12_worked_156 ?_
              refine lv_iload_n hx hb dX12_worked_159 rfl (lv_at hl 0 rfl) ?_
              refine lv_iconst (v := (nI 1)) hx hb dX12_worked_160 (by decide) ?_
              refine lv_isub hx hb dX12_worked_161 ?_
              refine xh_iald C hw 6 140 h sM_6 (x_lt hN rfl) dX12_worked_162 (fun r162 h => ?_)
              refine lv_aload_n hx hb dX12_worked_163 rfl (lv_at hl 3 rfl) ?_
              refine xh_getr C hw 0 19 sM_0 (x_lt hN rfl) rfl rfl rfl lk_RX12_25 dX12_worked_164 ?_
              refine lv_iload_n hx hb dX12_worked_167 rfl (lv_at hl 0 rfl) ?_
              refine xh_iald C hw 6 140 h sM_6 (x_lt hN rfl) dX12_worked_168 (fun r168 h => ?_)
              refine xh_cSi C hw (rest := [_, _]) h (fun _ hy => c_X12_both hq hy) ml_RX12_205 st_X12_both ⟨rfl, rfl, by decide, by decide⟩ rfl hl.1 rfl (Nat.le_of_ble_eq_true rfl) dX12_worked_169 (fun H locs r169 M hw h => ?_)
              refine xh_iast C hw 6 140 h sM_6 (x_lt hN rfl) dX12_worked_172 (fun H locs M hw h => ?_)
              exact w173 _ _ _ _ _ _ _ hw (lv_sub hl [3, 0, 4, 5] rfl) h
  unfold f_X12_worked at h
  refine lv_iconst (v := (nI 0)) hx hb dX12_worked_0 (by decide) ?_
  refine lv_istore_n (lv' := [(3, .int _), (0, .ref (q 0)), (1, .int _), (2, .int _)]) hx hb dX12_worked_1 rfl hl (by decide) rfl (fun ls hl => ?_)
  refine lv_sipush (v := (nI 1050)) hx hb dX12_worked_2 (by decide) ?_
  refine lv_sipush (v := (nI 1062)) hx hb dX12_worked_5 (by decide) ?_
  refine lv_iload_n hx hb dX12_worked_8 rfl (lv_at hl 2 rfl) ?_
  refine lv_imul hx hb dX12_worked_9 ?_
  refine lv_iadd hx hb dX12_worked_10 ?_
  refine lv_iconst (v := (nI 2)) hx hb dX12_worked_11 (by decide) ?_
  refine lv_iadd hx hb dX12_worked_12 ?_
  refine lv_sipush (v := (nI 265)) hx hb dX12_worked_13 (by decide) ?_
  refine lv_iload_n hx hb dX12_worked_16 rfl (lv_at hl 3 rfl) ?_
  refine lv_imul hx hb dX12_worked_17 ?_
  refine lv_iadd hx hb dX12_worked_18 ?_
  refine lv_istore (lv' := [(4, .int _), (3, .int _), (0, .ref (q 0)), (1, .int _), (2, .int _)]) hx hb dX12_worked_19 hl (by decide) rfl (fun ls hl => ?_)
  refine lv_iconst (v := (nI 0)) hx hb dX12_worked_21 (by decide) ?_
  refine lv_istore (lv' := [(5, .int _), (4, .int _), (3, .int _), (0, .ref (q 0)), (1, .int _), (2, .int _)]) hx hb dX12_worked_22 hl (by decide) rfl (fun ls hl => ?_)
  exact w24 _ _ _ _ _ _ _ _ hw (lv_sub hl [3, 2, 1, 0] rfl) h
def f_X12_termsOn_71 (k4 : x_M → Int32 → Int32 → Int32 → Option (Int32 × x_M)) (M : x_M) (v1 : Int32) (v2 : Int32) (v3 : Int32) : Option (Int32 × x_M) := k4 M v1 v2 (v3 + (nI 1))
def f_X12_termsOn_69 (k4 : x_M → Int32 → Int32 → Int32 → Option (Int32 × x_M)) (M : x_M) (v1 : Int32) (v3 : Int32) : Option (Int32 × x_M) := f_X12_termsOn_71 k4 M v1 v3 v3
def f_X12_termsOn_4 : Nat → x_M → Int32 → Int32 → Int32 → Option (Int32 × x_M)
  | 0, _, _, _, _ => none
  | n + 1, M, v1, v2, v3 => x_rd 5512 (M 1) (nI 6) (fun r11 => if r11 ≤ v3 then some (v2, M) else x_rd 5512 (M 1) ((nI 1050) + ((nI 1062) * v3)) (fun r28 => if v1 < r28 then f_X12_termsOn_71 (f_X12_termsOn_4 n) M v1 v2 v3 else if v2 = (-1) then f_X12_termsOn_69 (f_X12_termsOn_4 n) M v1 v3 else x_rd 5512 (M 1) ((nI 1050) + ((nI 1062) * v3)) (fun r51 => x_rd 5512 (M 1) ((nI 1050) + ((nI 1062) * v2)) (fun r65 => if r51 < r65 then f_X12_termsOn_71 (f_X12_termsOn_4 n) M v1 v2 v3 else f_X12_termsOn_69 (f_X12_termsOn_4 n) M v1 v3))))
theorem f_X12_termsOn_4_0 (M : x_M) (v1 : Int32) (v2 : Int32) (v3 : Int32) : f_X12_termsOn_4 0 M v1 v2 v3 = none := rfl
theorem f_X12_termsOn_4_s (n : Nat) (M : x_M) (v1 : Int32) (v2 : Int32) (v3 : Int32) : f_X12_termsOn_4 (n + 1) M v1 v2 v3 = (x_rd 5512 (M 1) (nI 6) (fun r11 => if r11 ≤ v3 then some (v2, M) else x_rd 5512 (M 1) ((nI 1050) + ((nI 1062) * v3)) (fun r28 => if v1 < r28 then f_X12_termsOn_71 (f_X12_termsOn_4 n) M v1 v2 v3 else if v2 = (-1) then f_X12_termsOn_69 (f_X12_termsOn_4 n) M v1 v3 else x_rd 5512 (M 1) ((nI 1050) + ((nI 1062) * v3)) (fun r51 => x_rd 5512 (M 1) ((nI 1050) + ((nI 1062) * v2)) (fun r65 => if r51 < r65 then f_X12_termsOn_71 (f_X12_termsOn_4 n) M v1 v2 v3 else f_X12_termsOn_69 (f_X12_termsOn_4 n) M v1 v3))))) := rfl
def f_X12_termsOn (M : x_M) (a1 : Int32) : Option (Int32 × x_M) := f_X12_termsOn_4 x_FU M a1 (-1) (nI 0)
abbrev rm_X12_termsOn : Room := { frames := 0, cells := 0, slots := 0, locals := 0 }
set_option maxHeartbeats 4000000 in
set_option maxRecDepth 100000 in
theorem c_X12_termsOn {l : Launch} {D : va_G} {cy : Nat → ClassId} {q ad : Nat → Nat} {s0 : State} (hq : x_Q q 24 s0.heap.size) {M : x_M} {a1 : Int32} {z : Int32 × x_M} (h : f_X12_termsOn M a1 = some z) : x_Ci l D cy q ad x_spM 24 s0 yX12_termsOn (x_uw yX12_termsOn cX12_termsOn 4 (some .int)) rm_X12_termsOn [.ref (q 0), .int a1] M z.1 z.2 := by
  have hN : 24 ≤ 24 := Nat.le_refl _
  refine x_meti hq (by decide) (Nat.le_of_ble_eq_true rfl) ?_
  intro p e s m args below meth c ls Q C hret hl hw
  have hx := C.1.1
  have hb := C.1.2.1
  have ho := C.1.2.2.2.1
  have hL := C.1.2.2.2.2
  have hl : lv_has ls 4 [(0, .ref (q 0)), (1, .int a1)] := hl
  have w4 : ∀ (n : Nat) (M : x_M) (v1 : Int32) (v2 : Int32) (v3 : Int32) (H : Heap) (locs : List Loc) (ls : Array Slot), x_B D cy q ad x_spM 24 s H locs M → lv_has ls 4 [(0, .ref (q 0)), (1, .int v1), (2, .int v2), (3, .int v3)] → f_X12_termsOn_4 n M v1 v2 v3 = some z → W p l e rm_X12_termsOn s m args below meth c H locs 0 0 Q (F0 m 4 ls []) := by
    intro n
    induction n with
    | zero =>
      intro M v1 v2 v3 H locs ls hw hl h
      rw [f_X12_termsOn_4_0] at h
      cases h
    | succ n4 ih4 =>
      have w71 : ∀ (M : x_M) (v1 : Int32) (v2 : Int32) (v3 : Int32) (H : Heap) (locs : List Loc) (ls : Array Slot), x_B D cy q ad x_spM 24 s H locs M → lv_has ls 4 [(0, .ref (q 0)), (1, .int v1), (2, .int v2), (3, .int v3)] → f_X12_termsOn_71 (f_X12_termsOn_4 n4) M v1 v2 v3 = some z → W p l e rm_X12_termsOn s m args below meth c H locs 0 0 Q (F0 m 71 ls []) := by
        intro M v1 v2 v3 H locs ls hw hl h
        unfold f_X12_termsOn_71 at h
        refine lv_iinc (lv' := [(3, .int _), (0, .ref (q 0)), (1, .int _), (2, .int _)]) hx hb dX12_termsOn_71 hl (k := 3) rfl (x_inc (show Int32.ofInt 1 = (nI 1) by decide) _) (by decide) rfl (fun ls hl => ?_)
        refine lv_goto (tgt := 4) hx hb dX12_termsOn_74 (by decide) ?_
        exact ih4 _ _ _ _ _ _ _ hw (lv_sub hl [1, 2, 3, 0] rfl) h
      have w69 : ∀ (M : x_M) (v1 : Int32) (v3 : Int32) (H : Heap) (locs : List Loc) (ls : Array Slot), x_B D cy q ad x_spM 24 s H locs M → lv_has ls 4 [(0, .ref (q 0)), (1, .int v1), (3, .int v3)] → f_X12_termsOn_69 (f_X12_termsOn_4 n4) M v1 v3 = some z → W p l e rm_X12_termsOn s m args below meth c H locs 0 0 Q (F0 m 69 ls []) := by
        intro M v1 v3 H locs ls hw hl h
        unfold f_X12_termsOn_69 at h
        refine lv_iload_n hx hb dX12_termsOn_69 rfl (lv_at hl 2 rfl) ?_
        refine lv_istore_n (lv' := [(2, .int _), (0, .ref (q 0)), (1, .int _), (3, .int _)]) hx hb dX12_termsOn_70 rfl hl (by decide) rfl (fun ls hl => ?_)
        exact w71 _ _ _ _ _ _ _ hw (lv_sub hl [1, 2, 0, 3] rfl) h
      intro M v1 v2 v3 H locs ls hw hl h
      rw [f_X12_termsOn_4_s] at h
      refine lv_iload_n hx hb dX12_termsOn_4 rfl (lv_at hl 3 rfl) ?_
      refine lv_aload_n hx hb dX12_termsOn_5 rfl (lv_at hl 0 rfl) ?_
      refine xh_getr C hw 0 0 sM_0 (x_lt hN rfl) rfl rfl rfl lk_RX12_7 dX12_termsOn_6 ?_
      refine lv_bipush (v := (nI 6)) hx hb dX12_termsOn_9 (by decide) ?_
      refine xh_iald C hw 1 5512 h sM_1 (x_lt hN rfl) dX12_termsOn_11 (fun r11 h => ?_)
      refine x_icmp_ge (tgt := 77) hx hb h dX12_termsOn_12 (by decide) (fun h => ?_) (fun h => ?_)
      · refine lv_iload_n hx hb dX12_termsOn_77 rfl (lv_at hl 2 rfl) ?_
        exact hret dX12_termsOn_78 rfl hw h
      · refine lv_aload_n hx hb dX12_termsOn_15 rfl (lv_at hl 0 rfl) ?_
        refine xh_getr C hw 0 0 sM_0 (x_lt hN rfl) rfl rfl rfl lk_RX12_7 dX12_termsOn_16 ?_
        refine lv_sipush (v := (nI 1050)) hx hb dX12_termsOn_19 (by decide) ?_
        refine lv_sipush (v := (nI 1062)) hx hb dX12_termsOn_22 (by decide) ?_
        refine lv_iload_n hx hb dX12_termsOn_25 rfl (lv_at hl 3 rfl) ?_
        refine lv_imul hx hb dX12_termsOn_26 ?_
        refine lv_iadd hx hb dX12_termsOn_27 ?_
        refine xh_iald C hw 1 5512 h sM_1 (x_lt hN rfl) dX12_termsOn_28 (fun r28 h => ?_)
        refine lv_iload_n hx hb dX12_termsOn_29 rfl (lv_at hl 1 rfl) ?_
        refine x_icmp_gt (tgt := 71) hx hb h dX12_termsOn_30 (by decide) (fun h => ?_) (fun h => ?_)
        · exact w71 _ _ _ _ _ _ _ hw (lv_sub hl [0, 1, 2, 3] rfl) h
        · refine lv_iload_n hx hb dX12_termsOn_33 rfl (lv_at hl 2 rfl) ?_
          refine lv_iconst (v := (-1)) hx hb dX12_termsOn_34 (by decide) ?_
          refine x_icmp_eq (tgt := 69) hx hb h dX12_termsOn_35 (by decide) (fun h => ?_) (fun h => ?_)
          · exact w69 _ _ _ _ _ _ hw (lv_sub hl [0, 1, 3] rfl) h
          · refine lv_aload_n hx hb dX12_termsOn_38 rfl (lv_at hl 0 rfl) ?_
            refine xh_getr C hw 0 0 sM_0 (x_lt hN rfl) rfl rfl rfl lk_RX12_7 dX12_termsOn_39 ?_
            refine lv_sipush (v := (nI 1050)) hx hb dX12_termsOn_42 (by decide) ?_
            refine lv_sipush (v := (nI 1062)) hx hb dX12_termsOn_45 (by decide) ?_
            refine lv_iload_n hx hb dX12_termsOn_48 rfl (lv_at hl 3 rfl) ?_
            refine lv_imul hx hb dX12_termsOn_49 ?_
            refine lv_iadd hx hb dX12_termsOn_50 ?_
            refine xh_iald C hw 1 5512 h sM_1 (x_lt hN rfl) dX12_termsOn_51 (fun r51 h => ?_)
            refine lv_aload_n hx hb dX12_termsOn_52 rfl (lv_at hl 0 rfl) ?_
            refine xh_getr C hw 0 0 sM_0 (x_lt hN rfl) rfl rfl rfl lk_RX12_7 dX12_termsOn_53 ?_
            refine lv_sipush (v := (nI 1050)) hx hb dX12_termsOn_56 (by decide) ?_
            refine lv_sipush (v := (nI 1062)) hx hb dX12_termsOn_59 (by decide) ?_
            refine lv_iload_n hx hb dX12_termsOn_62 rfl (lv_at hl 2 rfl) ?_
            refine lv_imul hx hb dX12_termsOn_63 ?_
            refine lv_iadd hx hb dX12_termsOn_64 ?_
            refine xh_iald C hw 1 5512 h sM_1 (x_lt hN rfl) dX12_termsOn_65 (fun r65 h => ?_)
            refine x_icmp_lt (tgt := 71) hx hb h dX12_termsOn_66 (by decide) (fun h => ?_) (fun h => ?_)
            · exact w71 _ _ _ _ _ _ _ hw (lv_sub hl [0, 1, 2, 3] rfl) h
            · exact w69 _ _ _ _ _ _ hw (lv_sub hl [0, 1, 3] rfl) h
  unfold f_X12_termsOn at h
  refine lv_iconst (v := (-1)) hx hb dX12_termsOn_0 (by decide) ?_
  refine lv_istore_n (lv' := [(2, .int _), (0, .ref (q 0)), (1, .int _)]) hx hb dX12_termsOn_1 rfl hl (by decide) rfl (fun ls hl => ?_)
  refine lv_iconst (v := (nI 0)) hx hb dX12_termsOn_2 (by decide) ?_
  refine lv_istore_n (lv' := [(3, .int _), (2, .int _), (0, .ref (q 0)), (1, .int _)]) hx hb dX12_termsOn_3 rfl hl (by decide) rfl (fun ls hl => ?_)
  exact w4 _ _ _ _ _ _ _ _ hw (lv_sub hl [2, 3, 1, 0] rfl) h
def f_X12_within (M : x_M) (a1 : Int32) (a2 : Int32) (a3 : Int32) : Option (Int32 × x_M) := x_bn (f_X12_more M a1 a2) (fun r2 M => x_bn (f_X12_less M r2 a3) (fun r6 M => some (r6, M)))
abbrev rm_X12_within : Room := { frames := 1, cells := 0, slots := 0, locals := 21 }
set_option maxHeartbeats 4000000 in
set_option maxRecDepth 100000 in
theorem c_X12_within {l : Launch} {D : va_G} {cy : Nat → ClassId} {q ad : Nat → Nat} {s0 : State} (hq : x_Q q 24 s0.heap.size) {M : x_M} {a1 : Int32} {a2 : Int32} {a3 : Int32} {z : Int32 × x_M} (h : f_X12_within M a1 a2 a3 = some z) : x_Ci l D cy q ad x_spM 24 s0 yX12_within (x_uw yX12_within cX12_within 3 (some .int)) rm_X12_within [.int a1, .int a2, .int a3] M z.1 z.2 := by
  have hN : 24 ≤ 24 := Nat.le_refl _
  refine x_meti hq (by decide) (Nat.le_of_ble_eq_true rfl) ?_
  intro p e s m args below meth c ls Q C hret hl hw
  have hx := C.1.1
  have hb := C.1.2.1
  have ho := C.1.2.2.2.1
  have hL := C.1.2.2.2.2
  have hl : lv_has ls 3 [(0, .int a1), (1, .int a2), (2, .int a3)] := hl
  unfold f_X12_within at h
  refine lv_iload_n hx hb dX12_within_0 rfl (lv_at hl 0 rfl) ?_
  refine lv_iload_n hx hb dX12_within_1 rfl (lv_at hl 1 rfl) ?_
  refine xh_cSi C hw (rest := []) h (fun _ hy => c_X12_more hq hy) ml_RX12_209 st_X12_more ⟨rfl, rfl, by decide, by decide⟩ rfl hl.1 rfl (Nat.le_of_ble_eq_true rfl) dX12_within_2 (fun H locs r2 M hw h => ?_)
  refine lv_iload_n hx hb dX12_within_5 rfl (lv_at hl 2 rfl) ?_
  refine xh_cSi C hw (rest := []) h (fun _ hy => c_X12_less hq hy) ml_RX12_96 st_X12_less ⟨rfl, rfl, by decide, by decide⟩ rfl hl.1 rfl (Nat.le_of_ble_eq_true rfl) dX12_within_6 (fun H locs r6 M hw h => ?_)
  exact hret dX12_within_9 rfl hw h
def f_X12_isKnown_44 (M : x_M) : Option (Int32 × x_M) := some ((nI 1), M)
def f_X12_isKnown_48 (M : x_M) : Option (Int32 × x_M) := some ((nI 0), M)
def f_X12_isKnown (M : x_M) (a1 : Int32) (a2 : Int32) : Option (Int32 × x_M) := x_rd 5512 (M 1) (((nI 50) + ((nI 10) * a1)) + (nI 3)) (fun r15 => if a2 < r15 then f_X12_isKnown_48 M else x_rd 5512 (M 1) (((nI 50) + ((nI 10) * a1)) + (nI 4)) (fun r27 => if r27 = (-1) then f_X12_isKnown_44 M else x_rd 5512 (M 1) (((nI 50) + ((nI 10) * a1)) + (nI 4)) (fun r39 => if r39 ≤ a2 then f_X12_isKnown_48 M else f_X12_isKnown_44 M)))
abbrev rm_X12_isKnown : Room := { frames := 0, cells := 0, slots := 0, locals := 0 }
set_option maxHeartbeats 4000000 in
set_option maxRecDepth 100000 in
theorem c_X12_isKnown {l : Launch} {D : va_G} {cy : Nat → ClassId} {q ad : Nat → Nat} {s0 : State} (hq : x_Q q 24 s0.heap.size) {M : x_M} {a1 : Int32} {a2 : Int32} {z : Int32 × x_M} (h : f_X12_isKnown M a1 a2 = some z) : x_Ci l D cy q ad x_spM 24 s0 yX12_isKnown (x_uw yX12_isKnown cX12_isKnown 4 (some .boolean)) rm_X12_isKnown [.ref (q 0), .int a1, .int a2] M z.1 z.2 := by
  have hN : 24 ≤ 24 := Nat.le_refl _
  refine x_meti hq (by decide) (Nat.le_of_ble_eq_true rfl) ?_
  intro p e s m args below meth c ls Q C hret hl hw
  have hx := C.1.1
  have hb := C.1.2.1
  have ho := C.1.2.2.2.1
  have hL := C.1.2.2.2.2
  have hl : lv_has ls 4 [(0, .ref (q 0)), (1, .int a1), (2, .int a2)] := hl
  have w44 : ∀ (M : x_M) (H : Heap) (locs : List Loc) (ls : Array Slot), x_B D cy q ad x_spM 24 s H locs M → lv_has ls 4 [] → f_X12_isKnown_44 M = some z → W p l e rm_X12_isKnown s m args below meth c H locs 0 0 Q (F0 m 44 ls []) := by
    intro M H locs ls hw hl h
    unfold f_X12_isKnown_44 at h
    refine lv_iconst (v := (nI 1)) hx hb dX12_isKnown_44 (by decide) ?_
    refine lv_goto (tgt := 49) hx hb dX12_isKnown_45 (by decide) ?_
    exact hret dX12_isKnown_49 rfl hw h
  have w48 : ∀ (M : x_M) (H : Heap) (locs : List Loc) (ls : Array Slot), x_B D cy q ad x_spM 24 s H locs M → lv_has ls 4 [] → f_X12_isKnown_48 M = some z → W p l e rm_X12_isKnown s m args below meth c H locs 0 0 Q (F0 m 48 ls []) := by
    intro M H locs ls hw hl h
    unfold f_X12_isKnown_48 at h
    refine lv_iconst (v := (nI 0)) hx hb dX12_isKnown_48 (by decide) ?_
    exact hret dX12_isKnown_49 rfl hw h
  unfold f_X12_isKnown at h
  refine lv_bipush (v := (nI 50)) hx hb dX12_isKnown_0 (by decide) ?_
  refine lv_bipush (v := (nI 10)) hx hb dX12_isKnown_2 (by decide) ?_
  refine lv_iload_n hx hb dX12_isKnown_4 rfl (lv_at hl 1 rfl) ?_
  refine lv_imul hx hb dX12_isKnown_5 ?_
  refine lv_iadd hx hb dX12_isKnown_6 ?_
  refine lv_istore_n (lv' := [(3, .int _), (0, .ref (q 0)), (1, .int _), (2, .int _)]) hx hb dX12_isKnown_7 rfl hl (by decide) rfl (fun ls hl => ?_)
  refine lv_aload_n hx hb dX12_isKnown_8 rfl (lv_at hl 1 rfl) ?_
  refine xh_getr C hw 0 0 sM_0 (x_lt hN rfl) rfl rfl rfl lk_RX12_7 dX12_isKnown_9 ?_
  refine lv_iload_n hx hb dX12_isKnown_12 rfl (lv_at hl 0 rfl) ?_
  refine lv_iconst (v := (nI 3)) hx hb dX12_isKnown_13 (by decide) ?_
  refine lv_iadd hx hb dX12_isKnown_14 ?_
  refine xh_iald C hw 1 5512 h sM_1 (x_lt hN rfl) dX12_isKnown_15 (fun r15 h => ?_)
  refine lv_iload_n hx hb dX12_isKnown_16 rfl (lv_at hl 3 rfl) ?_
  refine x_icmp_gt (tgt := 48) hx hb h dX12_isKnown_17 (by decide) (fun h => ?_) (fun h => ?_)
  · exact w48 _ _ _ _ hw (lv_sub hl [] rfl) h
  · refine lv_aload_n hx hb dX12_isKnown_20 rfl (lv_at hl 1 rfl) ?_
    refine xh_getr C hw 0 0 sM_0 (x_lt hN rfl) rfl rfl rfl lk_RX12_7 dX12_isKnown_21 ?_
    refine lv_iload_n hx hb dX12_isKnown_24 rfl (lv_at hl 0 rfl) ?_
    refine lv_iconst (v := (nI 4)) hx hb dX12_isKnown_25 (by decide) ?_
    refine lv_iadd hx hb dX12_isKnown_26 ?_
    refine xh_iald C hw 1 5512 h sM_1 (x_lt hN rfl) dX12_isKnown_27 (fun r27 h => ?_)
    refine lv_iconst (v := (-1)) hx hb dX12_isKnown_28 (by decide) ?_
    refine x_icmp_eq (tgt := 44) hx hb h dX12_isKnown_29 (by decide) (fun h => ?_) (fun h => ?_)
    · exact w44 _ _ _ _ hw (lv_sub hl [] rfl) h
    · refine lv_aload_n hx hb dX12_isKnown_32 rfl (lv_at hl 1 rfl) ?_
      refine xh_getr C hw 0 0 sM_0 (x_lt hN rfl) rfl rfl rfl lk_RX12_7 dX12_isKnown_33 ?_
      refine lv_iload_n hx hb dX12_isKnown_36 rfl (lv_at hl 0 rfl) ?_
      refine lv_iconst (v := (nI 4)) hx hb dX12_isKnown_37 (by decide) ?_
      refine lv_iadd hx hb dX12_isKnown_38 ?_
      refine xh_iald C hw 1 5512 h sM_1 (x_lt hN rfl) dX12_isKnown_39 (fun r39 h => ?_)
      refine lv_iload_n hx hb dX12_isKnown_40 rfl (lv_at hl 3 rfl) ?_
      refine x_icmp_le (tgt := 48) hx hb h dX12_isKnown_41 (by decide) (fun h => ?_) (fun h => ?_)
      · exact w48 _ _ _ _ hw (lv_sub hl [] rfl) h
      · exact w44 _ _ _ _ hw (lv_sub hl [] rfl) h
def f_X12_comes (M : x_M) (a1 : Int32) (a2 : Int32) (a3 : Int32) : Option (Unit × x_M) := x_gf M 0 24 (fun r5 => x_wr 100 M 8 r5 a1 (fun M => x_gf M 0 24 (fun r15 => x_wr 100 M 9 r15 a2 (fun M => x_gf M 0 24 (fun r25 => x_wr 100 M 10 r25 a3 (fun M => x_gf M 0 24 (fun r32 => x_pf M 0 24 (r32 + (nI 1)) (fun M => some ((), M)))))))))
abbrev rm_X12_comes : Room := { frames := 0, cells := 0, slots := 0, locals := 0 }
set_option maxHeartbeats 4000000 in
set_option maxRecDepth 100000 in
theorem c_X12_comes {l : Launch} {D : va_G} {cy : Nat → ClassId} {q ad : Nat → Nat} {s0 : State} (hq : x_Q q 24 s0.heap.size) {M : x_M} {a1 : Int32} {a2 : Int32} {a3 : Int32} {z : Unit × x_M} (h : f_X12_comes M a1 a2 a3 = some z) : x_Cv l D cy q ad x_spM 24 s0 yX12_comes (x_uw yX12_comes cX12_comes 4 none) rm_X12_comes [.ref (q 0), .int a1, .int a2, .int a3] M z.2 := by
  have hN : 24 ≤ 24 := Nat.le_refl _
  refine x_metv hq (by decide) (Nat.le_of_ble_eq_true rfl) ?_
  intro p e s m args below meth c ls Q C hret hl hw
  have hx := C.1.1
  have hb := C.1.2.1
  have ho := C.1.2.2.2.1
  have hL := C.1.2.2.2.2
  have hl : lv_has ls 4 [(0, .ref (q 0)), (1, .int a1), (2, .int a2), (3, .int a3)] := hl
  unfold f_X12_comes at h
  refine lv_aload_n hx hb dX12_comes_0 rfl (lv_at hl 0 rfl) ?_
  refine xh_getr C hw 0 21 sM_0 (x_lt hN rfl) rfl rfl rfl lk_RX12_31 dX12_comes_1 ?_
  refine lv_aload_n hx hb dX12_comes_4 rfl (lv_at hl 0 rfl) ?_
  refine xh_geti C hw 0 24 h sM_0 (x_lt hN rfl) rfl rfl rfl lk_RX12_212 dX12_comes_5 (fun r5 h => ?_)
  refine lv_iload_n hx hb dX12_comes_8 rfl (lv_at hl 1 rfl) ?_
  refine xh_iast C hw 8 100 h sM_8 (x_lt hN rfl) dX12_comes_9 (fun H locs M hw h => ?_)
  refine lv_aload_n hx hb dX12_comes_10 rfl (lv_at hl 0 rfl) ?_
  refine xh_getr C hw 0 22 sM_0 (x_lt hN rfl) rfl rfl rfl lk_RX12_34 dX12_comes_11 ?_
  refine lv_aload_n hx hb dX12_comes_14 rfl (lv_at hl 0 rfl) ?_
  refine xh_geti C hw 0 24 h sM_0 (x_lt hN rfl) rfl rfl rfl lk_RX12_212 dX12_comes_15 (fun r15 h => ?_)
  refine lv_iload_n hx hb dX12_comes_18 rfl (lv_at hl 2 rfl) ?_
  refine xh_iast C hw 9 100 h sM_9 (x_lt hN rfl) dX12_comes_19 (fun H locs M hw h => ?_)
  refine lv_aload_n hx hb dX12_comes_20 rfl (lv_at hl 0 rfl) ?_
  refine xh_getr C hw 0 23 sM_0 (x_lt hN rfl) rfl rfl rfl lk_RX12_37 dX12_comes_21 ?_
  refine lv_aload_n hx hb dX12_comes_24 rfl (lv_at hl 0 rfl) ?_
  refine xh_geti C hw 0 24 h sM_0 (x_lt hN rfl) rfl rfl rfl lk_RX12_212 dX12_comes_25 (fun r25 h => ?_)
  refine lv_iload_n hx hb dX12_comes_28 rfl (lv_at hl 3 rfl) ?_
  refine xh_iast C hw 10 100 h sM_10 (x_lt hN rfl) dX12_comes_29 (fun H locs M hw h => ?_)
  refine lv_aload_n hx hb dX12_comes_30 rfl (lv_at hl 0 rfl) ?_
  refine lv_dup hx hb dX12_comes_31 rfl ?_
  refine xh_geti C hw 0 24 h sM_0 (x_lt hN rfl) rfl rfl rfl lk_RX12_212 dX12_comes_32 (fun r32 h => ?_)
  refine lv_iconst (v := (nI 1)) hx hb dX12_comes_35 (by decide) ?_
  refine lv_iadd hx hb dX12_comes_36 ?_
  refine xh_puti C hw 0 24 h sM_0 (x_lt hN rfl) rfl rfl rfl lk_RX12_212 rfl rfl dX12_comes_37 (fun H locs M hw h => ?_)
  exact hret dX12_comes_40 hw h
def f_X12_tierBy (M : x_M) (a1 : Int32) (a2 : Int32) : Option (Int32 × x_M) := x_wr 128 M 7 (nI 113) a2 (fun M => x_bn (f_X12_worked M a1 (nI 3)) (fun r11 M => x_bn (f_X12_within M r11 (nI 0) (nI 3)) (fun r16 M => some (r16, M))))
abbrev rm_X12_tierBy : Room := { frames := 2, cells := 0, slots := 0, locals := 49 }
set_option maxHeartbeats 4000000 in
set_option maxRecDepth 100000 in
theorem c_X12_tierBy {l : Launch} {D : va_G} {cy : Nat → ClassId} {q ad : Nat → Nat} {s0 : State} (hq : x_Q q 24 s0.heap.size) {M : x_M} {a1 : Int32} {a2 : Int32} {z : Int32 × x_M} (h : f_X12_tierBy M a1 a2 = some z) : x_Ci l D cy q ad x_spM 24 s0 yX12_tierBy (x_uw yX12_tierBy cX12_tierBy 3 (some .int)) rm_X12_tierBy [.ref (q 0), .int a1, .int a2] M z.1 z.2 := by
  have hN : 24 ≤ 24 := Nat.le_refl _
  refine x_meti hq (by decide) (Nat.le_of_ble_eq_true rfl) ?_
  intro p e s m args below meth c ls Q C hret hl hw
  have hx := C.1.1
  have hb := C.1.2.1
  have ho := C.1.2.2.2.1
  have hL := C.1.2.2.2.2
  have hl : lv_has ls 3 [(0, .ref (q 0)), (1, .int a1), (2, .int a2)] := hl
  unfold f_X12_tierBy at h
  refine lv_aload_n hx hb dX12_tierBy_0 rfl (lv_at hl 0 rfl) ?_
  refine xh_getr C hw 0 20 sM_0 (x_lt hN rfl) rfl rfl rfl lk_RX12_28 dX12_tierBy_1 ?_
  refine lv_bipush (v := (nI 113)) hx hb dX12_tierBy_4 (by decide) ?_
  refine lv_iload_n hx hb dX12_tierBy_6 rfl (lv_at hl 2 rfl) ?_
  refine xh_iast C hw 7 128 h sM_7 (x_lt hN rfl) dX12_tierBy_7 (fun H locs M hw h => ?_)
  refine lv_aload_n hx hb dX12_tierBy_8 rfl (lv_at hl 0 rfl) ?_
  refine lv_iload_n hx hb dX12_tierBy_9 rfl (lv_at hl 1 rfl) ?_
  refine lv_iconst (v := (nI 3)) hx hb dX12_tierBy_10 (by decide) ?_
  refine xh_cVi C hw (rest := []) h (fun _ hy => c_X12_worked hq hy) ml_RX12_215 mv_X12_worked sM_0 (x_lt hN rfl) rfl ⟨rfl, rfl, by decide, by decide⟩ rfl hl.1 rfl (Nat.le_of_ble_eq_true rfl) dX12_tierBy_11 (fun H locs r11 M hw h => ?_)
  refine lv_iconst (v := (nI 0)) hx hb dX12_tierBy_14 (by decide) ?_
  refine lv_iconst (v := (nI 3)) hx hb dX12_tierBy_15 (by decide) ?_
  refine xh_cSi C hw (rest := []) h (fun _ hy => c_X12_within hq hy) ml_RX12_218 st_X12_within ⟨rfl, rfl, by decide, by decide⟩ rfl hl.1 rfl (Nat.le_of_ble_eq_true rfl) dX12_tierBy_16 (fun H locs r16 M hw h => ?_)
  exact hret dX12_tierBy_19 rfl hw h
def f_X12_tierOn_92 (M : x_M) (t0 : Int32) (t2 : Int32) (t3 : Int32) : Option (Int32 × x_M) := x_bn (f_X12_tierBy M t2 t3) (fun r92 M => x_bn (f_X12_more M t0 r92) (fun r95 M => some (r95, M)))
def f_X12_tierOn_33 (M : x_M) (v1 : Int32) (v3 : Int32) (v4 : Int32) (t0 : Int32) : Option (Int32 × x_M) := if v3 = (-1) then some (t0, M) else x_rd 40 (M 11) (((nI 4) * v1) + v4) (fun r57 => x_bn (f_X12_tierBy M v3 r57) (fun r58 M => x_bn (f_X12_more M t0 r58) (fun r61 M => if v4 = 0 then f_X12_tierOn_92 M r61 v3 (nI 0) else x_rd 40 (M 11) ((((nI 4) * v1) + v4) - (nI 1)) (fun r91 => f_X12_tierOn_92 M r61 v3 r91))))
def f_X12_tierOn (M : x_M) (a1 : Int32) (a2 : Int32) : Option (Int32 × x_M) := x_bn (f_X12_termsOn M a2) (fun r2 M => x_dv (nI 360) (x_rd 5512 (M 1) ((nI 20) + ((nI 3) * a1)) (fun r23 => if r23 = (nI 3) then f_X12_tierOn_33 M a1 r2 (a2 / (nI 360)) (nI 1) else f_X12_tierOn_33 M a1 r2 (a2 / (nI 360)) (nI 0))))
abbrev rm_X12_tierOn : Room := { frames := 3, cells := 0, slots := 0, locals := 71 }
set_option maxHeartbeats 4000000 in
set_option maxRecDepth 100000 in
theorem c_X12_tierOn {l : Launch} {D : va_G} {cy : Nat → ClassId} {q ad : Nat → Nat} {s0 : State} (hq : x_Q q 24 s0.heap.size) {M : x_M} {a1 : Int32} {a2 : Int32} {z : Int32 × x_M} (h : f_X12_tierOn M a1 a2 = some z) : x_Ci l D cy q ad x_spM 24 s0 yX12_tierOn (x_uw yX12_tierOn cX12_tierOn 6 (some .int)) rm_X12_tierOn [.ref (q 0), .int a1, .int a2] M z.1 z.2 := by
  have hN : 24 ≤ 24 := Nat.le_refl _
  refine x_meti hq (by decide) (Nat.le_of_ble_eq_true rfl) ?_
  intro p e s m args below meth c ls Q C hret hl hw
  have hx := C.1.1
  have hb := C.1.2.1
  have ho := C.1.2.2.2.1
  have hL := C.1.2.2.2.2
  have hl : lv_has ls 6 [(0, .ref (q 0)), (1, .int a1), (2, .int a2)] := hl
  have w33 : ∀ (M : x_M) (v1 : Int32) (v3 : Int32) (v4 : Int32) (t0 : Int32) (H : Heap) (locs : List Loc) (ls : Array Slot), x_B D cy q ad x_spM 24 s H locs M → lv_has ls 6 [(0, .ref (q 0)), (1, .int v1), (3, .int v3), (4, .int v4)] → f_X12_tierOn_33 M v1 v3 v4 t0 = some z → W p l e rm_X12_tierOn s m args below meth c H locs 0 0 Q (F0 m 33 ls [.int t0]) := by
    have w92 : ∀ (M : x_M) (t0 : Int32) (t2 : Int32) (t3 : Int32) (H : Heap) (locs : List Loc) (ls : Array Slot), x_B D cy q ad x_spM 24 s H locs M → lv_has ls 6 [] → f_X12_tierOn_92 M t0 t2 t3 = some z → W p l e rm_X12_tierOn s m args below meth c H locs 0 0 Q (F0 m 92 ls [.int t3, .int t2, .ref (q 0), .int t0]) := by
      intro M t0 t2 t3 H locs ls hw hl h
      unfold f_X12_tierOn_92 at h
      refine xh_cVi C hw (rest := [_]) h (fun _ hy => c_X12_tierBy hq hy) ml_RX12_224 mv_X12_tierBy sM_0 (x_lt hN rfl) rfl ⟨rfl, rfl, by decide, by decide⟩ rfl hl.1 rfl (Nat.le_of_ble_eq_true rfl) dX12_tierOn_92 (fun H locs r92 M hw h => ?_)
      refine xh_cSi C hw (rest := []) h (fun _ hy => c_X12_more hq hy) ml_RX12_209 st_X12_more ⟨rfl, rfl, by decide, by decide⟩ rfl hl.1 rfl (Nat.le_of_ble_eq_true rfl) dX12_tierOn_95 (fun H locs r95 M hw h => ?_)
      exact hret dX12_tierOn_98 rfl hw h
    intro M v1 v3 v4 t0 H locs ls hw hl h
    unfold f_X12_tierOn_33 at h
    refine lv_istore (lv' := [(5, .int _), (0, .ref (q 0)), (1, .int _), (3, .int _), (4, .int _)]) hx hb dX12_tierOn_33 hl (by decide) rfl (fun ls hl => ?_)
    refine lv_iload_n hx hb dX12_tierOn_35 rfl (lv_at hl 3 rfl) ?_
    refine lv_iconst (v := (-1)) hx hb dX12_tierOn_36 (by decide) ?_
    refine x_icmp_ne (tgt := 43) hx hb h dX12_tierOn_37 (by decide) (fun h => ?_) (fun h => ?_)
    · refine lv_iload hx hb dX12_tierOn_40 (lv_at hl 0 rfl) ?_
      exact hret dX12_tierOn_42 rfl hw h
    · refine lv_iload hx hb dX12_tierOn_43 (lv_at hl 0 rfl) ?_
      refine lv_aload_n hx hb dX12_tierOn_45 rfl (lv_at hl 1 rfl) ?_
      refine lv_iload_n hx hb dX12_tierOn_46 rfl (lv_at hl 3 rfl) ?_
      refine lv_aload_n hx hb dX12_tierOn_47 rfl (lv_at hl 1 rfl) ?_
      refine xh_getr C hw 0 25 sM_0 (x_lt hN rfl) rfl rfl rfl lk_RX12_40 dX12_tierOn_48 ?_
      refine lv_iconst (v := (nI 4)) hx hb dX12_tierOn_51 (by decide) ?_
      refine lv_iload_n hx hb dX12_tierOn_52 rfl (lv_at hl 2 rfl) ?_
      refine lv_imul hx hb dX12_tierOn_53 ?_
      refine lv_iload hx hb dX12_tierOn_54 (lv_at hl 4 rfl) ?_
      refine lv_iadd hx hb dX12_tierOn_56 ?_
      refine xh_iald C hw 11 40 h sM_11 (x_lt hN rfl) dX12_tierOn_57 (fun r57 h => ?_)
      refine xh_cVi C hw (rest := [_]) h (fun _ hy => c_X12_tierBy hq hy) ml_RX12_224 mv_X12_tierBy sM_0 (x_lt hN rfl) rfl ⟨rfl, rfl, by decide, by decide⟩ rfl hl.1 rfl (Nat.le_of_ble_eq_true rfl) dX12_tierOn_58 (fun H locs r58 M hw h => ?_)
      refine xh_cSi C hw (rest := []) h (fun _ hy => c_X12_more hq hy) ml_RX12_209 st_X12_more ⟨rfl, rfl, by decide, by decide⟩ rfl hl.1 rfl (Nat.le_of_ble_eq_true rfl) dX12_tierOn_61 (fun H locs r61 M hw h => ?_)
      refine lv_istore (lv' := [(5, .int _), (0, .ref (q 0)), (1, .int _), (3, .int _), (4, .int _)]) hx hb dX12_tierOn_64 hl (by decide) rfl (fun ls hl => ?_)
      refine lv_iload hx hb dX12_tierOn_66 (lv_at hl 0 rfl) ?_
      refine lv_aload_n hx hb dX12_tierOn_68 rfl (lv_at hl 1 rfl) ?_
      refine lv_iload_n hx hb dX12_tierOn_69 rfl (lv_at hl 3 rfl) ?_
      refine lv_iload hx hb dX12_tierOn_70 (lv_at hl 4 rfl) ?_
      refine x_if_ne (tgt := 79) hx hb h dX12_tierOn_72 (by decide) (fun h => ?_) (fun h => ?_)
      · refine lv_iconst (v := (nI 0)) hx hb dX12_tierOn_75 (by decide) ?_
        refine lv_goto (tgt := 92) hx hb dX12_tierOn_76 (by decide) ?_
        exact w92 _ _ _ _ _ _ _ hw (lv_sub hl [] rfl) h
      · refine lv_aload_n hx hb dX12_tierOn_79 rfl (lv_at hl 1 rfl) ?_
        refine xh_getr C hw 0 25 sM_0 (x_lt hN rfl) rfl rfl rfl lk_RX12_40 dX12_tierOn_80 ?_
        refine lv_iconst (v := (nI 4)) hx hb dX12_tierOn_83 (by decide) ?_
        refine lv_iload_n hx hb dX12_tierOn_84 rfl (lv_at hl 2 rfl) ?_
        refine lv_imul hx hb dX12_tierOn_85 ?_
        refine lv_iload hx hb dX12_tierOn_86 (lv_at hl 4 rfl) ?_
        refine lv_iadd hx hb dX12_tierOn_88 ?_
        refine lv_iconst (v := (nI 1)) hx hb dX12_tierOn_89 (by decide) ?_
        refine lv_isub hx hb dX12_tierOn_90 ?_
        refine xh_iald C hw 11 40 h sM_11 (x_lt hN rfl) dX12_tierOn_91 (fun r91 h => ?_)
        exact w92 _ _ _ _ _ _ _ hw (lv_sub hl [] rfl) h
  unfold f_X12_tierOn at h
  refine lv_aload_n hx hb dX12_tierOn_0 rfl (lv_at hl 0 rfl) ?_
  refine lv_iload_n hx hb dX12_tierOn_1 rfl (lv_at hl 2 rfl) ?_
  refine xh_cVi C hw (rest := []) h (fun _ hy => c_X12_termsOn hq hy) ml_RX12_221 mv_X12_termsOn sM_0 (x_lt hN rfl) rfl ⟨rfl, rfl, by decide, by decide⟩ rfl hl.1 rfl (Nat.le_of_ble_eq_true rfl) dX12_tierOn_2 (fun H locs r2 M hw h => ?_)
  refine lv_istore_n (lv' := [(3, .int _), (0, .ref (q 0)), (1, .int _), (2, .int _)]) hx hb dX12_tierOn_5 rfl hl (by decide) rfl (fun ls hl => ?_)
  refine lv_iload_n hx hb dX12_tierOn_6 rfl (lv_at hl 3 rfl) ?_
  refine lv_sipush (v := (nI 360)) hx hb dX12_tierOn_7 (by decide) ?_
  refine xh_idiv hx hb h dX12_tierOn_10 (fun h => ?_)
  refine lv_istore (lv' := [(4, .int _), (3, .int _), (0, .ref (q 0)), (1, .int _), (2, .int _)]) hx hb dX12_tierOn_11 hl (by decide) rfl (fun ls hl => ?_)
  refine lv_aload_n hx hb dX12_tierOn_13 rfl (lv_at hl 2 rfl) ?_
  refine xh_getr C hw 0 0 sM_0 (x_lt hN rfl) rfl rfl rfl lk_RX12_7 dX12_tierOn_14 ?_
  refine lv_bipush (v := (nI 20)) hx hb dX12_tierOn_17 (by decide) ?_
  refine lv_iconst (v := (nI 3)) hx hb dX12_tierOn_19 (by decide) ?_
  refine lv_iload_n hx hb dX12_tierOn_20 rfl (lv_at hl 3 rfl) ?_
  refine lv_imul hx hb dX12_tierOn_21 ?_
  refine lv_iadd hx hb dX12_tierOn_22 ?_
  refine xh_iald C hw 1 5512 h sM_1 (x_lt hN rfl) dX12_tierOn_23 (fun r23 h => ?_)
  refine lv_iconst (v := (nI 3)) hx hb dX12_tierOn_24 (by decide) ?_
  refine x_icmp_ne (tgt := 32) hx hb h dX12_tierOn_25 (by decide) (fun h => ?_) (fun h => ?_)
  · refine lv_iconst (v := (nI 1)) hx hb dX12_tierOn_28 (by decide) ?_
    refine lv_goto (tgt := 33) hx hb dX12_tierOn_29 (by decide) ?_
    exact w33 _ _ _ _ _ _ _ _ hw (lv_sub hl [2, 3, 1, 0] rfl) h
  · refine lv_iconst (v := (nI 0)) hx hb dX12_tierOn_32 (by decide) ?_
    exact w33 _ _ _ _ _ _ _ _ hw (lv_sub hl [2, 3, 1, 0] rfl) h
def f_X12_flies_208 (M : x_M) (v1 : Int32) (v2 : Int32) (v3 : Int32) (v6 : Int32) (t0 : Int32) : Option (Unit × x_M) := x_rd 5512 (M 1) (v2 + (nI 2)) (fun r221 => x_bn (f_X12_comes M v3 v6 (r221 + t0)) (fun _ M => x_rd 5512 (M 1) (v2 + (nI 2)) (fun r242 => x_dv (nI 360) (x_rd 40 (M 11) (((nI 4) * v3) + (r242 / (nI 360))) (fun r249 => x_wr 40 M 11 (((nI 4) * v3) + (r242 / (nI 360))) (r249 + v6) (fun M => x_rd 5512 (M 1) (v2 + (nI 6)) (fun r266 => x_dv (nI 10) (x_rd 4 (M 12) (r266 - r266 / (nI 10) * (nI 10)) (fun r271 => x_wr 4 M 12 (r266 - r266 / (nI 10) * (nI 10)) (r271 + v6) (fun M => x_wr 100 M 14 v1 v6 (fun M => some ((), M))))))))))))
def f_X12_flies_194 (M : x_M) (v1 : Int32) (v2 : Int32) (v3 : Int32) (v4 : Int32) (v6 : Int32) (v7 : Int32) : Option (Unit × x_M) := if v4 = (nI 1) then f_X12_flies_208 M v1 v2 v3 v6 (nI 9999) else f_X12_flies_208 M v1 v2 v3 v6 v7
def f_X12_flies (M : x_M) (a1 : Int32) : Option (Unit × x_M) := x_rd 5512 (M 1) (((nI 50) + ((nI 10) * a1)) + (nI 1)) (fun r15 => x_rd 5512 (M 1) ((nI 20) + ((nI 3) * r15)) (fun r27 => x_rd 5512 (M 1) (((nI 50) + ((nI 10) * a1)) + (nI 2)) (fun r38 => x_bn (f_X12_termsOn M r38) (fun r39 M => x_rd 5512 (M 1) (((nI 50) + ((nI 10) * a1)) + (nI 5)) (fun r51 => if r39 = (-1) then f_X12_flies_194 M a1 ((nI 50) + ((nI 10) * a1)) r15 r27 r51 (nI 720) else x_rd 5512 (M 1) (((nI 50) + ((nI 10) * a1)) + (nI 2)) (fun r80 => x_bn (f_X12_tierOn M r15 r80) (fun r81 M => x_wr 128 M 7 (nI 116) r81 (fun M => x_wr 128 M 7 (nI 107) r27 (fun M => x_rd 5512 (M 1) (((nI 50) + ((nI 10) * a1)) + (nI 5)) (fun r107 => x_wr 128 M 7 (nI 108) r107 (fun M => x_rd 5512 (M 1) (((nI 50) + ((nI 10) * a1)) + (nI 6)) (fun r123 => x_dv (nI 10) (x_wr 128 M 7 (nI 102) (r123 / (nI 10)) (fun M => x_rd 5512 (M 1) (((nI 50) + ((nI 10) * a1)) + (nI 6)) (fun r142 => x_dv (nI 10) (x_wr 128 M 7 (nI 112) (r142 - r142 / (nI 10) * (nI 10)) (fun M => x_rd 5512 (M 1) (((nI 50) + ((nI 10) * a1)) + (nI 7)) (fun r161 => x_wr 128 M 7 (nI 99) r161 (fun M => x_bn (f_X12_worked M r39 (nI 0)) (fun r167 M => x_bn (f_X12_within M r167 (nI 0) (nI 99999)) (fun r173 M => x_bn (f_X12_worked M r39 (nI 1)) (fun r182 M => x_bn (f_X12_within M r182 (nI 1) (nI 9999)) (fun r189 M => f_X12_flies_194 M a1 ((nI 50) + ((nI 10) * a1)) r15 r27 r173 r189)))))))))))))))))))))))
abbrev rm_X12_flies : Room := { frames := 4, cells := 0, slots := 0, locals := 96 }
set_option maxHeartbeats 4000000 in
set_option maxRecDepth 100000 in
theorem c_X12_flies {l : Launch} {D : va_G} {cy : Nat → ClassId} {q ad : Nat → Nat} {s0 : State} (hq : x_Q q 24 s0.heap.size) {M : x_M} {a1 : Int32} {z : Unit × x_M} (h : f_X12_flies M a1 = some z) : x_Cv l D cy q ad x_spM 24 s0 yX12_flies (x_uw yX12_flies cX12_flies 8 none) rm_X12_flies [.ref (q 0), .int a1] M z.2 := by
  have hN : 24 ≤ 24 := Nat.le_refl _
  refine x_metv hq (by decide) (Nat.le_of_ble_eq_true rfl) ?_
  intro p e s m args below meth c ls Q C hret hl hw
  have hx := C.1.1
  have hb := C.1.2.1
  have ho := C.1.2.2.2.1
  have hL := C.1.2.2.2.2
  have hl : lv_has ls 8 [(0, .ref (q 0)), (1, .int a1)] := hl
  have w194 : ∀ (M : x_M) (v1 : Int32) (v2 : Int32) (v3 : Int32) (v4 : Int32) (v6 : Int32) (v7 : Int32) (H : Heap) (locs : List Loc) (ls : Array Slot), x_B D cy q ad x_spM 24 s H locs M → lv_has ls 8 [(0, .ref (q 0)), (1, .int v1), (2, .int v2), (3, .int v3), (4, .int v4), (6, .int v6), (7, .int v7)] → f_X12_flies_194 M v1 v2 v3 v4 v6 v7 = some z → W p l e rm_X12_flies s m args below meth c H locs 0 0 Q (F0 m 194 ls []) := by
    have w208 : ∀ (M : x_M) (v1 : Int32) (v2 : Int32) (v3 : Int32) (v6 : Int32) (t0 : Int32) (H : Heap) (locs : List Loc) (ls : Array Slot), x_B D cy q ad x_spM 24 s H locs M → lv_has ls 8 [(0, .ref (q 0)), (1, .int v1), (2, .int v2), (3, .int v3), (6, .int v6)] → f_X12_flies_208 M v1 v2 v3 v6 t0 = some z → W p l e rm_X12_flies s m args below meth c H locs 0 0 Q (F0 m 208 ls [.int t0]) := by
      intro M v1 v2 v3 v6 t0 H locs ls hw hl h
      unfold f_X12_flies_208 at h
      refine lv_istore (lv' := [(7, .int _), (0, .ref (q 0)), (1, .int _), (2, .int _), (3, .int _), (6, .int _)]) hx hb dX12_flies_208 hl (by decide) rfl (fun ls hl => ?_)
      refine lv_aload_n hx hb dX12_flies_210 rfl (lv_at hl 1 rfl) ?_
      refine lv_iload_n hx hb dX12_flies_211 rfl (lv_at hl 4 rfl) ?_
      refine lv_iload hx hb dX12_flies_212 (lv_at hl 5 rfl) ?_
      refine lv_aload_n hx hb dX12_flies_214 rfl (lv_at hl 1 rfl) ?_
      refine xh_getr C hw 0 0 sM_0 (x_lt hN rfl) rfl rfl rfl lk_RX12_7 dX12_flies_215 ?_
      refine lv_iload_n hx hb dX12_flies_218 rfl (lv_at hl 3 rfl) ?_
      refine lv_iconst (v := (nI 2)) hx hb dX12_flies_219 (by decide) ?_
      refine lv_iadd hx hb dX12_flies_220 ?_
      refine xh_iald C hw 1 5512 h sM_1 (x_lt hN rfl) dX12_flies_221 (fun r221 h => ?_)
      refine lv_iload hx hb dX12_flies_222 (lv_at hl 0 rfl) ?_
      refine lv_iadd hx hb dX12_flies_224 ?_
      refine xh_cVv C hw (rest := []) h (fun _ hy => c_X12_comes hq hy) ml_RX12_230 mv_X12_comes sM_0 (x_lt hN rfl) rfl ⟨rfl, rfl, by decide, by decide⟩ rfl hl.1 rfl (Nat.le_of_ble_eq_true rfl) dX12_flies_225 (fun H locs _ M hw h => ?_)
      refine lv_aload_n hx hb dX12_flies_228 rfl (lv_at hl 1 rfl) ?_
      refine xh_getr C hw 0 25 sM_0 (x_lt hN rfl) rfl rfl rfl lk_RX12_40 dX12_flies_229 ?_
      refine lv_iconst (v := (nI 4)) hx hb dX12_flies_232 (by decide) ?_
      refine lv_iload_n hx hb dX12_flies_233 rfl (lv_at hl 4 rfl) ?_
      refine lv_imul hx hb dX12_flies_234 ?_
      refine lv_aload_n hx hb dX12_flies_235 rfl (lv_at hl 1 rfl) ?_
      refine xh_getr C hw 0 0 sM_0 (x_lt hN rfl) rfl rfl rfl lk_RX12_7 dX12_flies_236 ?_
      refine lv_iload_n hx hb dX12_flies_239 rfl (lv_at hl 3 rfl) ?_
      refine lv_iconst (v := (nI 2)) hx hb dX12_flies_240 (by decide) ?_
      refine lv_iadd hx hb dX12_flies_241 ?_
      refine xh_iald C hw 1 5512 h sM_1 (x_lt hN rfl) dX12_flies_242 (fun r242 h => ?_)
      refine lv_sipush (v := (nI 360)) hx hb dX12_flies_243 (by decide) ?_
      refine xh_idiv hx hb h dX12_flies_246 (fun h => ?_)
      refine lv_iadd hx hb dX12_flies_247 ?_
      refine lv_dup2_11 hx hb dX12_flies_248 rfl rfl ?_
      refine xh_iald C hw 11 40 h sM_11 (x_lt hN rfl) dX12_flies_249 (fun r249 h => ?_)
      refine lv_iload hx hb dX12_flies_250 (lv_at hl 5 rfl) ?_
      refine lv_iadd hx hb dX12_flies_252 ?_
      refine xh_iast C hw 11 40 h sM_11 (x_lt hN rfl) dX12_flies_253 (fun H locs M hw h => ?_)
      refine lv_aload_n hx hb dX12_flies_254 rfl (lv_at hl 1 rfl) ?_
      refine xh_getr C hw 0 26 sM_0 (x_lt hN rfl) rfl rfl rfl lk_RX12_43 dX12_flies_255 ?_
      refine lv_aload_n hx hb dX12_flies_258 rfl (lv_at hl 1 rfl) ?_
      refine xh_getr C hw 0 0 sM_0 (x_lt hN rfl) rfl rfl rfl lk_RX12_7 dX12_flies_259 ?_
      refine lv_iload_n hx hb dX12_flies_262 rfl (lv_at hl 3 rfl) ?_
      refine lv_bipush (v := (nI 6)) hx hb dX12_flies_263 (by decide) ?_
      refine lv_iadd hx hb dX12_flies_265 ?_
      refine xh_iald C hw 1 5512 h sM_1 (x_lt hN rfl) dX12_flies_266 (fun r266 h => ?_)
      refine lv_bipush (v := (nI 10)) hx hb dX12_flies_267 (by decide) ?_
      refine xh_irem hx hb h dX12_flies_269 (fun h => ?_)
      refine lv_dup2_11 hx hb dX12_flies_270 rfl rfl ?_
      refine xh_iald C hw 12 4 h sM_12 (x_lt hN rfl) dX12_flies_271 (fun r271 h => ?_)
      refine lv_iload hx hb dX12_flies_272 (lv_at hl 5 rfl) ?_
      refine lv_iadd hx hb dX12_flies_274 ?_
      refine xh_iast C hw 12 4 h sM_12 (x_lt hN rfl) dX12_flies_275 (fun H locs M hw h => ?_)
      refine lv_aload_n hx hb dX12_flies_276 rfl (lv_at hl 1 rfl) ?_
      refine xh_getr C hw 0 28 sM_0 (x_lt hN rfl) rfl rfl rfl lk_RX12_49 dX12_flies_277 ?_
      refine lv_iload_n hx hb dX12_flies_280 rfl (lv_at hl 2 rfl) ?_
      refine lv_iload hx hb dX12_flies_281 (lv_at hl 5 rfl) ?_
      refine xh_iast C hw 14 100 h sM_14 (x_lt hN rfl) dX12_flies_283 (fun H locs M hw h => ?_)
      exact hret dX12_flies_284 hw h
    intro M v1 v2 v3 v4 v6 v7 H locs ls hw hl h
    unfold f_X12_flies_194 at h
    refine lv_iload hx hb dX12_flies_194 (lv_at hl 4 rfl) ?_
    refine lv_iconst (v := (nI 1)) hx hb dX12_flies_196 (by decide) ?_
    refine x_icmp_ne (tgt := 206) hx hb h dX12_flies_197 (by decide) (fun h => ?_) (fun h => ?_)
    · refine lv_sipush (v := (nI 9999)) hx hb dX12_flies_200 (by decide) ?_
      refine lv_goto (tgt := 208) hx hb dX12_flies_203 (by decide) ?_
      exact w208 _ _ _ _ _ _ _ _ _ hw (lv_sub hl [0, 1, 2, 3, 5] rfl) h
    · refine lv_iload hx hb dX12_flies_206 (lv_at hl 6 rfl) ?_
      exact w208 _ _ _ _ _ _ _ _ _ hw (lv_sub hl [0, 1, 2, 3, 5] rfl) h
  unfold f_X12_flies at h
  refine lv_bipush (v := (nI 50)) hx hb dX12_flies_0 (by decide) ?_
  refine lv_bipush (v := (nI 10)) hx hb dX12_flies_2 (by decide) ?_
  refine lv_iload_n hx hb dX12_flies_4 rfl (lv_at hl 1 rfl) ?_
  refine lv_imul hx hb dX12_flies_5 ?_
  refine lv_iadd hx hb dX12_flies_6 ?_
  refine lv_istore_n (lv' := [(2, .int _), (0, .ref (q 0)), (1, .int _)]) hx hb dX12_flies_7 rfl hl (by decide) rfl (fun ls hl => ?_)
  refine lv_aload_n hx hb dX12_flies_8 rfl (lv_at hl 1 rfl) ?_
  refine xh_getr C hw 0 0 sM_0 (x_lt hN rfl) rfl rfl rfl lk_RX12_7 dX12_flies_9 ?_
  refine lv_iload_n hx hb dX12_flies_12 rfl (lv_at hl 0 rfl) ?_
  refine lv_iconst (v := (nI 1)) hx hb dX12_flies_13 (by decide) ?_
  refine lv_iadd hx hb dX12_flies_14 ?_
  refine xh_iald C hw 1 5512 h sM_1 (x_lt hN rfl) dX12_flies_15 (fun r15 h => ?_)
  refine lv_istore_n (lv' := [(3, .int _), (2, .int _), (0, .ref (q 0)), (1, .int _)]) hx hb dX12_flies_16 rfl hl (by decide) rfl (fun ls hl => ?_)
  refine lv_aload_n hx hb dX12_flies_17 rfl (lv_at hl 2 rfl) ?_
  refine xh_getr C hw 0 0 sM_0 (x_lt hN rfl) rfl rfl rfl lk_RX12_7 dX12_flies_18 ?_
  refine lv_bipush (v := (nI 20)) hx hb dX12_flies_21 (by decide) ?_
  refine lv_iconst (v := (nI 3)) hx hb dX12_flies_23 (by decide) ?_
  refine lv_iload_n hx hb dX12_flies_24 rfl (lv_at hl 0 rfl) ?_
  refine lv_imul hx hb dX12_flies_25 ?_
  refine lv_iadd hx hb dX12_flies_26 ?_
  refine xh_iald C hw 1 5512 h sM_1 (x_lt hN rfl) dX12_flies_27 (fun r27 h => ?_)
  refine lv_istore (lv' := [(4, .int _), (3, .int _), (2, .int _), (0, .ref (q 0)), (1, .int _)]) hx hb dX12_flies_28 hl (by decide) rfl (fun ls hl => ?_)
  refine lv_aload_n hx hb dX12_flies_30 rfl (lv_at hl 3 rfl) ?_
  refine lv_aload_n hx hb dX12_flies_31 rfl (lv_at hl 3 rfl) ?_
  refine xh_getr C hw 0 0 sM_0 (x_lt hN rfl) rfl rfl rfl lk_RX12_7 dX12_flies_32 ?_
  refine lv_iload_n hx hb dX12_flies_35 rfl (lv_at hl 2 rfl) ?_
  refine lv_iconst (v := (nI 2)) hx hb dX12_flies_36 (by decide) ?_
  refine lv_iadd hx hb dX12_flies_37 ?_
  refine xh_iald C hw 1 5512 h sM_1 (x_lt hN rfl) dX12_flies_38 (fun r38 h => ?_)
  refine xh_cVi C hw (rest := []) h (fun _ hy => c_X12_termsOn hq hy) ml_RX12_221 mv_X12_termsOn sM_0 (x_lt hN rfl) rfl ⟨rfl, rfl, by decide, by decide⟩ rfl hl.1 rfl (Nat.le_of_ble_eq_true rfl) dX12_flies_39 (fun H locs r39 M hw h => ?_)
  refine lv_istore (lv' := [(5, .int _), (4, .int _), (3, .int _), (2, .int _), (0, .ref (q 0)), (1, .int _)]) hx hb dX12_flies_42 hl (by decide) rfl (fun ls hl => ?_)
  refine lv_aload_n hx hb dX12_flies_44 rfl (lv_at hl 4 rfl) ?_
  refine xh_getr C hw 0 0 sM_0 (x_lt hN rfl) rfl rfl rfl lk_RX12_7 dX12_flies_45 ?_
  refine lv_iload_n hx hb dX12_flies_48 rfl (lv_at hl 3 rfl) ?_
  refine lv_iconst (v := (nI 5)) hx hb dX12_flies_49 (by decide) ?_
  refine lv_iadd hx hb dX12_flies_50 ?_
  refine xh_iald C hw 1 5512 h sM_1 (x_lt hN rfl) dX12_flies_51 (fun r51 h => ?_)
  refine lv_istore (lv' := [(6, .int _), (5, .int _), (4, .int _), (3, .int _), (2, .int _), (0, .ref (q 0)), (1, .int _)]) hx hb dX12_flies_52 hl (by decide) rfl (fun ls hl => ?_)
  refine lv_sipush (v := (nI 720)) hx hb dX12_flies_54 (by decide) ?_
  refine lv_istore (lv' := [(7, .int _), (6, .int _), (5, .int _), (4, .int _), (3, .int _), (2, .int _), (0, .ref (q 0)), (1, .int _)]) hx hb dX12_flies_57 hl (by decide) rfl (fun ls hl => ?_)
  refine lv_iload hx hb dX12_flies_59 (lv_at hl 2 rfl) ?_
  refine lv_iconst (v := (-1)) hx hb dX12_flies_61 (by decide) ?_
  refine x_icmp_eq (tgt := 194) hx hb h dX12_flies_62 (by decide) (fun h => ?_) (fun h => ?_)
  · exact w194 _ _ _ _ _ _ _ _ _ _ hw (lv_sub hl [6, 7, 5, 4, 3, 1, 0] rfl) h
  · refine lv_aload_n hx hb dX12_flies_65 rfl (lv_at hl 6 rfl) ?_
    refine xh_getr C hw 0 20 sM_0 (x_lt hN rfl) rfl rfl rfl lk_RX12_28 dX12_flies_66 ?_
    refine lv_bipush (v := (nI 116)) hx hb dX12_flies_69 (by decide) ?_
    refine lv_aload_n hx hb dX12_flies_71 rfl (lv_at hl 6 rfl) ?_
    refine lv_iload_n hx hb dX12_flies_72 rfl (lv_at hl 4 rfl) ?_
    refine lv_aload_n hx hb dX12_flies_73 rfl (lv_at hl 6 rfl) ?_
    refine xh_getr C hw 0 0 sM_0 (x_lt hN rfl) rfl rfl rfl lk_RX12_7 dX12_flies_74 ?_
    refine lv_iload_n hx hb dX12_flies_77 rfl (lv_at hl 5 rfl) ?_
    refine lv_iconst (v := (nI 2)) hx hb dX12_flies_78 (by decide) ?_
    refine lv_iadd hx hb dX12_flies_79 ?_
    refine xh_iald C hw 1 5512 h sM_1 (x_lt hN rfl) dX12_flies_80 (fun r80 h => ?_)
    refine xh_cVi C hw (rest := [_, _]) h (fun _ hy => c_X12_tierOn hq hy) ml_RX12_227 mv_X12_tierOn sM_0 (x_lt hN rfl) rfl ⟨rfl, rfl, by decide, by decide⟩ rfl hl.1 rfl (Nat.le_of_ble_eq_true rfl) dX12_flies_81 (fun H locs r81 M hw h => ?_)
    refine xh_iast C hw 7 128 h sM_7 (x_lt hN rfl) dX12_flies_84 (fun H locs M hw h => ?_)
    refine lv_aload_n hx hb dX12_flies_85 rfl (lv_at hl 6 rfl) ?_
    refine xh_getr C hw 0 20 sM_0 (x_lt hN rfl) rfl rfl rfl lk_RX12_28 dX12_flies_86 ?_
    refine lv_bipush (v := (nI 107)) hx hb dX12_flies_89 (by decide) ?_
    refine lv_iload hx hb dX12_flies_91 (lv_at hl 3 rfl) ?_
    refine xh_iast C hw 7 128 h sM_7 (x_lt hN rfl) dX12_flies_93 (fun H locs M hw h => ?_)
    refine lv_aload_n hx hb dX12_flies_94 rfl (lv_at hl 6 rfl) ?_
    refine xh_getr C hw 0 20 sM_0 (x_lt hN rfl) rfl rfl rfl lk_RX12_28 dX12_flies_95 ?_
    refine lv_bipush (v := (nI 108)) hx hb dX12_flies_98 (by decide) ?_
    refine lv_aload_n hx hb dX12_flies_100 rfl (lv_at hl 6 rfl) ?_
    refine xh_getr C hw 0 0 sM_0 (x_lt hN rfl) rfl rfl rfl lk_RX12_7 dX12_flies_101 ?_
    refine lv_iload_n hx hb dX12_flies_104 rfl (lv_at hl 5 rfl) ?_
    refine lv_iconst (v := (nI 5)) hx hb dX12_flies_105 (by decide) ?_
    refine lv_iadd hx hb dX12_flies_106 ?_
    refine xh_iald C hw 1 5512 h sM_1 (x_lt hN rfl) dX12_flies_107 (fun r107 h => ?_)
    refine xh_iast C hw 7 128 h sM_7 (x_lt hN rfl) dX12_flies_108 (fun H locs M hw h => ?_)
    refine lv_aload_n hx hb dX12_flies_109 rfl (lv_at hl 6 rfl) ?_
    refine xh_getr C hw 0 20 sM_0 (x_lt hN rfl) rfl rfl rfl lk_RX12_28 dX12_flies_110 ?_
    refine lv_bipush (v := (nI 102)) hx hb dX12_flies_113 (by decide) ?_
    refine lv_aload_n hx hb dX12_flies_115 rfl (lv_at hl 6 rfl) ?_
    refine xh_getr C hw 0 0 sM_0 (x_lt hN rfl) rfl rfl rfl lk_RX12_7 dX12_flies_116 ?_
    refine lv_iload_n hx hb dX12_flies_119 rfl (lv_at hl 5 rfl) ?_
    refine lv_bipush (v := (nI 6)) hx hb dX12_flies_120 (by decide) ?_
    refine lv_iadd hx hb dX12_flies_122 ?_
    refine xh_iald C hw 1 5512 h sM_1 (x_lt hN rfl) dX12_flies_123 (fun r123 h => ?_)
    refine lv_bipush (v := (nI 10)) hx hb dX12_flies_124 (by decide) ?_
    refine xh_idiv hx hb h dX12_flies_126 (fun h => ?_)
    refine xh_iast C hw 7 128 h sM_7 (x_lt hN rfl) dX12_flies_127 (fun H locs M hw h => ?_)
    refine lv_aload_n hx hb dX12_flies_128 rfl (lv_at hl 6 rfl) ?_
    refine xh_getr C hw 0 20 sM_0 (x_lt hN rfl) rfl rfl rfl lk_RX12_28 dX12_flies_129 ?_
    refine lv_bipush (v := (nI 112)) hx hb dX12_flies_132 (by decide) ?_
    refine lv_aload_n hx hb dX12_flies_134 rfl (lv_at hl 6 rfl) ?_
    refine xh_getr C hw 0 0 sM_0 (x_lt hN rfl) rfl rfl rfl lk_RX12_7 dX12_flies_135 ?_
    refine lv_iload_n hx hb dX12_flies_138 rfl (lv_at hl 5 rfl) ?_
    refine lv_bipush (v := (nI 6)) hx hb dX12_flies_139 (by decide) ?_
    refine lv_iadd hx hb dX12_flies_141 ?_
    refine xh_iald C hw 1 5512 h sM_1 (x_lt hN rfl) dX12_flies_142 (fun r142 h => ?_)
    refine lv_bipush (v := (nI 10)) hx hb dX12_flies_143 (by decide) ?_
    refine xh_irem hx hb h dX12_flies_145 (fun h => ?_)
    refine xh_iast C hw 7 128 h sM_7 (x_lt hN rfl) dX12_flies_146 (fun H locs M hw h => ?_)
    refine lv_aload_n hx hb dX12_flies_147 rfl (lv_at hl 6 rfl) ?_
    refine xh_getr C hw 0 20 sM_0 (x_lt hN rfl) rfl rfl rfl lk_RX12_28 dX12_flies_148 ?_
    refine lv_bipush (v := (nI 99)) hx hb dX12_flies_151 (by decide) ?_
    refine lv_aload_n hx hb dX12_flies_153 rfl (lv_at hl 6 rfl) ?_
    refine xh_getr C hw 0 0 sM_0 (x_lt hN rfl) rfl rfl rfl lk_RX12_7 dX12_flies_154 ?_
    refine lv_iload_n hx hb dX12_flies_157 rfl (lv_at hl 5 rfl) ?_
    refine lv_bipush (v := (nI 7)) hx hb dX12_flies_158 (by decide) ?_
    refine lv_iadd hx hb dX12_flies_160 ?_
    refine xh_iald C hw 1 5512 h sM_1 (x_lt hN rfl) dX12_flies_161 (fun r161 h => ?_)
    refine xh_iast C hw 7 128 h sM_7 (x_lt hN rfl) dX12_flies_162 (fun H locs M hw h => ?_)
    refine lv_aload_n hx hb dX12_flies_163 rfl (lv_at hl 6 rfl) ?_
    refine lv_iload hx hb dX12_flies_164 (lv_at hl 2 rfl) ?_
    refine lv_iconst (v := (nI 0)) hx hb dX12_flies_166 (by decide) ?_
    refine xh_cVi C hw (rest := []) h (fun _ hy => c_X12_worked hq hy) ml_RX12_215 mv_X12_worked sM_0 (x_lt hN rfl) rfl ⟨rfl, rfl, by decide, by decide⟩ rfl hl.1 rfl (Nat.le_of_ble_eq_true rfl) dX12_flies_167 (fun H locs r167 M hw h => ?_)
    refine lv_iconst (v := (nI 0)) hx hb dX12_flies_170 (by decide) ?_
    refine lv_ldc hx hb ho (hL _ kc_RX12_107) dX12_flies_171 ?_
    refine xh_cSi C hw (rest := []) h (fun _ hy => c_X12_within hq hy) ml_RX12_218 st_X12_within ⟨rfl, rfl, by decide, by decide⟩ rfl hl.1 rfl (Nat.le_of_ble_eq_true rfl) dX12_flies_173 (fun H locs r173 M hw h => ?_)
    refine lv_istore (lv' := [(6, .int _), (7, .int _), (5, .int _), (4, .int _), (3, .int _), (2, .int _), (0, .ref (q 0)), (1, .int _)]) hx hb dX12_flies_176 hl (by decide) rfl (fun ls hl => ?_)
    refine lv_aload_n hx hb dX12_flies_178 rfl (lv_at hl 6 rfl) ?_
    refine lv_iload hx hb dX12_flies_179 (lv_at hl 2 rfl) ?_
    refine lv_iconst (v := (nI 1)) hx hb dX12_flies_181 (by decide) ?_
    refine xh_cVi C hw (rest := []) h (fun _ hy => c_X12_worked hq hy) ml_RX12_215 mv_X12_worked sM_0 (x_lt hN rfl) rfl ⟨rfl, rfl, by decide, by decide⟩ rfl hl.1 rfl (Nat.le_of_ble_eq_true rfl) dX12_flies_182 (fun H locs r182 M hw h => ?_)
    refine lv_iconst (v := (nI 1)) hx hb dX12_flies_185 (by decide) ?_
    refine lv_sipush (v := (nI 9999)) hx hb dX12_flies_186 (by decide) ?_
    refine xh_cSi C hw (rest := []) h (fun _ hy => c_X12_within hq hy) ml_RX12_218 st_X12_within ⟨rfl, rfl, by decide, by decide⟩ rfl hl.1 rfl (Nat.le_of_ble_eq_true rfl) dX12_flies_189 (fun H locs r189 M hw h => ?_)
    refine lv_istore (lv' := [(7, .int _), (6, .int _), (5, .int _), (4, .int _), (3, .int _), (2, .int _), (0, .ref (q 0)), (1, .int _)]) hx hb dX12_flies_192 hl (by decide) rfl (fun ls hl => ?_)
    exact w194 _ _ _ _ _ _ _ _ _ _ hw (lv_sub hl [6, 7, 5, 4, 3, 1, 0] rfl) h
def f_X12_isOwn_58 (M : x_M) : Option (Int32 × x_M) := some ((nI 1), M)
def f_X12_isOwn_62 (M : x_M) : Option (Int32 × x_M) := some ((nI 0), M)
def f_X12_isOwn (M : x_M) (a1 : Int32) (a2 : Int32) (a3 : Int32) : Option (Int32 × x_M) := x_rd 5512 (M 1) (((nI 20) + ((nI 3) * a2)) + (nI 2)) (fun r12 => x_rd 100 (M 8) a1 (fun r20 => if r20 = a2 then f_X12_isOwn_58 M else if a3 = 0 then f_X12_isOwn_62 M else if r12 = (-1) then f_X12_isOwn_62 M else x_rd 100 (M 8) a1 (fun r47 => x_rd 5512 (M 1) (((nI 20) + ((nI 3) * r47)) + (nI 2)) (fun r52 => if r52 = r12 then f_X12_isOwn_58 M else f_X12_isOwn_62 M))))
abbrev rm_X12_isOwn : Room := { frames := 0, cells := 0, slots := 0, locals := 0 }
set_option maxHeartbeats 4000000 in
set_option maxRecDepth 100000 in
theorem c_X12_isOwn {l : Launch} {D : va_G} {cy : Nat → ClassId} {q ad : Nat → Nat} {s0 : State} (hq : x_Q q 24 s0.heap.size) {M : x_M} {a1 : Int32} {a2 : Int32} {a3 : Int32} {z : Int32 × x_M} (h : f_X12_isOwn M a1 a2 a3 = some z) : x_Ci l D cy q ad x_spM 24 s0 yX12_isOwn (x_uw yX12_isOwn cX12_isOwn 5 (some .boolean)) rm_X12_isOwn [.ref (q 0), .int a1, .int a2, .int a3] M z.1 z.2 := by
  have hN : 24 ≤ 24 := Nat.le_refl _
  refine x_meti hq (by decide) (Nat.le_of_ble_eq_true rfl) ?_
  intro p e s m args below meth c ls Q C hret hl hw
  have hx := C.1.1
  have hb := C.1.2.1
  have ho := C.1.2.2.2.1
  have hL := C.1.2.2.2.2
  have hl : lv_has ls 5 [(0, .ref (q 0)), (1, .int a1), (2, .int a2), (3, .int a3)] := hl
  have w58 : ∀ (M : x_M) (H : Heap) (locs : List Loc) (ls : Array Slot), x_B D cy q ad x_spM 24 s H locs M → lv_has ls 5 [] → f_X12_isOwn_58 M = some z → W p l e rm_X12_isOwn s m args below meth c H locs 0 0 Q (F0 m 58 ls []) := by
    intro M H locs ls hw hl h
    unfold f_X12_isOwn_58 at h
    refine lv_iconst (v := (nI 1)) hx hb dX12_isOwn_58 (by decide) ?_
    refine lv_goto (tgt := 63) hx hb dX12_isOwn_59 (by decide) ?_
    exact hret dX12_isOwn_63 rfl hw h
  have w62 : ∀ (M : x_M) (H : Heap) (locs : List Loc) (ls : Array Slot), x_B D cy q ad x_spM 24 s H locs M → lv_has ls 5 [] → f_X12_isOwn_62 M = some z → W p l e rm_X12_isOwn s m args below meth c H locs 0 0 Q (F0 m 62 ls []) := by
    intro M H locs ls hw hl h
    unfold f_X12_isOwn_62 at h
    refine lv_iconst (v := (nI 0)) hx hb dX12_isOwn_62 (by decide) ?_
    exact hret dX12_isOwn_63 rfl hw h
  unfold f_X12_isOwn at h
  refine lv_aload_n hx hb dX12_isOwn_0 rfl (lv_at hl 0 rfl) ?_
  refine xh_getr C hw 0 0 sM_0 (x_lt hN rfl) rfl rfl rfl lk_RX12_7 dX12_isOwn_1 ?_
  refine lv_bipush (v := (nI 20)) hx hb dX12_isOwn_4 (by decide) ?_
  refine lv_iconst (v := (nI 3)) hx hb dX12_isOwn_6 (by decide) ?_
  refine lv_iload_n hx hb dX12_isOwn_7 rfl (lv_at hl 2 rfl) ?_
  refine lv_imul hx hb dX12_isOwn_8 ?_
  refine lv_iadd hx hb dX12_isOwn_9 ?_
  refine lv_iconst (v := (nI 2)) hx hb dX12_isOwn_10 (by decide) ?_
  refine lv_iadd hx hb dX12_isOwn_11 ?_
  refine xh_iald C hw 1 5512 h sM_1 (x_lt hN rfl) dX12_isOwn_12 (fun r12 h => ?_)
  refine lv_istore (lv' := [(4, .int _), (0, .ref (q 0)), (1, .int _), (2, .int _), (3, .int _)]) hx hb dX12_isOwn_13 hl (by decide) rfl (fun ls hl => ?_)
  refine lv_aload_n hx hb dX12_isOwn_15 rfl (lv_at hl 1 rfl) ?_
  refine xh_getr C hw 0 21 sM_0 (x_lt hN rfl) rfl rfl rfl lk_RX12_31 dX12_isOwn_16 ?_
  refine lv_iload_n hx hb dX12_isOwn_19 rfl (lv_at hl 2 rfl) ?_
  refine xh_iald C hw 8 100 h sM_8 (x_lt hN rfl) dX12_isOwn_20 (fun r20 h => ?_)
  refine lv_iload_n hx hb dX12_isOwn_21 rfl (lv_at hl 3 rfl) ?_
  refine x_icmp_eq (tgt := 58) hx hb h dX12_isOwn_22 (by decide) (fun h => ?_) (fun h => ?_)
  · exact w58 _ _ _ _ hw (lv_sub hl [] rfl) h
  · refine lv_iload_n hx hb dX12_isOwn_25 rfl (lv_at hl 4 rfl) ?_
    refine x_if_eq (tgt := 62) hx hb h dX12_isOwn_26 (by decide) (fun h => ?_) (fun h => ?_)
    · exact w62 _ _ _ _ hw (lv_sub hl [] rfl) h
    · refine lv_iload hx hb dX12_isOwn_29 (lv_at hl 0 rfl) ?_
      refine lv_iconst (v := (-1)) hx hb dX12_isOwn_31 (by decide) ?_
      refine x_icmp_eq (tgt := 62) hx hb h dX12_isOwn_32 (by decide) (fun h => ?_) (fun h => ?_)
      · exact w62 _ _ _ _ hw (lv_sub hl [] rfl) h
      · refine lv_aload_n hx hb dX12_isOwn_35 rfl (lv_at hl 1 rfl) ?_
        refine xh_getr C hw 0 0 sM_0 (x_lt hN rfl) rfl rfl rfl lk_RX12_7 dX12_isOwn_36 ?_
        refine lv_bipush (v := (nI 20)) hx hb dX12_isOwn_39 (by decide) ?_
        refine lv_iconst (v := (nI 3)) hx hb dX12_isOwn_41 (by decide) ?_
        refine lv_aload_n hx hb dX12_isOwn_42 rfl (lv_at hl 1 rfl) ?_
        refine xh_getr C hw 0 21 sM_0 (x_lt hN rfl) rfl rfl rfl lk_RX12_31 dX12_isOwn_43 ?_
        refine lv_iload_n hx hb dX12_isOwn_46 rfl (lv_at hl 2 rfl) ?_
        refine xh_iald C hw 8 100 h sM_8 (x_lt hN rfl) dX12_isOwn_47 (fun r47 h => ?_)
        refine lv_imul hx hb dX12_isOwn_48 ?_
        refine lv_iadd hx hb dX12_isOwn_49 ?_
        refine lv_iconst (v := (nI 2)) hx hb dX12_isOwn_50 (by decide) ?_
        refine lv_iadd hx hb dX12_isOwn_51 ?_
        refine xh_iald C hw 1 5512 h sM_1 (x_lt hN rfl) dX12_isOwn_52 (fun r52 h => ?_)
        refine lv_iload hx hb dX12_isOwn_53 (lv_at hl 0 rfl) ?_
        refine x_icmp_ne (tgt := 62) hx hb h dX12_isOwn_55 (by decide) (fun h => ?_) (fun h => ?_)
        · exact w58 _ _ _ _ hw (lv_sub hl [] rfl) h
        · exact w62 _ _ _ _ hw (lv_sub hl [] rfl) h
def f_X12_there_51 (k6 : x_M → Int32 → Int32 → Int32 → Int64 → Int32 → Option (Int64 × x_M)) (M : x_M) (v1 : Int32) (v2 : Int32) (v3 : Int32) (v6 : Int32) (t0 : Int64) (t1 : Int64) : Option (Int64 × x_M) := k6 M v1 v2 v3 (t0 + t1) (v6 + (nI 1))
def f_X12_there_50 (k6 : x_M → Int32 → Int32 → Int32 → Int64 → Int32 → Option (Int64 × x_M)) (M : x_M) (v1 : Int32) (v2 : Int32) (v3 : Int32) (v6 : Int32) (t0 : Int64) : Option (Int64 × x_M) := f_X12_there_51 k6 M v1 v2 v3 v6 t0 (0 : Int64)
def f_X12_there_6 : Nat → x_M → Int32 → Int32 → Int32 → Int64 → Int32 → Option (Int64 × x_M)
  | 0, _, _, _, _, _, _ => none
  | n + 1, M, v1, v2, v3, v4, v6 => x_gf M 0 24 (fun r9 => if r9 ≤ v6 then some (v4, M) else x_bn (f_X12_isOwn M v6 v1 v3) (fun r22 M => if r22 = 0 then f_X12_there_50 (f_X12_there_6 n) M v1 v2 v3 v6 v4 else x_rd 100 (M 10) v6 (fun r34 => if r34 ≤ v2 then f_X12_there_50 (f_X12_there_6 n) M v1 v2 v3 v6 v4 else x_rd 100 (M 9) v6 (fun r45 => f_X12_there_51 (f_X12_there_6 n) M v1 v2 v3 v6 v4 ((r45).toInt64)))))
theorem f_X12_there_6_0 (M : x_M) (v1 : Int32) (v2 : Int32) (v3 : Int32) (v4 : Int64) (v6 : Int32) : f_X12_there_6 0 M v1 v2 v3 v4 v6 = none := rfl
theorem f_X12_there_6_s (n : Nat) (M : x_M) (v1 : Int32) (v2 : Int32) (v3 : Int32) (v4 : Int64) (v6 : Int32) : f_X12_there_6 (n + 1) M v1 v2 v3 v4 v6 = (x_gf M 0 24 (fun r9 => if r9 ≤ v6 then some (v4, M) else x_bn (f_X12_isOwn M v6 v1 v3) (fun r22 M => if r22 = 0 then f_X12_there_50 (f_X12_there_6 n) M v1 v2 v3 v6 v4 else x_rd 100 (M 10) v6 (fun r34 => if r34 ≤ v2 then f_X12_there_50 (f_X12_there_6 n) M v1 v2 v3 v6 v4 else x_rd 100 (M 9) v6 (fun r45 => f_X12_there_51 (f_X12_there_6 n) M v1 v2 v3 v6 v4 ((r45).toInt64)))))) := rfl
def f_X12_there (M : x_M) (a1 : Int32) (a2 : Int32) (a3 : Int32) : Option (Int64 × x_M) := f_X12_there_6 x_FU M a1 a2 a3 (0 : Int64) (nI 0)
abbrev rm_X12_there : Room := { frames := 1, cells := 0, slots := 0, locals := 24 }
set_option maxHeartbeats 4000000 in
set_option maxRecDepth 100000 in
theorem c_X12_there {l : Launch} {D : va_G} {cy : Nat → ClassId} {q ad : Nat → Nat} {s0 : State} (hq : x_Q q 24 s0.heap.size) {M : x_M} {a1 : Int32} {a2 : Int32} {a3 : Int32} {z : Int64 × x_M} (h : f_X12_there M a1 a2 a3 = some z) : x_Cl l D cy q ad x_spM 24 s0 yX12_there (x_uw yX12_there cX12_there 7 (some .long)) rm_X12_there [.ref (q 0), .int a1, .int a2, .int a3] M z.1 z.2 := by
  have hN : 24 ≤ 24 := Nat.le_refl _
  refine x_metl hq (by decide) (Nat.le_of_ble_eq_true rfl) ?_
  intro p e s m args below meth c ls Q C hret hl hw
  have hx := C.1.1
  have hb := C.1.2.1
  have ho := C.1.2.2.2.1
  have hL := C.1.2.2.2.2
  have hl : lv_has ls 7 [(0, .ref (q 0)), (1, .int a1), (2, .int a2), (3, .int a3)] := hl
  have w6 : ∀ (n : Nat) (M : x_M) (v1 : Int32) (v2 : Int32) (v3 : Int32) (v4 : Int64) (v6 : Int32) (H : Heap) (locs : List Loc) (ls : Array Slot), x_B D cy q ad x_spM 24 s H locs M → lv_has ls 7 [(0, .ref (q 0)), (1, .int v1), (2, .int v2), (3, .int v3), (4, .long v4), (6, .int v6)] → f_X12_there_6 n M v1 v2 v3 v4 v6 = some z → W p l e rm_X12_there s m args below meth c H locs 0 0 Q (F0 m 6 ls []) := by
    intro n
    induction n with
    | zero =>
      intro M v1 v2 v3 v4 v6 H locs ls hw hl h
      rw [f_X12_there_6_0] at h
      cases h
    | succ n6 ih6 =>
      have w51 : ∀ (M : x_M) (v1 : Int32) (v2 : Int32) (v3 : Int32) (v6 : Int32) (t0 : Int64) (t1 : Int64) (H : Heap) (locs : List Loc) (ls : Array Slot), x_B D cy q ad x_spM 24 s H locs M → lv_has ls 7 [(0, .ref (q 0)), (1, .int v1), (2, .int v2), (3, .int v3), (6, .int v6)] → f_X12_there_51 (f_X12_there_6 n6) M v1 v2 v3 v6 t0 t1 = some z → W p l e rm_X12_there s m args below meth c H locs 0 0 Q (F0 m 51 ls [.long t1, .long t0]) := by
        intro M v1 v2 v3 v6 t0 t1 H locs ls hw hl h
        unfold f_X12_there_51 at h
        refine lv_ladd hx hb dX12_there_51 ?_
        refine lv_lstore (lv' := [(4, .long _), (0, .ref (q 0)), (1, .int _), (2, .int _), (3, .int _), (6, .int _)]) hx hb dX12_there_52 hl (by decide) rfl (fun ls hl => ?_)
        refine lv_iinc (lv' := [(6, .int _), (4, .long _), (0, .ref (q 0)), (1, .int _), (2, .int _), (3, .int _)]) hx hb dX12_there_54 hl (k := 5) rfl (x_inc (show Int32.ofInt 1 = (nI 1) by decide) _) (by decide) rfl (fun ls hl => ?_)
        refine lv_goto (tgt := 6) hx hb dX12_there_57 (by decide) ?_
        exact ih6 _ _ _ _ _ _ _ _ _ hw (lv_sub hl [2, 3, 4, 5, 1, 0] rfl) h
      have w50 : ∀ (M : x_M) (v1 : Int32) (v2 : Int32) (v3 : Int32) (v6 : Int32) (t0 : Int64) (H : Heap) (locs : List Loc) (ls : Array Slot), x_B D cy q ad x_spM 24 s H locs M → lv_has ls 7 [(0, .ref (q 0)), (1, .int v1), (2, .int v2), (3, .int v3), (6, .int v6)] → f_X12_there_50 (f_X12_there_6 n6) M v1 v2 v3 v6 t0 = some z → W p l e rm_X12_there s m args below meth c H locs 0 0 Q (F0 m 50 ls [.long t0]) := by
        intro M v1 v2 v3 v6 t0 H locs ls hw hl h
        unfold f_X12_there_50 at h
        refine lv_lconst (v := 0) hx hb dX12_there_50 (by decide) ?_
        exact w51 _ _ _ _ _ _ _ _ _ _ hw (lv_sub hl [0, 1, 2, 3, 4] rfl) h
      intro M v1 v2 v3 v4 v6 H locs ls hw hl h
      rw [f_X12_there_6_s] at h
      refine lv_iload hx hb dX12_there_6 (lv_at hl 5 rfl) ?_
      refine lv_aload_n hx hb dX12_there_8 rfl (lv_at hl 0 rfl) ?_
      refine xh_geti C hw 0 24 h sM_0 (x_lt hN rfl) rfl rfl rfl lk_RX12_212 dX12_there_9 (fun r9 h => ?_)
      refine x_icmp_ge (tgt := 60) hx hb h dX12_there_12 (by decide) (fun h => ?_) (fun h => ?_)
      · refine lv_lload hx hb dX12_there_60 (lv_at hl 4 rfl) ?_
        exact hret dX12_there_62 hw h
      · refine lv_lload hx hb dX12_there_15 (lv_at hl 4 rfl) ?_
        refine lv_aload_n hx hb dX12_there_17 rfl (lv_at hl 0 rfl) ?_
        refine lv_iload hx hb dX12_there_18 (lv_at hl 5 rfl) ?_
        refine lv_iload_n hx hb dX12_there_20 rfl (lv_at hl 1 rfl) ?_
        refine lv_iload_n hx hb dX12_there_21 rfl (lv_at hl 3 rfl) ?_
        refine xh_cVi C hw (rest := [_]) h (fun _ hy => c_X12_isOwn hq hy) ml_RX12_234 mv_X12_isOwn sM_0 (x_lt hN rfl) rfl ⟨rfl, rfl, by decide, by decide⟩ rfl hl.1 rfl (Nat.le_of_ble_eq_true rfl) dX12_there_22 (fun H locs r22 M hw h => ?_)
        refine x_if_eq (tgt := 50) hx hb h dX12_there_25 (by decide) (fun h => ?_) (fun h => ?_)
        · exact w50 _ _ _ _ _ _ _ _ _ hw (lv_sub hl [0, 1, 2, 3, 5] rfl) h
        · refine lv_aload_n hx hb dX12_there_28 rfl (lv_at hl 0 rfl) ?_
          refine xh_getr C hw 0 23 sM_0 (x_lt hN rfl) rfl rfl rfl lk_RX12_37 dX12_there_29 ?_
          refine lv_iload hx hb dX12_there_32 (lv_at hl 5 rfl) ?_
          refine xh_iald C hw 10 100 h sM_10 (x_lt hN rfl) dX12_there_34 (fun r34 h => ?_)
          refine lv_iload_n hx hb dX12_there_35 rfl (lv_at hl 2 rfl) ?_
          refine x_icmp_le (tgt := 50) hx hb h dX12_there_36 (by decide) (fun h => ?_) (fun h => ?_)
          · exact w50 _ _ _ _ _ _ _ _ _ hw (lv_sub hl [0, 1, 2, 3, 5] rfl) h
          · refine lv_aload_n hx hb dX12_there_39 rfl (lv_at hl 0 rfl) ?_
            refine xh_getr C hw 0 22 sM_0 (x_lt hN rfl) rfl rfl rfl lk_RX12_34 dX12_there_40 ?_
            refine lv_iload hx hb dX12_there_43 (lv_at hl 5 rfl) ?_
            refine xh_iald C hw 9 100 h sM_9 (x_lt hN rfl) dX12_there_45 (fun r45 h => ?_)
            refine lv_i2l hx hb dX12_there_46 rfl ?_
            refine lv_goto (tgt := 51) hx hb dX12_there_47 (by decide) ?_
            exact w51 _ _ _ _ _ _ _ _ _ _ hw (lv_sub hl [0, 1, 2, 3, 5] rfl) h
  unfold f_X12_there at h
  refine lv_lconst (v := 0) hx hb dX12_there_0 (by decide) ?_
  refine lv_lstore (lv' := [(4, .long _), (0, .ref (q 0)), (1, .int _), (2, .int _), (3, .int _)]) hx hb dX12_there_1 hl (by decide) rfl (fun ls hl => ?_)
  refine lv_iconst (v := (nI 0)) hx hb dX12_there_3 (by decide) ?_
  refine lv_istore (lv' := [(6, .int _), (4, .long _), (0, .ref (q 0)), (1, .int _), (2, .int _), (3, .int _)]) hx hb dX12_there_4 hl (by decide) rfl (fun ls hl => ?_)
  exact w6 _ _ _ _ _ _ _ _ _ _ hw (lv_sub hl [2, 3, 4, 5, 1, 0] rfl) h
def f_X12_takes_140 (k6 : x_M → Int32 → Int32 → Int32 → Int32 → Int32 → Option (Int32 × x_M)) (k17 : x_M → Int32 → Int32 → Int32 → Int32 → Int32 → Int32 → Int32 → Option (Int32 × x_M)) (M : x_M) (v1 : Int32) (v2 : Int32) (v4 : Int32) (v5 : Int32) (v6 : Int32) (v7 : Int32) (v8 : Int32) : Option (Int32 × x_M) := k17 M v1 v2 v4 v5 v6 v7 (v8 + (nI 1))
def f_X12_takes_138 (k6 : x_M → Int32 → Int32 → Int32 → Int32 → Int32 → Option (Int32 × x_M)) (k17 : x_M → Int32 → Int32 → Int32 → Int32 → Int32 → Int32 → Int32 → Option (Int32 × x_M)) (M : x_M) (v1 : Int32) (v2 : Int32) (v4 : Int32) (v5 : Int32) (v6 : Int32) (v8 : Int32) (t0 : Int32) : Option (Int32 × x_M) := f_X12_takes_140 k6 k17 M v1 v2 v4 v5 v6 t0 v8
def f_X12_takes_124 (k6 : x_M → Int32 → Int32 → Int32 → Int32 → Int32 → Option (Int32 × x_M)) (k17 : x_M → Int32 → Int32 → Int32 → Int32 → Int32 → Int32 → Int32 → Option (Int32 × x_M)) (M : x_M) (v1 : Int32) (v2 : Int32) (v4 : Int32) (v5 : Int32) (v6 : Int32) (v7 : Int32) (v8 : Int32) (t0 : Int32) : Option (Int32 × x_M) := if t0 = 0 then f_X12_takes_138 k6 k17 M v1 v2 v4 v5 v6 v8 v7 else f_X12_takes_138 k6 k17 M v1 v2 v4 v5 v6 v8 v8
def f_X12_takes_119 (k6 : x_M → Int32 → Int32 → Int32 → Int32 → Int32 → Option (Int32 × x_M)) (k17 : x_M → Int32 → Int32 → Int32 → Int32 → Int32 → Int32 → Int32 → Option (Int32 × x_M)) (M : x_M) (v1 : Int32) (v2 : Int32) (v4 : Int32) (v5 : Int32) (v6 : Int32) (v7 : Int32) (v8 : Int32) : Option (Int32 × x_M) := f_X12_takes_124 k6 k17 M v1 v2 v4 v5 v6 v7 v8 (nI 1)
def f_X12_takes_123 (k6 : x_M → Int32 → Int32 → Int32 → Int32 → Int32 → Option (Int32 × x_M)) (k17 : x_M → Int32 → Int32 → Int32 → Int32 → Int32 → Int32 → Int32 → Option (Int32 × x_M)) (M : x_M) (v1 : Int32) (v2 : Int32) (v4 : Int32) (v5 : Int32) (v6 : Int32) (v7 : Int32) (v8 : Int32) : Option (Int32 × x_M) := f_X12_takes_124 k6 k17 M v1 v2 v4 v5 v6 v7 v8 (nI 0)
def f_X12_takes_197 (k6 : x_M → Int32 → Int32 → Int32 → Int32 → Int32 → Option (Int32 × x_M)) (M : x_M) (v1 : Int32) (v2 : Int32) (v4 : Int32) (v5 : Int32) (t0 : Int32) : Option (Int32 × x_M) := k6 M v1 v2 v4 v5 t0
def f_X12_takes_17 (k6 : x_M → Int32 → Int32 → Int32 → Int32 → Int32 → Option (Int32 × x_M)) : Nat → x_M → Int32 → Int32 → Int32 → Int32 → Int32 → Int32 → Int32 → Option (Int32 × x_M)
  | 0, _, _, _, _, _, _, _, _ => none
  | n + 1, M, v1, v2, v4, v5, v6, v7, v8 => x_gf M 0 24 (fun r20 => if r20 ≤ v8 then x_rd 100 (M 9) v7 (fun r154 => x_bn (f_X12_less M v5 r154) (fun r155 M => x_rd 100 (M 9) v7 (fun r167 => x_wr 100 M 9 v7 (r167 - r155) (fun M => if v6 = (-1) then x_rd 100 (M 10) v7 (fun r191 => f_X12_takes_197 k6 M v1 v2 v4 (v5 - r155) r191) else f_X12_takes_197 k6 M v1 v2 v4 (v5 - r155) v6)))) else x_bn (f_X12_isOwn M v8 v1 v4) (fun r32 M => if r32 = 0 then f_X12_takes_140 k6 (f_X12_takes_17 k6 n) M v1 v2 v4 v5 v6 v7 v8 else x_rd 100 (M 10) v8 (fun r44 => if r44 ≤ v2 then f_X12_takes_140 k6 (f_X12_takes_17 k6 n) M v1 v2 v4 v5 v6 v7 v8 else x_rd 100 (M 9) v8 (fun r55 => if r55 = 0 then f_X12_takes_140 k6 (f_X12_takes_17 k6 n) M v1 v2 v4 v5 v6 v7 v8 else if v7 = (-1) then f_X12_takes_119 k6 (f_X12_takes_17 k6 n) M v1 v2 v4 v5 v6 v7 v8 else x_rd 100 (M 10) v8 (fun r74 => x_rd 100 (M 10) v7 (fun r81 => if r74 < r81 then f_X12_takes_119 k6 (f_X12_takes_17 k6 n) M v1 v2 v4 v5 v6 v7 v8 else x_rd 100 (M 10) v8 (fun r91 => x_rd 100 (M 10) v7 (fun r98 => if r91 = r98 then x_rd 100 (M 8) v8 (fun r108 => x_rd 100 (M 8) v7 (fun r115 => if r115 ≤ r108 then f_X12_takes_123 k6 (f_X12_takes_17 k6 n) M v1 v2 v4 v5 v6 v7 v8 else f_X12_takes_119 k6 (f_X12_takes_17 k6 n) M v1 v2 v4 v5 v6 v7 v8)) else f_X12_takes_123 k6 (f_X12_takes_17 k6 n) M v1 v2 v4 v5 v6 v7 v8))))))))
theorem f_X12_takes_17_0 (k6 : x_M → Int32 → Int32 → Int32 → Int32 → Int32 → Option (Int32 × x_M)) (M : x_M) (v1 : Int32) (v2 : Int32) (v4 : Int32) (v5 : Int32) (v6 : Int32) (v7 : Int32) (v8 : Int32) : f_X12_takes_17 k6 0 M v1 v2 v4 v5 v6 v7 v8 = none := rfl
theorem f_X12_takes_17_s (k6 : x_M → Int32 → Int32 → Int32 → Int32 → Int32 → Option (Int32 × x_M)) (n : Nat) (M : x_M) (v1 : Int32) (v2 : Int32) (v4 : Int32) (v5 : Int32) (v6 : Int32) (v7 : Int32) (v8 : Int32) : f_X12_takes_17 k6 (n + 1) M v1 v2 v4 v5 v6 v7 v8 = (x_gf M 0 24 (fun r20 => if r20 ≤ v8 then x_rd 100 (M 9) v7 (fun r154 => x_bn (f_X12_less M v5 r154) (fun r155 M => x_rd 100 (M 9) v7 (fun r167 => x_wr 100 M 9 v7 (r167 - r155) (fun M => if v6 = (-1) then x_rd 100 (M 10) v7 (fun r191 => f_X12_takes_197 k6 M v1 v2 v4 (v5 - r155) r191) else f_X12_takes_197 k6 M v1 v2 v4 (v5 - r155) v6)))) else x_bn (f_X12_isOwn M v8 v1 v4) (fun r32 M => if r32 = 0 then f_X12_takes_140 k6 (f_X12_takes_17 k6 n) M v1 v2 v4 v5 v6 v7 v8 else x_rd 100 (M 10) v8 (fun r44 => if r44 ≤ v2 then f_X12_takes_140 k6 (f_X12_takes_17 k6 n) M v1 v2 v4 v5 v6 v7 v8 else x_rd 100 (M 9) v8 (fun r55 => if r55 = 0 then f_X12_takes_140 k6 (f_X12_takes_17 k6 n) M v1 v2 v4 v5 v6 v7 v8 else if v7 = (-1) then f_X12_takes_119 k6 (f_X12_takes_17 k6 n) M v1 v2 v4 v5 v6 v7 v8 else x_rd 100 (M 10) v8 (fun r74 => x_rd 100 (M 10) v7 (fun r81 => if r74 < r81 then f_X12_takes_119 k6 (f_X12_takes_17 k6 n) M v1 v2 v4 v5 v6 v7 v8 else x_rd 100 (M 10) v8 (fun r91 => x_rd 100 (M 10) v7 (fun r98 => if r91 = r98 then x_rd 100 (M 8) v8 (fun r108 => x_rd 100 (M 8) v7 (fun r115 => if r115 ≤ r108 then f_X12_takes_123 k6 (f_X12_takes_17 k6 n) M v1 v2 v4 v5 v6 v7 v8 else f_X12_takes_119 k6 (f_X12_takes_17 k6 n) M v1 v2 v4 v5 v6 v7 v8)) else f_X12_takes_123 k6 (f_X12_takes_17 k6 n) M v1 v2 v4 v5 v6 v7 v8))))))))) := rfl
def f_X12_takes_6 : Nat → x_M → Int32 → Int32 → Int32 → Int32 → Int32 → Option (Int32 × x_M)
  | 0, _, _, _, _, _, _ => none
  | n + 1, M, v1, v2, v4, v5, v6 => if v5 ≤ 0 then some (v6, M) else f_X12_takes_17 (f_X12_takes_6 n) x_FU M v1 v2 v4 v5 v6 (-1) (nI 0)
theorem f_X12_takes_6_0 (M : x_M) (v1 : Int32) (v2 : Int32) (v4 : Int32) (v5 : Int32) (v6 : Int32) : f_X12_takes_6 0 M v1 v2 v4 v5 v6 = none := rfl
theorem f_X12_takes_6_s (n : Nat) (M : x_M) (v1 : Int32) (v2 : Int32) (v4 : Int32) (v5 : Int32) (v6 : Int32) : f_X12_takes_6 (n + 1) M v1 v2 v4 v5 v6 = (if v5 ≤ 0 then some (v6, M) else f_X12_takes_17 (f_X12_takes_6 n) x_FU M v1 v2 v4 v5 v6 (-1) (nI 0)) := rfl
def f_X12_takes (M : x_M) (a1 : Int32) (a2 : Int32) (a3 : Int32) (a4 : Int32) : Option (Int32 × x_M) := f_X12_takes_6 x_FU M a1 a2 a4 a3 (-1)
abbrev rm_X12_takes : Room := { frames := 1, cells := 0, slots := 0, locals := 24 }
set_option maxHeartbeats 4000000 in
set_option maxRecDepth 100000 in
theorem c_X12_takes {l : Launch} {D : va_G} {cy : Nat → ClassId} {q ad : Nat → Nat} {s0 : State} (hq : x_Q q 24 s0.heap.size) {M : x_M} {a1 : Int32} {a2 : Int32} {a3 : Int32} {a4 : Int32} {z : Int32 × x_M} (h : f_X12_takes M a1 a2 a3 a4 = some z) : x_Ci l D cy q ad x_spM 24 s0 yX12_takes (x_uw yX12_takes cX12_takes 10 (some .int)) rm_X12_takes [.ref (q 0), .int a1, .int a2, .int a3, .int a4] M z.1 z.2 := by
  have hN : 24 ≤ 24 := Nat.le_refl _
  refine x_meti hq (by decide) (Nat.le_of_ble_eq_true rfl) ?_
  intro p e s m args below meth c ls Q C hret hl hw
  have hx := C.1.1
  have hb := C.1.2.1
  have ho := C.1.2.2.2.1
  have hL := C.1.2.2.2.2
  have hl : lv_has ls 10 [(0, .ref (q 0)), (1, .int a1), (2, .int a2), (3, .int a3), (4, .int a4)] := hl
  have w6 : ∀ (n : Nat) (M : x_M) (v1 : Int32) (v2 : Int32) (v4 : Int32) (v5 : Int32) (v6 : Int32) (H : Heap) (locs : List Loc) (ls : Array Slot), x_B D cy q ad x_spM 24 s H locs M → lv_has ls 10 [(0, .ref (q 0)), (1, .int v1), (2, .int v2), (4, .int v4), (5, .int v5), (6, .int v6)] → f_X12_takes_6 n M v1 v2 v4 v5 v6 = some z → W p l e rm_X12_takes s m args below meth c H locs 0 0 Q (F0 m 6 ls []) := by
    intro n
    induction n with
    | zero =>
      intro M v1 v2 v4 v5 v6 H locs ls hw hl h
      rw [f_X12_takes_6_0] at h
      cases h
    | succ n6 ih6 =>
      have w17 : ∀ (n : Nat) (M : x_M) (v1 : Int32) (v2 : Int32) (v4 : Int32) (v5 : Int32) (v6 : Int32) (v7 : Int32) (v8 : Int32) (H : Heap) (locs : List Loc) (ls : Array Slot), x_B D cy q ad x_spM 24 s H locs M → lv_has ls 10 [(0, .ref (q 0)), (1, .int v1), (2, .int v2), (4, .int v4), (5, .int v5), (6, .int v6), (7, .int v7), (8, .int v8)] → f_X12_takes_17 (f_X12_takes_6 n6) n M v1 v2 v4 v5 v6 v7 v8 = some z → W p l e rm_X12_takes s m args below meth c H locs 0 0 Q (F0 m 17 ls []) := by
        intro n
        induction n with
        | zero =>
          intro M v1 v2 v4 v5 v6 v7 v8 H locs ls hw hl h
          rw [f_X12_takes_17_0] at h
          cases h
        | succ n17 ih17 =>
          have w140 : ∀ (M : x_M) (v1 : Int32) (v2 : Int32) (v4 : Int32) (v5 : Int32) (v6 : Int32) (v7 : Int32) (v8 : Int32) (H : Heap) (locs : List Loc) (ls : Array Slot), x_B D cy q ad x_spM 24 s H locs M → lv_has ls 10 [(0, .ref (q 0)), (1, .int v1), (2, .int v2), (4, .int v4), (5, .int v5), (6, .int v6), (7, .int v7), (8, .int v8)] → f_X12_takes_140 (f_X12_takes_6 n6) (f_X12_takes_17 (f_X12_takes_6 n6) n17) M v1 v2 v4 v5 v6 v7 v8 = some z → W p l e rm_X12_takes s m args below meth c H locs 0 0 Q (F0 m 140 ls []) := by
            intro M v1 v2 v4 v5 v6 v7 v8 H locs ls hw hl h
            unfold f_X12_takes_140 at h
            refine lv_iinc (lv' := [(8, .int _), (0, .ref (q 0)), (1, .int _), (2, .int _), (4, .int _), (5, .int _), (6, .int _), (7, .int _)]) hx hb dX12_takes_140 hl (k := 7) rfl (x_inc (show Int32.ofInt 1 = (nI 1) by decide) _) (by decide) rfl (fun ls hl => ?_)
            refine lv_goto (tgt := 17) hx hb dX12_takes_143 (by decide) ?_
            exact ih17 _ _ _ _ _ _ _ _ _ _ _ hw (lv_sub hl [1, 2, 3, 4, 5, 6, 7, 0] rfl) h
          have w124 : ∀ (M : x_M) (v1 : Int32) (v2 : Int32) (v4 : Int32) (v5 : Int32) (v6 : Int32) (v7 : Int32) (v8 : Int32) (t0 : Int32) (H : Heap) (locs : List Loc) (ls : Array Slot), x_B D cy q ad x_spM 24 s H locs M → lv_has ls 10 [(0, .ref (q 0)), (1, .int v1), (2, .int v2), (4, .int v4), (5, .int v5), (6, .int v6), (7, .int v7), (8, .int v8)] → f_X12_takes_124 (f_X12_takes_6 n6) (f_X12_takes_17 (f_X12_takes_6 n6) n17) M v1 v2 v4 v5 v6 v7 v8 t0 = some z → W p l e rm_X12_takes s m args below meth c H locs 0 0 Q (F0 m 124 ls [.int t0]) := by
            have w138 : ∀ (M : x_M) (v1 : Int32) (v2 : Int32) (v4 : Int32) (v5 : Int32) (v6 : Int32) (v8 : Int32) (t0 : Int32) (H : Heap) (locs : List Loc) (ls : Array Slot), x_B D cy q ad x_spM 24 s H locs M → lv_has ls 10 [(0, .ref (q 0)), (1, .int v1), (2, .int v2), (4, .int v4), (5, .int v5), (6, .int v6), (8, .int v8)] → f_X12_takes_138 (f_X12_takes_6 n6) (f_X12_takes_17 (f_X12_takes_6 n6) n17) M v1 v2 v4 v5 v6 v8 t0 = some z → W p l e rm_X12_takes s m args below meth c H locs 0 0 Q (F0 m 138 ls [.int t0]) := by
              intro M v1 v2 v4 v5 v6 v8 t0 H locs ls hw hl h
              unfold f_X12_takes_138 at h
              refine lv_istore (lv' := [(7, .int _), (0, .ref (q 0)), (1, .int _), (2, .int _), (4, .int _), (5, .int _), (6, .int _), (8, .int _)]) hx hb dX12_takes_138 hl (by decide) rfl (fun ls hl => ?_)
              exact w140 _ _ _ _ _ _ _ _ _ _ _ hw (lv_sub hl [1, 2, 3, 4, 5, 6, 0, 7] rfl) h
            intro M v1 v2 v4 v5 v6 v7 v8 t0 H locs ls hw hl h
            unfold f_X12_takes_124 at h
            refine lv_istore (lv' := [(9, .int _), (0, .ref (q 0)), (1, .int _), (2, .int _), (4, .int _), (5, .int _), (6, .int _), (7, .int _), (8, .int _)]) hx hb dX12_takes_124 hl (by decide) rfl (fun ls hl => ?_)
            refine lv_iload hx hb dX12_takes_126 (lv_at hl 0 rfl) ?_
            refine x_if_eq (tgt := 136) hx hb h dX12_takes_128 (by decide) (fun h => ?_) (fun h => ?_)
            · refine lv_iload hx hb dX12_takes_136 (lv_at hl 7 rfl) ?_
              exact w138 _ _ _ _ _ _ _ _ _ _ _ hw (lv_sub hl [1, 2, 3, 4, 5, 6, 8] rfl) h
            · refine lv_iload hx hb dX12_takes_131 (lv_at hl 8 rfl) ?_
              refine lv_goto (tgt := 138) hx hb dX12_takes_133 (by decide) ?_
              exact w138 _ _ _ _ _ _ _ _ _ _ _ hw (lv_sub hl [1, 2, 3, 4, 5, 6, 8] rfl) h
          have w119 : ∀ (M : x_M) (v1 : Int32) (v2 : Int32) (v4 : Int32) (v5 : Int32) (v6 : Int32) (v7 : Int32) (v8 : Int32) (H : Heap) (locs : List Loc) (ls : Array Slot), x_B D cy q ad x_spM 24 s H locs M → lv_has ls 10 [(0, .ref (q 0)), (1, .int v1), (2, .int v2), (4, .int v4), (5, .int v5), (6, .int v6), (7, .int v7), (8, .int v8)] → f_X12_takes_119 (f_X12_takes_6 n6) (f_X12_takes_17 (f_X12_takes_6 n6) n17) M v1 v2 v4 v5 v6 v7 v8 = some z → W p l e rm_X12_takes s m args below meth c H locs 0 0 Q (F0 m 119 ls []) := by
            intro M v1 v2 v4 v5 v6 v7 v8 H locs ls hw hl h
            unfold f_X12_takes_119 at h
            refine lv_iconst (v := (nI 1)) hx hb dX12_takes_119 (by decide) ?_
            refine lv_goto (tgt := 124) hx hb dX12_takes_120 (by decide) ?_
            exact w124 _ _ _ _ _ _ _ _ _ _ _ _ hw (lv_sub hl [0, 1, 2, 3, 4, 5, 6, 7] rfl) h
          have w123 : ∀ (M : x_M) (v1 : Int32) (v2 : Int32) (v4 : Int32) (v5 : Int32) (v6 : Int32) (v7 : Int32) (v8 : Int32) (H : Heap) (locs : List Loc) (ls : Array Slot), x_B D cy q ad x_spM 24 s H locs M → lv_has ls 10 [(0, .ref (q 0)), (1, .int v1), (2, .int v2), (4, .int v4), (5, .int v5), (6, .int v6), (7, .int v7), (8, .int v8)] → f_X12_takes_123 (f_X12_takes_6 n6) (f_X12_takes_17 (f_X12_takes_6 n6) n17) M v1 v2 v4 v5 v6 v7 v8 = some z → W p l e rm_X12_takes s m args below meth c H locs 0 0 Q (F0 m 123 ls []) := by
            intro M v1 v2 v4 v5 v6 v7 v8 H locs ls hw hl h
            unfold f_X12_takes_123 at h
            refine lv_iconst (v := (nI 0)) hx hb dX12_takes_123 (by decide) ?_
            exact w124 _ _ _ _ _ _ _ _ _ _ _ _ hw (lv_sub hl [0, 1, 2, 3, 4, 5, 6, 7] rfl) h
          have w197 : ∀ (M : x_M) (v1 : Int32) (v2 : Int32) (v4 : Int32) (v5 : Int32) (t0 : Int32) (H : Heap) (locs : List Loc) (ls : Array Slot), x_B D cy q ad x_spM 24 s H locs M → lv_has ls 10 [(0, .ref (q 0)), (1, .int v1), (2, .int v2), (4, .int v4), (5, .int v5)] → f_X12_takes_197 (f_X12_takes_6 n6) M v1 v2 v4 v5 t0 = some z → W p l e rm_X12_takes s m args below meth c H locs 0 0 Q (F0 m 197 ls [.int t0]) := by
            intro M v1 v2 v4 v5 t0 H locs ls hw hl h
            unfold f_X12_takes_197 at h
            refine lv_istore (lv' := [(6, .int _), (0, .ref (q 0)), (1, .int _), (2, .int _), (4, .int _), (5, .int _)]) hx hb dX12_takes_197 hl (by decide) rfl (fun ls hl => ?_)
            refine lv_goto (tgt := 6) hx hb dX12_takes_199 (by decide) ?_
            exact ih6 _ _ _ _ _ _ _ _ _ hw (lv_sub hl [1, 2, 3, 4, 5, 0] rfl) h
          intro M v1 v2 v4 v5 v6 v7 v8 H locs ls hw hl h
          rw [f_X12_takes_17_s] at h
          refine lv_iload hx hb dX12_takes_17 (lv_at hl 7 rfl) ?_
          refine lv_aload_n hx hb dX12_takes_19 rfl (lv_at hl 0 rfl) ?_
          refine xh_geti C hw 0 24 h sM_0 (x_lt hN rfl) rfl rfl rfl lk_RX12_212 dX12_takes_20 (fun r20 h => ?_)
          refine x_icmp_ge (tgt := 146) hx hb h dX12_takes_23 (by decide) (fun h => ?_) (fun h => ?_)
          · refine lv_iload hx hb dX12_takes_146 (lv_at hl 4 rfl) ?_
            refine lv_aload_n hx hb dX12_takes_148 rfl (lv_at hl 0 rfl) ?_
            refine xh_getr C hw 0 22 sM_0 (x_lt hN rfl) rfl rfl rfl lk_RX12_34 dX12_takes_149 ?_
            refine lv_iload hx hb dX12_takes_152 (lv_at hl 6 rfl) ?_
            refine xh_iald C hw 9 100 h sM_9 (x_lt hN rfl) dX12_takes_154 (fun r154 h => ?_)
            refine xh_cSi C hw (rest := []) h (fun _ hy => c_X12_less hq hy) ml_RX12_96 st_X12_less ⟨rfl, rfl, by decide, by decide⟩ rfl hl.1 rfl (Nat.le_of_ble_eq_true rfl) dX12_takes_155 (fun H locs r155 M hw h => ?_)
            refine lv_istore (lv' := [(8, .int _), (0, .ref (q 0)), (1, .int _), (2, .int _), (4, .int _), (5, .int _), (6, .int _), (7, .int _)]) hx hb dX12_takes_158 hl (by decide) rfl (fun ls hl => ?_)
            refine lv_aload_n hx hb dX12_takes_160 rfl (lv_at hl 1 rfl) ?_
            refine xh_getr C hw 0 22 sM_0 (x_lt hN rfl) rfl rfl rfl lk_RX12_34 dX12_takes_161 ?_
            refine lv_iload hx hb dX12_takes_164 (lv_at hl 7 rfl) ?_
            refine lv_dup2_11 hx hb dX12_takes_166 rfl rfl ?_
            refine xh_iald C hw 9 100 h sM_9 (x_lt hN rfl) dX12_takes_167 (fun r167 h => ?_)
            refine lv_iload hx hb dX12_takes_168 (lv_at hl 0 rfl) ?_
            refine lv_isub hx hb dX12_takes_170 ?_
            refine xh_iast C hw 9 100 h sM_9 (x_lt hN rfl) dX12_takes_171 (fun H locs M hw h => ?_)
            refine lv_iload hx hb dX12_takes_172 (lv_at hl 5 rfl) ?_
            refine lv_iload hx hb dX12_takes_174 (lv_at hl 0 rfl) ?_
            refine lv_isub hx hb dX12_takes_176 ?_
            refine lv_istore (lv' := [(5, .int _), (8, .int _), (0, .ref (q 0)), (1, .int _), (2, .int _), (4, .int _), (6, .int _), (7, .int _)]) hx hb dX12_takes_177 hl (by decide) rfl (fun ls hl => ?_)
            refine lv_iload hx hb dX12_takes_179 (lv_at hl 6 rfl) ?_
            refine lv_iconst (v := (-1)) hx hb dX12_takes_181 (by decide) ?_
            refine x_icmp_ne (tgt := 195) hx hb h dX12_takes_182 (by decide) (fun h => ?_) (fun h => ?_)
            · refine lv_aload_n hx hb dX12_takes_185 rfl (lv_at hl 2 rfl) ?_
              refine xh_getr C hw 0 23 sM_0 (x_lt hN rfl) rfl rfl rfl lk_RX12_37 dX12_takes_186 ?_
              refine lv_iload hx hb dX12_takes_189 (lv_at hl 7 rfl) ?_
              refine xh_iald C hw 10 100 h sM_10 (x_lt hN rfl) dX12_takes_191 (fun r191 h => ?_)
              refine lv_goto (tgt := 197) hx hb dX12_takes_192 (by decide) ?_
              exact w197 _ _ _ _ _ _ _ _ _ hw (lv_sub hl [2, 3, 4, 5, 0] rfl) h
            · refine lv_iload hx hb dX12_takes_195 (lv_at hl 6 rfl) ?_
              exact w197 _ _ _ _ _ _ _ _ _ hw (lv_sub hl [2, 3, 4, 5, 0] rfl) h
          · refine lv_aload_n hx hb dX12_takes_26 rfl (lv_at hl 0 rfl) ?_
            refine lv_iload hx hb dX12_takes_27 (lv_at hl 7 rfl) ?_
            refine lv_iload_n hx hb dX12_takes_29 rfl (lv_at hl 1 rfl) ?_
            refine lv_iload hx hb dX12_takes_30 (lv_at hl 3 rfl) ?_
            refine xh_cVi C hw (rest := []) h (fun _ hy => c_X12_isOwn hq hy) ml_RX12_234 mv_X12_isOwn sM_0 (x_lt hN rfl) rfl ⟨rfl, rfl, by decide, by decide⟩ rfl hl.1 rfl (Nat.le_of_ble_eq_true rfl) dX12_takes_32 (fun H locs r32 M hw h => ?_)
            refine x_if_eq (tgt := 140) hx hb h dX12_takes_35 (by decide) (fun h => ?_) (fun h => ?_)
            · exact w140 _ _ _ _ _ _ _ _ _ _ _ hw (lv_sub hl [0, 1, 2, 3, 4, 5, 6, 7] rfl) h
            · refine lv_aload_n hx hb dX12_takes_38 rfl (lv_at hl 0 rfl) ?_
              refine xh_getr C hw 0 23 sM_0 (x_lt hN rfl) rfl rfl rfl lk_RX12_37 dX12_takes_39 ?_
              refine lv_iload hx hb dX12_takes_42 (lv_at hl 7 rfl) ?_
              refine xh_iald C hw 10 100 h sM_10 (x_lt hN rfl) dX12_takes_44 (fun r44 h => ?_)
              refine lv_iload_n hx hb dX12_takes_45 rfl (lv_at hl 2 rfl) ?_
              refine x_icmp_le (tgt := 140) hx hb h dX12_takes_46 (by decide) (fun h => ?_) (fun h => ?_)
              · exact w140 _ _ _ _ _ _ _ _ _ _ _ hw (lv_sub hl [0, 1, 2, 3, 4, 5, 6, 7] rfl) h
              · refine lv_aload_n hx hb dX12_takes_49 rfl (lv_at hl 0 rfl) ?_
                refine xh_getr C hw 0 22 sM_0 (x_lt hN rfl) rfl rfl rfl lk_RX12_34 dX12_takes_50 ?_
                refine lv_iload hx hb dX12_takes_53 (lv_at hl 7 rfl) ?_
                refine xh_iald C hw 9 100 h sM_9 (x_lt hN rfl) dX12_takes_55 (fun r55 h => ?_)
                refine x_if_ne (tgt := 62) hx hb h dX12_takes_56 (by decide) (fun h => ?_) (fun h => ?_)
                · refine lv_goto (tgt := 140) hx hb dX12_takes_59 (by decide) ?_
                  exact w140 _ _ _ _ _ _ _ _ _ _ _ hw (lv_sub hl [0, 1, 2, 3, 4, 5, 6, 7] rfl) h
                · refine lv_iload hx hb dX12_takes_62 (lv_at hl 6 rfl) ?_
                  refine lv_iconst (v := (-1)) hx hb dX12_takes_64 (by decide) ?_
                  refine x_icmp_eq (tgt := 119) hx hb h dX12_takes_65 (by decide) (fun h => ?_) (fun h => ?_)
                  · exact w119 _ _ _ _ _ _ _ _ _ _ _ hw (lv_sub hl [0, 1, 2, 3, 4, 5, 6, 7] rfl) h
                  · refine lv_aload_n hx hb dX12_takes_68 rfl (lv_at hl 0 rfl) ?_
                    refine xh_getr C hw 0 23 sM_0 (x_lt hN rfl) rfl rfl rfl lk_RX12_37 dX12_takes_69 ?_
                    refine lv_iload hx hb dX12_takes_72 (lv_at hl 7 rfl) ?_
                    refine xh_iald C hw 10 100 h sM_10 (x_lt hN rfl) dX12_takes_74 (fun r74 h => ?_)
                    refine lv_aload_n hx hb dX12_takes_75 rfl (lv_at hl 0 rfl) ?_
                    refine xh_getr C hw 0 23 sM_0 (x_lt hN rfl) rfl rfl rfl lk_RX12_37 dX12_takes_76 ?_
                    refine lv_iload hx hb dX12_takes_79 (lv_at hl 6 rfl) ?_
                    refine xh_iald C hw 10 100 h sM_10 (x_lt hN rfl) dX12_takes_81 (fun r81 h => ?_)
                    refine x_icmp_lt (tgt := 119) hx hb h dX12_takes_82 (by decide) (fun h => ?_) (fun h => ?_)
                    · exact w119 _ _ _ _ _ _ _ _ _ _ _ hw (lv_sub hl [0, 1, 2, 3, 4, 5, 6, 7] rfl) h
                    · refine lv_aload_n hx hb dX12_takes_85 rfl (lv_at hl 0 rfl) ?_
                      refine xh_getr C hw 0 23 sM_0 (x_lt hN rfl) rfl rfl rfl lk_RX12_37 dX12_takes_86 ?_
                      refine lv_iload hx hb dX12_takes_89 (lv_at hl 7 rfl) ?_
                      refine xh_iald C hw 10 100 h sM_10 (x_lt hN rfl) dX12_takes_91 (fun r91 h => ?_)
                      refine lv_aload_n hx hb dX12_takes_92 rfl (lv_at hl 0 rfl) ?_
                      refine xh_getr C hw 0 23 sM_0 (x_lt hN rfl) rfl rfl rfl lk_RX12_37 dX12_takes_93 ?_
                      refine lv_iload hx hb dX12_takes_96 (lv_at hl 6 rfl) ?_
                      refine xh_iald C hw 10 100 h sM_10 (x_lt hN rfl) dX12_takes_98 (fun r98 h => ?_)
                      refine x_icmp_ne (tgt := 123) hx hb h dX12_takes_99 (by decide) (fun h => ?_) (fun h => ?_)
                      · refine lv_aload_n hx hb dX12_takes_102 rfl (lv_at hl 0 rfl) ?_
                        refine xh_getr C hw 0 21 sM_0 (x_lt hN rfl) rfl rfl rfl lk_RX12_31 dX12_takes_103 ?_
                        refine lv_iload hx hb dX12_takes_106 (lv_at hl 7 rfl) ?_
                        refine xh_iald C hw 8 100 h sM_8 (x_lt hN rfl) dX12_takes_108 (fun r108 h => ?_)
                        refine lv_aload_n hx hb dX12_takes_109 rfl (lv_at hl 0 rfl) ?_
                        refine xh_getr C hw 0 21 sM_0 (x_lt hN rfl) rfl rfl rfl lk_RX12_31 dX12_takes_110 ?_
                        refine lv_iload hx hb dX12_takes_113 (lv_at hl 6 rfl) ?_
                        refine xh_iald C hw 8 100 h sM_8 (x_lt hN rfl) dX12_takes_115 (fun r115 h => ?_)
                        refine x_icmp_ge (tgt := 123) hx hb h dX12_takes_116 (by decide) (fun h => ?_) (fun h => ?_)
                        · exact w123 _ _ _ _ _ _ _ _ _ _ _ hw (lv_sub hl [0, 1, 2, 3, 4, 5, 6, 7] rfl) h
                        · exact w119 _ _ _ _ _ _ _ _ _ _ _ hw (lv_sub hl [0, 1, 2, 3, 4, 5, 6, 7] rfl) h
                      · exact w123 _ _ _ _ _ _ _ _ _ _ _ hw (lv_sub hl [0, 1, 2, 3, 4, 5, 6, 7] rfl) h
      intro M v1 v2 v4 v5 v6 H locs ls hw hl h
      rw [f_X12_takes_6_s] at h
      refine lv_iload hx hb dX12_takes_6 (lv_at hl 4 rfl) ?_
      refine x_if_le (tgt := 202) hx hb h dX12_takes_8 (by decide) (fun h => ?_) (fun h => ?_)
      · refine lv_iload hx hb dX12_takes_202 (lv_at hl 5 rfl) ?_
        exact hret dX12_takes_204 rfl hw h
      · refine lv_iconst (v := (-1)) hx hb dX12_takes_11 (by decide) ?_
        refine lv_istore (lv' := [(7, .int _), (0, .ref (q 0)), (1, .int _), (2, .int _), (4, .int _), (5, .int _), (6, .int _)]) hx hb dX12_takes_12 hl (by decide) rfl (fun ls hl => ?_)
        refine lv_iconst (v := (nI 0)) hx hb dX12_takes_14 (by decide) ?_
        refine lv_istore (lv' := [(8, .int _), (7, .int _), (0, .ref (q 0)), (1, .int _), (2, .int _), (4, .int _), (5, .int _), (6, .int _)]) hx hb dX12_takes_15 hl (by decide) rfl (fun ls hl => ?_)
        exact w17 _ _ _ _ _ _ _ _ _ _ _ _ hw (lv_sub hl [2, 3, 4, 5, 6, 7, 1, 0] rfl) h
  unfold f_X12_takes at h
  refine lv_iload_n hx hb dX12_takes_0 rfl (lv_at hl 3 rfl) ?_
  refine lv_istore (lv' := [(5, .int _), (0, .ref (q 0)), (1, .int _), (2, .int _), (3, .int _), (4, .int _)]) hx hb dX12_takes_1 hl (by decide) rfl (fun ls hl => ?_)
  refine lv_iconst (v := (-1)) hx hb dX12_takes_3 (by decide) ?_
  refine lv_istore (lv' := [(6, .int _), (5, .int _), (0, .ref (q 0)), (1, .int _), (2, .int _), (3, .int _), (4, .int _)]) hx hb dX12_takes_4 hl (by decide) rfl (fun ls hl => ?_)
  exact w6 _ _ _ _ _ _ _ _ _ _ hw (lv_sub hl [2, 3, 4, 6, 1, 0] rfl) h
def f_X12_happens_261 (M : x_M) (v1 : Int32) (v5 : Int32) : Option (Unit × x_M) := x_wr 100 M 14 v1 v5 (fun M => some ((), M))
def f_X12_happens_207 (M : x_M) (v1 : Int32) (v2 : Int32) (v5 : Int32) (t1 : Int32) (t2 : Int32) (t3 : Int32) (t4 : Int32) : Option (Unit × x_M) := x_bn (f_X12_takes M t1 t2 t3 t4) (fun r207 M => x_rd 5512 (M 1) v2 (fun r217 => if r217 = (nI 2) then x_rd 5512 (M 1) (v2 + (nI 6)) (fun r231 => x_bn (f_X12_comes M r231 v5 r207) (fun _ M => f_X12_happens_261 M v1 v5)) else x_rd 5512 (M 1) (v2 + (nI 6)) (fun r254 => x_rd 4 (M 13) r254 (fun r256 => x_wr 4 M 13 r254 (r256 + v5) (fun M => f_X12_happens_261 M v1 v5)))))
def f_X12_happens_176 (M : x_M) (v1 : Int32) (v2 : Int32) (v3 : Int32) (v4 : Int32) (v5 : Int32) (t1 : Int32) (t2 : Int32) (t3 : Int32) : Option (Unit × x_M) := x_bn (f_X12_there M t1 t2 t3) (fun r176 M => if (lg_cmp r176 ((v5).toInt64)) < 0 then some ((), M) else x_rd 5512 (M 1) v2 (fun r197 => if r197 = (nI 1) then f_X12_happens_207 M v1 v2 v5 v3 v4 v5 (nI 1) else f_X12_happens_207 M v1 v2 v5 v3 v4 v5 (nI 0)))
def f_X12_happens (M : x_M) (a1 : Int32) : Option (Unit × x_M) := x_rd 5512 (M 1) (((nI 50) + ((nI 10) * a1)) + (nI 1)) (fun r15 => x_rd 5512 (M 1) (((nI 50) + ((nI 10) * a1)) + (nI 2)) (fun r24 => x_rd 5512 (M 1) (((nI 50) + ((nI 10) * a1)) + (nI 5)) (fun r34 => x_rd 5512 (M 1) ((nI 50) + ((nI 10) * a1)) (fun r42 => if r42 = 0 then x_bn (f_X12_flies M a1) (fun _ M => some ((), M)) else x_rd 5512 (M 1) ((nI 50) + ((nI 10) * a1)) (fun r59 => if r59 = (nI 3) then x_rd 5512 (M 1) (((nI 50) + ((nI 10) * a1)) + (nI 6)) (fun r72 => x_rd 100 (M 14) r72 (fun r81 => if r81 = 0 then some ((), M) else x_rd 100 (M 16) r72 (fun r91 => if r91 = 0 then x_wr 100 M 16 r72 (vp_nar .boolean (nI 1)) (fun M => x_rd 5512 (M 1) (nI 2) (fun r115 => x_bn (f_X12_comes M r15 r34 (r24 + r115)) (fun _ M => x_rd 5512 (M 1) (((nI 50) + ((nI 10) * r72)) + (nI 6)) (fun r139 => x_rd 4 (M 13) r139 (fun r141 => x_wr 4 M 13 r139 (r141 - r34) (fun M => x_wr 100 M 14 a1 r34 (fun M => some ((), M)))))))) else some ((), M)))) else x_rd 5512 (M 1) ((nI 50) + ((nI 10) * a1)) (fun r166 => if r166 = (nI 1) then f_X12_happens_176 M a1 ((nI 50) + ((nI 10) * a1)) r15 r24 r34 r15 r24 (nI 1) else f_X12_happens_176 M a1 ((nI 50) + ((nI 10) * a1)) r15 r24 r34 r15 r24 (nI 0)))))))
abbrev rm_X12_happens : Room := { frames := 5, cells := 0, slots := 0, locals := 123 }
set_option maxHeartbeats 4000000 in
set_option maxRecDepth 100000 in
theorem c_X12_happens {l : Launch} {D : va_G} {cy : Nat → ClassId} {q ad : Nat → Nat} {s0 : State} (hq : x_Q q 24 s0.heap.size) {M : x_M} {a1 : Int32} {z : Unit × x_M} (h : f_X12_happens M a1 = some z) : x_Cv l D cy q ad x_spM 24 s0 yX12_happens (x_uw yX12_happens cX12_happens 7 none) rm_X12_happens [.ref (q 0), .int a1] M z.2 := by
  have hN : 24 ≤ 24 := Nat.le_refl _
  refine x_metv hq (by decide) (Nat.le_of_ble_eq_true rfl) ?_
  intro p e s m args below meth c ls Q C hret hl hw
  have hx := C.1.1
  have hb := C.1.2.1
  have ho := C.1.2.2.2.1
  have hL := C.1.2.2.2.2
  have hl : lv_has ls 7 [(0, .ref (q 0)), (1, .int a1)] := hl
  have w176 : ∀ (M : x_M) (v1 : Int32) (v2 : Int32) (v3 : Int32) (v4 : Int32) (v5 : Int32) (t1 : Int32) (t2 : Int32) (t3 : Int32) (H : Heap) (locs : List Loc) (ls : Array Slot), x_B D cy q ad x_spM 24 s H locs M → lv_has ls 7 [(0, .ref (q 0)), (1, .int v1), (2, .int v2), (3, .int v3), (4, .int v4), (5, .int v5)] → f_X12_happens_176 M v1 v2 v3 v4 v5 t1 t2 t3 = some z → W p l e rm_X12_happens s m args below meth c H locs 0 0 Q (F0 m 176 ls [.int t3, .int t2, .int t1, .ref (q 0)]) := by
    have w207 : ∀ (M : x_M) (v1 : Int32) (v2 : Int32) (v5 : Int32) (t1 : Int32) (t2 : Int32) (t3 : Int32) (t4 : Int32) (H : Heap) (locs : List Loc) (ls : Array Slot), x_B D cy q ad x_spM 24 s H locs M → lv_has ls 7 [(0, .ref (q 0)), (1, .int v1), (2, .int v2), (5, .int v5)] → f_X12_happens_207 M v1 v2 v5 t1 t2 t3 t4 = some z → W p l e rm_X12_happens s m args below meth c H locs 0 0 Q (F0 m 207 ls [.int t4, .int t3, .int t2, .int t1, .ref (q 0)]) := by
      have w261 : ∀ (M : x_M) (v1 : Int32) (v5 : Int32) (H : Heap) (locs : List Loc) (ls : Array Slot), x_B D cy q ad x_spM 24 s H locs M → lv_has ls 7 [(0, .ref (q 0)), (1, .int v1), (5, .int v5)] → f_X12_happens_261 M v1 v5 = some z → W p l e rm_X12_happens s m args below meth c H locs 0 0 Q (F0 m 261 ls []) := by
        intro M v1 v5 H locs ls hw hl h
        unfold f_X12_happens_261 at h
        refine lv_aload_n hx hb dX12_happens_261 rfl (lv_at hl 0 rfl) ?_
        refine xh_getr C hw 0 28 sM_0 (x_lt hN rfl) rfl rfl rfl lk_RX12_49 dX12_happens_262 ?_
        refine lv_iload_n hx hb dX12_happens_265 rfl (lv_at hl 1 rfl) ?_
        refine lv_iload hx hb dX12_happens_266 (lv_at hl 2 rfl) ?_
        refine xh_iast C hw 14 100 h sM_14 (x_lt hN rfl) dX12_happens_268 (fun H locs M hw h => ?_)
        exact hret dX12_happens_269 hw h
      intro M v1 v2 v5 t1 t2 t3 t4 H locs ls hw hl h
      unfold f_X12_happens_207 at h
      refine xh_cVi C hw (rest := []) h (fun _ hy => c_X12_takes hq hy) ml_RX12_245 mv_X12_takes sM_0 (x_lt hN rfl) rfl ⟨rfl, rfl, by decide, by decide⟩ rfl hl.1 rfl (Nat.le_of_ble_eq_true rfl) dX12_happens_207 (fun H locs r207 M hw h => ?_)
      refine lv_istore (lv' := [(6, .int _), (0, .ref (q 0)), (1, .int _), (2, .int _), (5, .int _)]) hx hb dX12_happens_210 hl (by decide) rfl (fun ls hl => ?_)
      refine lv_aload_n hx hb dX12_happens_212 rfl (lv_at hl 1 rfl) ?_
      refine xh_getr C hw 0 0 sM_0 (x_lt hN rfl) rfl rfl rfl lk_RX12_7 dX12_happens_213 ?_
      refine lv_iload_n hx hb dX12_happens_216 rfl (lv_at hl 3 rfl) ?_
      refine xh_iald C hw 1 5512 h sM_1 (x_lt hN rfl) dX12_happens_217 (fun r217 h => ?_)
      refine lv_iconst (v := (nI 2)) hx hb dX12_happens_218 (by decide) ?_
      refine x_icmp_ne (tgt := 242) hx hb h dX12_happens_219 (by decide) (fun h => ?_) (fun h => ?_)
      · refine lv_aload_n hx hb dX12_happens_222 rfl (lv_at hl 1 rfl) ?_
        refine lv_aload_n hx hb dX12_happens_223 rfl (lv_at hl 1 rfl) ?_
        refine xh_getr C hw 0 0 sM_0 (x_lt hN rfl) rfl rfl rfl lk_RX12_7 dX12_happens_224 ?_
        refine lv_iload_n hx hb dX12_happens_227 rfl (lv_at hl 3 rfl) ?_
        refine lv_bipush (v := (nI 6)) hx hb dX12_happens_228 (by decide) ?_
        refine lv_iadd hx hb dX12_happens_230 ?_
        refine xh_iald C hw 1 5512 h sM_1 (x_lt hN rfl) dX12_happens_231 (fun r231 h => ?_)
        refine lv_iload hx hb dX12_happens_232 (lv_at hl 4 rfl) ?_
        refine lv_iload hx hb dX12_happens_234 (lv_at hl 0 rfl) ?_
        refine xh_cVv C hw (rest := []) h (fun _ hy => c_X12_comes hq hy) ml_RX12_230 mv_X12_comes sM_0 (x_lt hN rfl) rfl ⟨rfl, rfl, by decide, by decide⟩ rfl hl.1 rfl (Nat.le_of_ble_eq_true rfl) dX12_happens_236 (fun H locs _ M hw h => ?_)
        refine lv_goto (tgt := 261) hx hb dX12_happens_239 (by decide) ?_
        exact w261 _ _ _ _ _ _ hw (lv_sub hl [1, 2, 4] rfl) h
      · refine lv_aload_n hx hb dX12_happens_242 rfl (lv_at hl 1 rfl) ?_
        refine xh_getr C hw 0 27 sM_0 (x_lt hN rfl) rfl rfl rfl lk_RX12_46 dX12_happens_243 ?_
        refine lv_aload_n hx hb dX12_happens_246 rfl (lv_at hl 1 rfl) ?_
        refine xh_getr C hw 0 0 sM_0 (x_lt hN rfl) rfl rfl rfl lk_RX12_7 dX12_happens_247 ?_
        refine lv_iload_n hx hb dX12_happens_250 rfl (lv_at hl 3 rfl) ?_
        refine lv_bipush (v := (nI 6)) hx hb dX12_happens_251 (by decide) ?_
        refine lv_iadd hx hb dX12_happens_253 ?_
        refine xh_iald C hw 1 5512 h sM_1 (x_lt hN rfl) dX12_happens_254 (fun r254 h => ?_)
        refine lv_dup2_11 hx hb dX12_happens_255 rfl rfl ?_
        refine xh_iald C hw 13 4 h sM_13 (x_lt hN rfl) dX12_happens_256 (fun r256 h => ?_)
        refine lv_iload hx hb dX12_happens_257 (lv_at hl 4 rfl) ?_
        refine lv_iadd hx hb dX12_happens_259 ?_
        refine xh_iast C hw 13 4 h sM_13 (x_lt hN rfl) dX12_happens_260 (fun H locs M hw h => ?_)
        exact w261 _ _ _ _ _ _ hw (lv_sub hl [1, 2, 4] rfl) h
    intro M v1 v2 v3 v4 v5 t1 t2 t3 H locs ls hw hl h
    unfold f_X12_happens_176 at h
    refine xh_cVl C hw (rest := []) h (fun _ hy => c_X12_there hq hy) ml_RX12_241 mv_X12_there sM_0 (x_lt hN rfl) rfl ⟨rfl, rfl, by decide, by decide⟩ rfl hl.1 rfl (Nat.le_of_ble_eq_true rfl) dX12_happens_176 (fun H locs r176 M hw h => ?_)
    refine lv_iload hx hb dX12_happens_179 (lv_at hl 5 rfl) ?_
    refine lv_i2l hx hb dX12_happens_181 rfl ?_
    refine W.lcmp hx hb dX12_happens_182 ?_
    refine x_if_lt (tgt := 269) hx hb h dX12_happens_183 (by decide) (fun h => ?_) (fun h => ?_)
    · exact hret dX12_happens_269 hw h
    · refine lv_aload_n hx hb dX12_happens_186 rfl (lv_at hl 0 rfl) ?_
      refine lv_iload_n hx hb dX12_happens_187 rfl (lv_at hl 3 rfl) ?_
      refine lv_iload hx hb dX12_happens_188 (lv_at hl 4 rfl) ?_
      refine lv_iload hx hb dX12_happens_190 (lv_at hl 5 rfl) ?_
      refine lv_aload_n hx hb dX12_happens_192 rfl (lv_at hl 0 rfl) ?_
      refine xh_getr C hw 0 0 sM_0 (x_lt hN rfl) rfl rfl rfl lk_RX12_7 dX12_happens_193 ?_
      refine lv_iload_n hx hb dX12_happens_196 rfl (lv_at hl 2 rfl) ?_
      refine xh_iald C hw 1 5512 h sM_1 (x_lt hN rfl) dX12_happens_197 (fun r197 h => ?_)
      refine lv_iconst (v := (nI 1)) hx hb dX12_happens_198 (by decide) ?_
      refine x_icmp_ne (tgt := 206) hx hb h dX12_happens_199 (by decide) (fun h => ?_) (fun h => ?_)
      · refine lv_iconst (v := (nI 1)) hx hb dX12_happens_202 (by decide) ?_
        refine lv_goto (tgt := 207) hx hb dX12_happens_203 (by decide) ?_
        exact w207 _ _ _ _ _ _ _ _ _ _ _ hw (lv_sub hl [0, 1, 2, 5] rfl) h
      · refine lv_iconst (v := (nI 0)) hx hb dX12_happens_206 (by decide) ?_
        exact w207 _ _ _ _ _ _ _ _ _ _ _ hw (lv_sub hl [0, 1, 2, 5] rfl) h
  unfold f_X12_happens at h
  refine lv_bipush (v := (nI 50)) hx hb dX12_happens_0 (by decide) ?_
  refine lv_bipush (v := (nI 10)) hx hb dX12_happens_2 (by decide) ?_
  refine lv_iload_n hx hb dX12_happens_4 rfl (lv_at hl 1 rfl) ?_
  refine lv_imul hx hb dX12_happens_5 ?_
  refine lv_iadd hx hb dX12_happens_6 ?_
  refine lv_istore_n (lv' := [(2, .int _), (0, .ref (q 0)), (1, .int _)]) hx hb dX12_happens_7 rfl hl (by decide) rfl (fun ls hl => ?_)
  refine lv_aload_n hx hb dX12_happens_8 rfl (lv_at hl 1 rfl) ?_
  refine xh_getr C hw 0 0 sM_0 (x_lt hN rfl) rfl rfl rfl lk_RX12_7 dX12_happens_9 ?_
  refine lv_iload_n hx hb dX12_happens_12 rfl (lv_at hl 0 rfl) ?_
  refine lv_iconst (v := (nI 1)) hx hb dX12_happens_13 (by decide) ?_
  refine lv_iadd hx hb dX12_happens_14 ?_
  refine xh_iald C hw 1 5512 h sM_1 (x_lt hN rfl) dX12_happens_15 (fun r15 h => ?_)
  refine lv_istore_n (lv' := [(3, .int _), (2, .int _), (0, .ref (q 0)), (1, .int _)]) hx hb dX12_happens_16 rfl hl (by decide) rfl (fun ls hl => ?_)
  refine lv_aload_n hx hb dX12_happens_17 rfl (lv_at hl 2 rfl) ?_
  refine xh_getr C hw 0 0 sM_0 (x_lt hN rfl) rfl rfl rfl lk_RX12_7 dX12_happens_18 ?_
  refine lv_iload_n hx hb dX12_happens_21 rfl (lv_at hl 1 rfl) ?_
  refine lv_iconst (v := (nI 2)) hx hb dX12_happens_22 (by decide) ?_
  refine lv_iadd hx hb dX12_happens_23 ?_
  refine xh_iald C hw 1 5512 h sM_1 (x_lt hN rfl) dX12_happens_24 (fun r24 h => ?_)
  refine lv_istore (lv' := [(4, .int _), (3, .int _), (2, .int _), (0, .ref (q 0)), (1, .int _)]) hx hb dX12_happens_25 hl (by decide) rfl (fun ls hl => ?_)
  refine lv_aload_n hx hb dX12_happens_27 rfl (lv_at hl 3 rfl) ?_
  refine xh_getr C hw 0 0 sM_0 (x_lt hN rfl) rfl rfl rfl lk_RX12_7 dX12_happens_28 ?_
  refine lv_iload_n hx hb dX12_happens_31 rfl (lv_at hl 2 rfl) ?_
  refine lv_iconst (v := (nI 5)) hx hb dX12_happens_32 (by decide) ?_
  refine lv_iadd hx hb dX12_happens_33 ?_
  refine xh_iald C hw 1 5512 h sM_1 (x_lt hN rfl) dX12_happens_34 (fun r34 h => ?_)
  refine lv_istore (lv' := [(5, .int _), (4, .int _), (3, .int _), (2, .int _), (0, .ref (q 0)), (1, .int _)]) hx hb dX12_happens_35 hl (by decide) rfl (fun ls hl => ?_)
  refine lv_aload_n hx hb dX12_happens_37 rfl (lv_at hl 4 rfl) ?_
  refine xh_getr C hw 0 0 sM_0 (x_lt hN rfl) rfl rfl rfl lk_RX12_7 dX12_happens_38 ?_
  refine lv_iload_n hx hb dX12_happens_41 rfl (lv_at hl 3 rfl) ?_
  refine xh_iald C hw 1 5512 h sM_1 (x_lt hN rfl) dX12_happens_42 (fun r42 h => ?_)
  refine x_if_ne (tgt := 54) hx hb h dX12_happens_43 (by decide) (fun h => ?_) (fun h => ?_)
  · refine lv_aload_n hx hb dX12_happens_46 rfl (lv_at hl 4 rfl) ?_
    refine lv_iload_n hx hb dX12_happens_47 rfl (lv_at hl 5 rfl) ?_
    refine xh_cVv C hw (rest := []) h (fun _ hy => c_X12_flies hq hy) ml_RX12_238 mv_X12_flies sM_0 (x_lt hN rfl) rfl ⟨rfl, rfl, by decide, by decide⟩ rfl hl.1 rfl (Nat.le_of_ble_eq_true rfl) dX12_happens_48 (fun H locs _ M hw h => ?_)
    refine lv_goto (tgt := 269) hx hb dX12_happens_51 (by decide) ?_
    exact hret dX12_happens_269 hw h
  · refine lv_aload_n hx hb dX12_happens_54 rfl (lv_at hl 4 rfl) ?_
    refine xh_getr C hw 0 0 sM_0 (x_lt hN rfl) rfl rfl rfl lk_RX12_7 dX12_happens_55 ?_
    refine lv_iload_n hx hb dX12_happens_58 rfl (lv_at hl 3 rfl) ?_
    refine xh_iald C hw 1 5512 h sM_1 (x_lt hN rfl) dX12_happens_59 (fun r59 h => ?_)
    refine lv_iconst (v := (nI 3)) hx hb dX12_happens_60 (by decide) ?_
    refine x_icmp_ne (tgt := 157) hx hb h dX12_happens_61 (by decide) (fun h => ?_) (fun h => ?_)
    · refine lv_aload_n hx hb dX12_happens_64 rfl (lv_at hl 4 rfl) ?_
      refine xh_getr C hw 0 0 sM_0 (x_lt hN rfl) rfl rfl rfl lk_RX12_7 dX12_happens_65 ?_
      refine lv_iload_n hx hb dX12_happens_68 rfl (lv_at hl 3 rfl) ?_
      refine lv_bipush (v := (nI 6)) hx hb dX12_happens_69 (by decide) ?_
      refine lv_iadd hx hb dX12_happens_71 ?_
      refine xh_iald C hw 1 5512 h sM_1 (x_lt hN rfl) dX12_happens_72 (fun r72 h => ?_)
      refine lv_istore (lv' := [(6, .int _), (5, .int _), (4, .int _), (3, .int _), (2, .int _), (0, .ref (q 0)), (1, .int _)]) hx hb dX12_happens_73 hl (by decide) rfl (fun ls hl => ?_)
      refine lv_aload_n hx hb dX12_happens_75 rfl (lv_at hl 5 rfl) ?_
      refine xh_getr C hw 0 28 sM_0 (x_lt hN rfl) rfl rfl rfl lk_RX12_49 dX12_happens_76 ?_
      refine lv_iload hx hb dX12_happens_79 (lv_at hl 0 rfl) ?_
      refine xh_iald C hw 14 100 h sM_14 (x_lt hN rfl) dX12_happens_81 (fun r81 h => ?_)
      refine x_if_eq (tgt := 95) hx hb h dX12_happens_82 (by decide) (fun h => ?_) (fun h => ?_)
      · exact hret dX12_happens_95 hw h
      · refine lv_aload_n hx hb dX12_happens_85 rfl (lv_at hl 5 rfl) ?_
        refine xh_getr C hw 0 30 sM_0 (x_lt hN rfl) rfl rfl rfl lk_RX12_55 dX12_happens_86 ?_
        refine lv_iload hx hb dX12_happens_89 (lv_at hl 0 rfl) ?_
        refine xh_zald C hw 16 100 h sM_16 (x_lt hN rfl) dX12_happens_91 (fun r91 h => ?_)
        refine x_if_eq (tgt := 96) hx hb h dX12_happens_92 (by decide) (fun h => ?_) (fun h => ?_)
        · refine lv_aload_n hx hb dX12_happens_96 rfl (lv_at hl 5 rfl) ?_
          refine xh_getr C hw 0 30 sM_0 (x_lt hN rfl) rfl rfl rfl lk_RX12_55 dX12_happens_97 ?_
          refine lv_iload hx hb dX12_happens_100 (lv_at hl 0 rfl) ?_
          refine lv_iconst (v := (nI 1)) hx hb dX12_happens_102 (by decide) ?_
          refine xh_zast C hw 16 100 h sM_16 (x_lt hN rfl) dX12_happens_103 (fun H locs M hw h => ?_)
          refine lv_aload_n hx hb dX12_happens_104 rfl (lv_at hl 5 rfl) ?_
          refine lv_iload_n hx hb dX12_happens_105 rfl (lv_at hl 3 rfl) ?_
          refine lv_iload hx hb dX12_happens_106 (lv_at hl 1 rfl) ?_
          refine lv_iload hx hb dX12_happens_108 (lv_at hl 2 rfl) ?_
          refine lv_aload_n hx hb dX12_happens_110 rfl (lv_at hl 5 rfl) ?_
          refine xh_getr C hw 0 0 sM_0 (x_lt hN rfl) rfl rfl rfl lk_RX12_7 dX12_happens_111 ?_
          refine lv_iconst (v := (nI 2)) hx hb dX12_happens_114 (by decide) ?_
          refine xh_iald C hw 1 5512 h sM_1 (x_lt hN rfl) dX12_happens_115 (fun r115 h => ?_)
          refine lv_iadd hx hb dX12_happens_116 ?_
          refine xh_cVv C hw (rest := []) h (fun _ hy => c_X12_comes hq hy) ml_RX12_230 mv_X12_comes sM_0 (x_lt hN rfl) rfl ⟨rfl, rfl, by decide, by decide⟩ rfl hl.1 rfl (Nat.le_of_ble_eq_true rfl) dX12_happens_117 (fun H locs _ M hw h => ?_)
          refine lv_aload_n hx hb dX12_happens_120 rfl (lv_at hl 5 rfl) ?_
          refine xh_getr C hw 0 27 sM_0 (x_lt hN rfl) rfl rfl rfl lk_RX12_46 dX12_happens_121 ?_
          refine lv_aload_n hx hb dX12_happens_124 rfl (lv_at hl 5 rfl) ?_
          refine xh_getr C hw 0 0 sM_0 (x_lt hN rfl) rfl rfl rfl lk_RX12_7 dX12_happens_125 ?_
          refine lv_bipush (v := (nI 50)) hx hb dX12_happens_128 (by decide) ?_
          refine lv_bipush (v := (nI 10)) hx hb dX12_happens_130 (by decide) ?_
          refine lv_iload hx hb dX12_happens_132 (lv_at hl 0 rfl) ?_
          refine lv_imul hx hb dX12_happens_134 ?_
          refine lv_iadd hx hb dX12_happens_135 ?_
          refine lv_bipush (v := (nI 6)) hx hb dX12_happens_136 (by decide) ?_
          refine lv_iadd hx hb dX12_happens_138 ?_
          refine xh_iald C hw 1 5512 h sM_1 (x_lt hN rfl) dX12_happens_139 (fun r139 h => ?_)
          refine lv_dup2_11 hx hb dX12_happens_140 rfl rfl ?_
          refine xh_iald C hw 13 4 h sM_13 (x_lt hN rfl) dX12_happens_141 (fun r141 h => ?_)
          refine lv_iload hx hb dX12_happens_142 (lv_at hl 1 rfl) ?_
          refine lv_isub hx hb dX12_happens_144 ?_
          refine xh_iast C hw 13 4 h sM_13 (x_lt hN rfl) dX12_happens_145 (fun H locs M hw h => ?_)
          refine lv_aload_n hx hb dX12_happens_146 rfl (lv_at hl 5 rfl) ?_
          refine xh_getr C hw 0 28 sM_0 (x_lt hN rfl) rfl rfl rfl lk_RX12_49 dX12_happens_147 ?_
          refine lv_iload_n hx hb dX12_happens_150 rfl (lv_at hl 6 rfl) ?_
          refine lv_iload hx hb dX12_happens_151 (lv_at hl 1 rfl) ?_
          refine xh_iast C hw 14 100 h sM_14 (x_lt hN rfl) dX12_happens_153 (fun H locs M hw h => ?_)
          refine lv_goto (tgt := 269) hx hb dX12_happens_154 (by decide) ?_
          exact hret dX12_happens_269 hw h
        · exact hret dX12_happens_95 hw h
    · refine lv_aload_n hx hb dX12_happens_157 rfl (lv_at hl 4 rfl) ?_
      refine lv_iload_n hx hb dX12_happens_158 rfl (lv_at hl 2 rfl) ?_
      refine lv_iload hx hb dX12_happens_159 (lv_at hl 1 rfl) ?_
      refine lv_aload_n hx hb dX12_happens_161 rfl (lv_at hl 4 rfl) ?_
      refine xh_getr C hw 0 0 sM_0 (x_lt hN rfl) rfl rfl rfl lk_RX12_7 dX12_happens_162 ?_
      refine lv_iload_n hx hb dX12_happens_165 rfl (lv_at hl 3 rfl) ?_
      refine xh_iald C hw 1 5512 h sM_1 (x_lt hN rfl) dX12_happens_166 (fun r166 h => ?_)
      refine lv_iconst (v := (nI 1)) hx hb dX12_happens_167 (by decide) ?_
      refine x_icmp_ne (tgt := 175) hx hb h dX12_happens_168 (by decide) (fun h => ?_) (fun h => ?_)
      · refine lv_iconst (v := (nI 1)) hx hb dX12_happens_171 (by decide) ?_
        refine lv_goto (tgt := 176) hx hb dX12_happens_172 (by decide) ?_
        exact w176 _ _ _ _ _ _ _ _ _ _ _ _ hw (lv_sub hl [4, 5, 3, 2, 1, 0] rfl) h
      · refine lv_iconst (v := (nI 0)) hx hb dX12_happens_175 (by decide) ?_
        exact w176 _ _ _ _ _ _ _ _ _ _ _ _ hw (lv_sub hl [4, 5, 3, 2, 1, 0] rfl) h
def f_X12_stand_199 (k58 : x_M → Int32 → Int32 → Int32 → Int32 → Option (Unit × x_M)) (M : x_M) (v1 : Int32) (v2 : Int32) (v3 : Int32) (v4 : Int32) : Option (Unit × x_M) := k58 M v1 v2 v3 (v4 + (nI 1))
def f_X12_stand_187 (k58 : x_M → Int32 → Int32 → Int32 → Int32 → Option (Unit × x_M)) (M : x_M) (v1 : Int32) (v2 : Int32) (v3 : Int32) (v4 : Int32) (v5 : Int32) : Option (Unit × x_M) := x_wr 100 M 15 v5 v4 (fun M => f_X12_stand_199 k58 M v1 v2 (v3 + (nI 1)) v4)
def f_X12_stand_120 (k58 : x_M → Int32 → Int32 → Int32 → Int32 → Option (Unit × x_M)) : Nat → x_M → Int32 → Int32 → Int32 → Int32 → Int32 → Option (Unit × x_M)
  | 0, _, _, _, _, _, _ => none
  | n + 1, M, v1, v2, v3, v4, v5 => if v5 ≤ 0 then f_X12_stand_187 k58 M v1 v2 v3 v4 v5 else x_rd 100 (M 15) (v5 - (nI 1)) (fun r141 => x_rd 5512 (M 1) (((nI 50) + ((nI 10) * r141)) + (nI 2)) (fun r146 => x_rd 5512 (M 1) (((nI 50) + ((nI 10) * v4)) + (nI 2)) (fun r161 => if r146 ≤ r161 then f_X12_stand_187 k58 M v1 v2 v3 v4 v5 else x_rd 100 (M 15) (v5 - (nI 1)) (fun r179 => x_wr 100 M 15 v5 r179 (fun M => (f_X12_stand_120 k58 n) M v1 v2 v3 v4 (v5 + (-1)))))))
theorem f_X12_stand_120_0 (k58 : x_M → Int32 → Int32 → Int32 → Int32 → Option (Unit × x_M)) (M : x_M) (v1 : Int32) (v2 : Int32) (v3 : Int32) (v4 : Int32) (v5 : Int32) : f_X12_stand_120 k58 0 M v1 v2 v3 v4 v5 = none := rfl
theorem f_X12_stand_120_s (k58 : x_M → Int32 → Int32 → Int32 → Int32 → Option (Unit × x_M)) (n : Nat) (M : x_M) (v1 : Int32) (v2 : Int32) (v3 : Int32) (v4 : Int32) (v5 : Int32) : f_X12_stand_120 k58 (n + 1) M v1 v2 v3 v4 v5 = (if v5 ≤ 0 then f_X12_stand_187 k58 M v1 v2 v3 v4 v5 else x_rd 100 (M 15) (v5 - (nI 1)) (fun r141 => x_rd 5512 (M 1) (((nI 50) + ((nI 10) * r141)) + (nI 2)) (fun r146 => x_rd 5512 (M 1) (((nI 50) + ((nI 10) * v4)) + (nI 2)) (fun r161 => if r146 ≤ r161 then f_X12_stand_187 k58 M v1 v2 v3 v4 v5 else x_rd 100 (M 15) (v5 - (nI 1)) (fun r179 => x_wr 100 M 15 v5 r179 (fun M => (f_X12_stand_120 k58 n) M v1 v2 v3 v4 (v5 + (-1)))))))) := rfl
def f_X12_stand_208 : Nat → x_M → Int32 → Int32 → Option (Unit × x_M)
  | 0, _, _, _ => none
  | n + 1, M, v3, v4 => if v3 ≤ v4 then some ((), M) else x_rd 100 (M 15) v4 (fun r221 => x_bn (f_X12_happens M r221) (fun _ M => (f_X12_stand_208 n) M v3 (v4 + (nI 1))))
theorem f_X12_stand_208_0 (M : x_M) (v3 : Int32) (v4 : Int32) : f_X12_stand_208 0 M v3 v4 = none := rfl
theorem f_X12_stand_208_s (n : Nat) (M : x_M) (v3 : Int32) (v4 : Int32) : f_X12_stand_208 (n + 1) M v3 v4 = (if v3 ≤ v4 then some ((), M) else x_rd 100 (M 15) v4 (fun r221 => x_bn (f_X12_happens M r221) (fun _ M => (f_X12_stand_208 n) M v3 (v4 + (nI 1))))) := rfl
def f_X12_stand_58 : Nat → x_M → Int32 → Int32 → Int32 → Int32 → Option (Unit × x_M)
  | 0, _, _, _, _, _ => none
  | n + 1, M, v1, v2, v3, v4 => x_rd 5512 (M 1) (nI 5) (fun r65 => if r65 ≤ v4 then f_X12_stand_208 x_FU M v3 (nI 0) else x_wr 100 M 14 v4 (nI 0) (fun M => x_wr 100 M 16 v4 (vp_nar .boolean (nI 0)) (fun M => x_bn (f_X12_isKnown M v4 v2) (fun r89 M => if r89 = 0 then f_X12_stand_199 (f_X12_stand_58 n) M v1 v2 v3 v4 else x_rd 5512 (M 1) (((nI 50) + ((nI 10) * v4)) + (nI 2)) (fun r109 => if r109 ≤ v1 then f_X12_stand_120 (f_X12_stand_58 n) x_FU M v1 v2 v3 v4 v3 else f_X12_stand_199 (f_X12_stand_58 n) M v1 v2 v3 v4)))))
theorem f_X12_stand_58_0 (M : x_M) (v1 : Int32) (v2 : Int32) (v3 : Int32) (v4 : Int32) : f_X12_stand_58 0 M v1 v2 v3 v4 = none := rfl
theorem f_X12_stand_58_s (n : Nat) (M : x_M) (v1 : Int32) (v2 : Int32) (v3 : Int32) (v4 : Int32) : f_X12_stand_58 (n + 1) M v1 v2 v3 v4 = (x_rd 5512 (M 1) (nI 5) (fun r65 => if r65 ≤ v4 then f_X12_stand_208 x_FU M v3 (nI 0) else x_wr 100 M 14 v4 (nI 0) (fun M => x_wr 100 M 16 v4 (vp_nar .boolean (nI 0)) (fun M => x_bn (f_X12_isKnown M v4 v2) (fun r89 M => if r89 = 0 then f_X12_stand_199 (f_X12_stand_58 n) M v1 v2 v3 v4 else x_rd 5512 (M 1) (((nI 50) + ((nI 10) * v4)) + (nI 2)) (fun r109 => if r109 ≤ v1 then f_X12_stand_120 (f_X12_stand_58 n) x_FU M v1 v2 v3 v4 v3 else f_X12_stand_199 (f_X12_stand_58 n) M v1 v2 v3 v4)))))) := rfl
def f_X12_stand_28 : Nat → x_M → Int32 → Int32 → Int32 → Option (Unit × x_M)
  | 0, _, _, _, _ => none
  | n + 1, M, v1, v2, v3 => if (nI 4) ≤ v3 then f_X12_stand_58 x_FU M v1 v2 (nI 0) (nI 0) else x_wr 4 M 12 v3 (nI 0) (fun M => x_wr 4 M 13 v3 (nI 0) (fun M => (f_X12_stand_28 n) M v1 v2 (v3 + (nI 1))))
theorem f_X12_stand_28_0 (M : x_M) (v1 : Int32) (v2 : Int32) (v3 : Int32) : f_X12_stand_28 0 M v1 v2 v3 = none := rfl
theorem f_X12_stand_28_s (n : Nat) (M : x_M) (v1 : Int32) (v2 : Int32) (v3 : Int32) : f_X12_stand_28 (n + 1) M v1 v2 v3 = (if (nI 4) ≤ v3 then f_X12_stand_58 x_FU M v1 v2 (nI 0) (nI 0) else x_wr 4 M 12 v3 (nI 0) (fun M => x_wr 4 M 13 v3 (nI 0) (fun M => (f_X12_stand_28 n) M v1 v2 (v3 + (nI 1))))) := rfl
def f_X12_stand_7 : Nat → x_M → Int32 → Int32 → Int32 → Option (Unit × x_M)
  | 0, _, _, _, _ => none
  | n + 1, M, v1, v2, v3 => if (nI 40) ≤ v3 then f_X12_stand_28 x_FU M v1 v2 (nI 0) else x_wr 40 M 11 v3 (nI 0) (fun M => (f_X12_stand_7 n) M v1 v2 (v3 + (nI 1)))
theorem f_X12_stand_7_0 (M : x_M) (v1 : Int32) (v2 : Int32) (v3 : Int32) : f_X12_stand_7 0 M v1 v2 v3 = none := rfl
theorem f_X12_stand_7_s (n : Nat) (M : x_M) (v1 : Int32) (v2 : Int32) (v3 : Int32) : f_X12_stand_7 (n + 1) M v1 v2 v3 = (if (nI 40) ≤ v3 then f_X12_stand_28 x_FU M v1 v2 (nI 0) else x_wr 40 M 11 v3 (nI 0) (fun M => (f_X12_stand_7 n) M v1 v2 (v3 + (nI 1)))) := rfl
def f_X12_stand (M : x_M) (a1 : Int32) (a2 : Int32) : Option (Unit × x_M) := x_pf M 0 24 (nI 0) (fun M => f_X12_stand_7 x_FU M a1 a2 (nI 0))
abbrev rm_X12_stand : Room := { frames := 6, cells := 0, slots := 0, locals := 149 }
set_option maxHeartbeats 4000000 in
set_option maxRecDepth 100000 in
theorem c_X12_stand {l : Launch} {D : va_G} {cy : Nat → ClassId} {q ad : Nat → Nat} {s0 : State} (hq : x_Q q 24 s0.heap.size) {M : x_M} {a1 : Int32} {a2 : Int32} {z : Unit × x_M} (h : f_X12_stand M a1 a2 = some z) : x_Cv l D cy q ad x_spM 24 s0 yX12_stand (x_uw yX12_stand cX12_stand 6 none) rm_X12_stand [.ref (q 0), .int a1, .int a2] M z.2 := by
  have hN : 24 ≤ 24 := Nat.le_refl _
  refine x_metv hq (by decide) (Nat.le_of_ble_eq_true rfl) ?_
  intro p e s m args below meth c ls Q C hret hl hw
  have hx := C.1.1
  have hb := C.1.2.1
  have ho := C.1.2.2.2.1
  have hL := C.1.2.2.2.2
  have hl : lv_has ls 6 [(0, .ref (q 0)), (1, .int a1), (2, .int a2)] := hl
  have w7 : ∀ (n : Nat) (M : x_M) (v1 : Int32) (v2 : Int32) (v3 : Int32) (H : Heap) (locs : List Loc) (ls : Array Slot), x_B D cy q ad x_spM 24 s H locs M → lv_has ls 6 [(0, .ref (q 0)), (1, .int v1), (2, .int v2), (3, .int v3)] → f_X12_stand_7 n M v1 v2 v3 = some z → W p l e rm_X12_stand s m args below meth c H locs 0 0 Q (F0 m 7 ls []) := by
    intro n
    induction n with
    | zero =>
      intro M v1 v2 v3 H locs ls hw hl h
      rw [f_X12_stand_7_0] at h
      cases h
    | succ n7 ih7 =>
      have w28 : ∀ (n : Nat) (M : x_M) (v1 : Int32) (v2 : Int32) (v3 : Int32) (H : Heap) (locs : List Loc) (ls : Array Slot), x_B D cy q ad x_spM 24 s H locs M → lv_has ls 6 [(0, .ref (q 0)), (1, .int v1), (2, .int v2), (3, .int v3)] → f_X12_stand_28 n M v1 v2 v3 = some z → W p l e rm_X12_stand s m args below meth c H locs 0 0 Q (F0 m 28 ls []) := by
        intro n
        induction n with
        | zero =>
          intro M v1 v2 v3 H locs ls hw hl h
          rw [f_X12_stand_28_0] at h
          cases h
        | succ n28 ih28 =>
          have w58 : ∀ (n : Nat) (M : x_M) (v1 : Int32) (v2 : Int32) (v3 : Int32) (v4 : Int32) (H : Heap) (locs : List Loc) (ls : Array Slot), x_B D cy q ad x_spM 24 s H locs M → lv_has ls 6 [(0, .ref (q 0)), (1, .int v1), (2, .int v2), (3, .int v3), (4, .int v4)] → f_X12_stand_58 n M v1 v2 v3 v4 = some z → W p l e rm_X12_stand s m args below meth c H locs 0 0 Q (F0 m 58 ls []) := by
            intro n
            induction n with
            | zero =>
              intro M v1 v2 v3 v4 H locs ls hw hl h
              rw [f_X12_stand_58_0] at h
              cases h
            | succ n58 ih58 =>
              have w199 : ∀ (M : x_M) (v1 : Int32) (v2 : Int32) (v3 : Int32) (v4 : Int32) (H : Heap) (locs : List Loc) (ls : Array Slot), x_B D cy q ad x_spM 24 s H locs M → lv_has ls 6 [(0, .ref (q 0)), (1, .int v1), (2, .int v2), (3, .int v3), (4, .int v4)] → f_X12_stand_199 (f_X12_stand_58 n58) M v1 v2 v3 v4 = some z → W p l e rm_X12_stand s m args below meth c H locs 0 0 Q (F0 m 199 ls []) := by
                intro M v1 v2 v3 v4 H locs ls hw hl h
                unfold f_X12_stand_199 at h
                refine lv_iinc (lv' := [(4, .int _), (0, .ref (q 0)), (1, .int _), (2, .int _), (3, .int _)]) hx hb dX12_stand_199 hl (k := 4) rfl (x_inc (show Int32.ofInt 1 = (nI 1) by decide) _) (by decide) rfl (fun ls hl => ?_)
                refine lv_goto (tgt := 58) hx hb dX12_stand_202 (by decide) ?_
                exact ih58 _ _ _ _ _ _ _ _ hw (lv_sub hl [1, 2, 3, 4, 0] rfl) h
              have w120 : ∀ (n : Nat) (M : x_M) (v1 : Int32) (v2 : Int32) (v3 : Int32) (v4 : Int32) (v5 : Int32) (H : Heap) (locs : List Loc) (ls : Array Slot), x_B D cy q ad x_spM 24 s H locs M → lv_has ls 6 [(0, .ref (q 0)), (1, .int v1), (2, .int v2), (3, .int v3), (4, .int v4), (5, .int v5)] → f_X12_stand_120 (f_X12_stand_58 n58) n M v1 v2 v3 v4 v5 = some z → W p l e rm_X12_stand s m args below meth c H locs 0 0 Q (F0 m 120 ls []) := by
                intro n
                induction n with
                | zero =>
                  intro M v1 v2 v3 v4 v5 H locs ls hw hl h
                  rw [f_X12_stand_120_0] at h
                  cases h
                | succ n120 ih120 =>
                  have w187 : ∀ (M : x_M) (v1 : Int32) (v2 : Int32) (v3 : Int32) (v4 : Int32) (v5 : Int32) (H : Heap) (locs : List Loc) (ls : Array Slot), x_B D cy q ad x_spM 24 s H locs M → lv_has ls 6 [(0, .ref (q 0)), (1, .int v1), (2, .int v2), (3, .int v3), (4, .int v4), (5, .int v5)] → f_X12_stand_187 (f_X12_stand_58 n58) M v1 v2 v3 v4 v5 = some z → W p l e rm_X12_stand s m args below meth c H locs 0 0 Q (F0 m 187 ls []) := by
                    intro M v1 v2 v3 v4 v5 H locs ls hw hl h
                    unfold f_X12_stand_187 at h
                    refine lv_aload_n hx hb dX12_stand_187 rfl (lv_at hl 0 rfl) ?_
                    refine xh_getr C hw 0 29 sM_0 (x_lt hN rfl) rfl rfl rfl lk_RX12_52 dX12_stand_188 ?_
                    refine lv_iload hx hb dX12_stand_191 (lv_at hl 5 rfl) ?_
                    refine lv_iload hx hb dX12_stand_193 (lv_at hl 4 rfl) ?_
                    refine xh_iast C hw 15 100 h sM_15 (x_lt hN rfl) dX12_stand_195 (fun H locs M hw h => ?_)
                    refine lv_iinc (lv' := [(3, .int _), (0, .ref (q 0)), (1, .int _), (2, .int _), (4, .int _), (5, .int _)]) hx hb dX12_stand_196 hl (k := 3) rfl (x_inc (show Int32.ofInt 1 = (nI 1) by decide) _) (by decide) rfl (fun ls hl => ?_)
                    exact w199 _ _ _ _ _ _ _ _ hw (lv_sub hl [1, 2, 3, 0, 4] rfl) h
                  intro M v1 v2 v3 v4 v5 H locs ls hw hl h
                  rw [f_X12_stand_120_s] at h
                  refine lv_iload hx hb dX12_stand_120 (lv_at hl 5 rfl) ?_
                  refine x_if_le (tgt := 187) hx hb h dX12_stand_122 (by decide) (fun h => ?_) (fun h => ?_)
                  · exact w187 _ _ _ _ _ _ _ _ _ hw (lv_sub hl [0, 1, 2, 3, 4, 5] rfl) h
                  · refine lv_aload_n hx hb dX12_stand_125 rfl (lv_at hl 0 rfl) ?_
                    refine xh_getr C hw 0 0 sM_0 (x_lt hN rfl) rfl rfl rfl lk_RX12_7 dX12_stand_126 ?_
                    refine lv_bipush (v := (nI 50)) hx hb dX12_stand_129 (by decide) ?_
                    refine lv_bipush (v := (nI 10)) hx hb dX12_stand_131 (by decide) ?_
                    refine lv_aload_n hx hb dX12_stand_133 rfl (lv_at hl 0 rfl) ?_
                    refine xh_getr C hw 0 29 sM_0 (x_lt hN rfl) rfl rfl rfl lk_RX12_52 dX12_stand_134 ?_
                    refine lv_iload hx hb dX12_stand_137 (lv_at hl 5 rfl) ?_
                    refine lv_iconst (v := (nI 1)) hx hb dX12_stand_139 (by decide) ?_
                    refine lv_isub hx hb dX12_stand_140 ?_
                    refine xh_iald C hw 15 100 h sM_15 (x_lt hN rfl) dX12_stand_141 (fun r141 h => ?_)
                    refine lv_imul hx hb dX12_stand_142 ?_
                    refine lv_iadd hx hb dX12_stand_143 ?_
                    refine lv_iconst (v := (nI 2)) hx hb dX12_stand_144 (by decide) ?_
                    refine lv_iadd hx hb dX12_stand_145 ?_
                    refine xh_iald C hw 1 5512 h sM_1 (x_lt hN rfl) dX12_stand_146 (fun r146 h => ?_)
                    refine lv_aload_n hx hb dX12_stand_147 rfl (lv_at hl 0 rfl) ?_
                    refine xh_getr C hw 0 0 sM_0 (x_lt hN rfl) rfl rfl rfl lk_RX12_7 dX12_stand_148 ?_
                    refine lv_bipush (v := (nI 50)) hx hb dX12_stand_151 (by decide) ?_
                    refine lv_bipush (v := (nI 10)) hx hb dX12_stand_153 (by decide) ?_
                    refine lv_iload hx hb dX12_stand_155 (lv_at hl 4 rfl) ?_
                    refine lv_imul hx hb dX12_stand_157 ?_
                    refine lv_iadd hx hb dX12_stand_158 ?_
                    refine lv_iconst (v := (nI 2)) hx hb dX12_stand_159 (by decide) ?_
                    refine lv_iadd hx hb dX12_stand_160 ?_
                    refine xh_iald C hw 1 5512 h sM_1 (x_lt hN rfl) dX12_stand_161 (fun r161 h => ?_)
                    refine x_icmp_le (tgt := 187) hx hb h dX12_stand_162 (by decide) (fun h => ?_) (fun h => ?_)
                    · exact w187 _ _ _ _ _ _ _ _ _ hw (lv_sub hl [0, 1, 2, 3, 4, 5] rfl) h
                    · refine lv_aload_n hx hb dX12_stand_165 rfl (lv_at hl 0 rfl) ?_
                      refine xh_getr C hw 0 29 sM_0 (x_lt hN rfl) rfl rfl rfl lk_RX12_52 dX12_stand_166 ?_
                      refine lv_iload hx hb dX12_stand_169 (lv_at hl 5 rfl) ?_
                      refine lv_aload_n hx hb dX12_stand_171 rfl (lv_at hl 0 rfl) ?_
                      refine xh_getr C hw 0 29 sM_0 (x_lt hN rfl) rfl rfl rfl lk_RX12_52 dX12_stand_172 ?_
                      refine lv_iload hx hb dX12_stand_175 (lv_at hl 5 rfl) ?_
                      refine lv_iconst (v := (nI 1)) hx hb dX12_stand_177 (by decide) ?_
                      refine lv_isub hx hb dX12_stand_178 ?_
                      refine xh_iald C hw 15 100 h sM_15 (x_lt hN rfl) dX12_stand_179 (fun r179 h => ?_)
                      refine xh_iast C hw 15 100 h sM_15 (x_lt hN rfl) dX12_stand_180 (fun H locs M hw h => ?_)
                      refine lv_iinc (lv' := [(5, .int _), (0, .ref (q 0)), (1, .int _), (2, .int _), (3, .int _), (4, .int _)]) hx hb dX12_stand_181 hl (k := 5) rfl (x_inc (show Int32.ofInt (-1) = (-1) by decide) _) (by decide) rfl (fun ls hl => ?_)
                      refine lv_goto (tgt := 120) hx hb dX12_stand_184 (by decide) ?_
                      exact ih120 _ _ _ _ _ _ _ _ _ hw (lv_sub hl [1, 2, 3, 4, 5, 0] rfl) h
              have w208 : ∀ (n : Nat) (M : x_M) (v3 : Int32) (v4 : Int32) (H : Heap) (locs : List Loc) (ls : Array Slot), x_B D cy q ad x_spM 24 s H locs M → lv_has ls 6 [(0, .ref (q 0)), (3, .int v3), (4, .int v4)] → f_X12_stand_208 n M v3 v4 = some z → W p l e rm_X12_stand s m args below meth c H locs 0 0 Q (F0 m 208 ls []) := by
                intro n
                induction n with
                | zero =>
                  intro M v3 v4 H locs ls hw hl h
                  rw [f_X12_stand_208_0] at h
                  cases h
                | succ n208 ih208 =>
                  intro M v3 v4 H locs ls hw hl h
                  rw [f_X12_stand_208_s] at h
                  refine lv_iload hx hb dX12_stand_208 (lv_at hl 2 rfl) ?_
                  refine lv_iload_n hx hb dX12_stand_210 rfl (lv_at hl 1 rfl) ?_
                  refine x_icmp_ge (tgt := 231) hx hb h dX12_stand_211 (by decide) (fun h => ?_) (fun h => ?_)
                  · exact hret dX12_stand_231 hw h
                  · refine lv_aload_n hx hb dX12_stand_214 rfl (lv_at hl 0 rfl) ?_
                    refine lv_aload_n hx hb dX12_stand_215 rfl (lv_at hl 0 rfl) ?_
                    refine xh_getr C hw 0 29 sM_0 (x_lt hN rfl) rfl rfl rfl lk_RX12_52 dX12_stand_216 ?_
                    refine lv_iload hx hb dX12_stand_219 (lv_at hl 2 rfl) ?_
                    refine xh_iald C hw 15 100 h sM_15 (x_lt hN rfl) dX12_stand_221 (fun r221 h => ?_)
                    refine xh_cVv C hw (rest := []) h (fun _ hy => c_X12_happens hq hy) ml_RX12_252 mv_X12_happens sM_0 (x_lt hN rfl) rfl ⟨rfl, rfl, by decide, by decide⟩ rfl hl.1 rfl (Nat.le_of_ble_eq_true rfl) dX12_stand_222 (fun H locs _ M hw h => ?_)
                    refine lv_iinc (lv' := [(4, .int _), (0, .ref (q 0)), (3, .int _)]) hx hb dX12_stand_225 hl (k := 2) rfl (x_inc (show Int32.ofInt 1 = (nI 1) by decide) _) (by decide) rfl (fun ls hl => ?_)
                    refine lv_goto (tgt := 208) hx hb dX12_stand_228 (by decide) ?_
                    exact ih208 _ _ _ _ _ _ hw (lv_sub hl [1, 2, 0] rfl) h
              intro M v1 v2 v3 v4 H locs ls hw hl h
              rw [f_X12_stand_58_s] at h
              refine lv_iload hx hb dX12_stand_58 (lv_at hl 4 rfl) ?_
              refine lv_aload_n hx hb dX12_stand_60 rfl (lv_at hl 0 rfl) ?_
              refine xh_getr C hw 0 0 sM_0 (x_lt hN rfl) rfl rfl rfl lk_RX12_7 dX12_stand_61 ?_
              refine lv_iconst (v := (nI 5)) hx hb dX12_stand_64 (by decide) ?_
              refine xh_iald C hw 1 5512 h sM_1 (x_lt hN rfl) dX12_stand_65 (fun r65 h => ?_)
              refine x_icmp_ge (tgt := 205) hx hb h dX12_stand_66 (by decide) (fun h => ?_) (fun h => ?_)
              · refine lv_iconst (v := (nI 0)) hx hb dX12_stand_205 (by decide) ?_
                refine lv_istore (lv' := [(4, .int _), (0, .ref (q 0)), (1, .int _), (2, .int _), (3, .int _)]) hx hb dX12_stand_206 hl (by decide) rfl (fun ls hl => ?_)
                exact w208 _ _ _ _ _ _ _ hw (lv_sub hl [1, 4, 0] rfl) h
              · refine lv_aload_n hx hb dX12_stand_69 rfl (lv_at hl 0 rfl) ?_
                refine xh_getr C hw 0 28 sM_0 (x_lt hN rfl) rfl rfl rfl lk_RX12_49 dX12_stand_70 ?_
                refine lv_iload hx hb dX12_stand_73 (lv_at hl 4 rfl) ?_
                refine lv_iconst (v := (nI 0)) hx hb dX12_stand_75 (by decide) ?_
                refine xh_iast C hw 14 100 h sM_14 (x_lt hN rfl) dX12_stand_76 (fun H locs M hw h => ?_)
                refine lv_aload_n hx hb dX12_stand_77 rfl (lv_at hl 0 rfl) ?_
                refine xh_getr C hw 0 30 sM_0 (x_lt hN rfl) rfl rfl rfl lk_RX12_55 dX12_stand_78 ?_
                refine lv_iload hx hb dX12_stand_81 (lv_at hl 4 rfl) ?_
                refine lv_iconst (v := (nI 0)) hx hb dX12_stand_83 (by decide) ?_
                refine xh_zast C hw 16 100 h sM_16 (x_lt hN rfl) dX12_stand_84 (fun H locs M hw h => ?_)
                refine lv_aload_n hx hb dX12_stand_85 rfl (lv_at hl 0 rfl) ?_
                refine lv_iload hx hb dX12_stand_86 (lv_at hl 4 rfl) ?_
                refine lv_iload_n hx hb dX12_stand_88 rfl (lv_at hl 2 rfl) ?_
                refine xh_cVi C hw (rest := []) h (fun _ hy => c_X12_isKnown hq hy) ml_RX12_249 mv_X12_isKnown sM_0 (x_lt hN rfl) rfl ⟨rfl, rfl, by decide, by decide⟩ rfl hl.1 rfl (Nat.le_of_ble_eq_true rfl) dX12_stand_89 (fun H locs r89 M hw h => ?_)
                refine x_if_eq (tgt := 199) hx hb h dX12_stand_92 (by decide) (fun h => ?_) (fun h => ?_)
                · exact w199 _ _ _ _ _ _ _ _ hw (lv_sub hl [0, 1, 2, 3, 4] rfl) h
                · refine lv_aload_n hx hb dX12_stand_95 rfl (lv_at hl 0 rfl) ?_
                  refine xh_getr C hw 0 0 sM_0 (x_lt hN rfl) rfl rfl rfl lk_RX12_7 dX12_stand_96 ?_
                  refine lv_bipush (v := (nI 50)) hx hb dX12_stand_99 (by decide) ?_
                  refine lv_bipush (v := (nI 10)) hx hb dX12_stand_101 (by decide) ?_
                  refine lv_iload hx hb dX12_stand_103 (lv_at hl 4 rfl) ?_
                  refine lv_imul hx hb dX12_stand_105 ?_
                  refine lv_iadd hx hb dX12_stand_106 ?_
                  refine lv_iconst (v := (nI 2)) hx hb dX12_stand_107 (by decide) ?_
                  refine lv_iadd hx hb dX12_stand_108 ?_
                  refine xh_iald C hw 1 5512 h sM_1 (x_lt hN rfl) dX12_stand_109 (fun r109 h => ?_)
                  refine lv_iload_n hx hb dX12_stand_110 rfl (lv_at hl 1 rfl) ?_
                  refine x_icmp_le (tgt := 117) hx hb h dX12_stand_111 (by decide) (fun h => ?_) (fun h => ?_)
                  · refine lv_iload_n hx hb dX12_stand_117 rfl (lv_at hl 3 rfl) ?_
                    refine lv_istore (lv' := [(5, .int _), (0, .ref (q 0)), (1, .int _), (2, .int _), (3, .int _), (4, .int _)]) hx hb dX12_stand_118 hl (by decide) rfl (fun ls hl => ?_)
                    exact w120 _ _ _ _ _ _ _ _ _ _ hw (lv_sub hl [1, 2, 3, 4, 5, 0] rfl) h
                  · refine lv_goto (tgt := 199) hx hb dX12_stand_114 (by decide) ?_
                    exact w199 _ _ _ _ _ _ _ _ hw (lv_sub hl [0, 1, 2, 3, 4] rfl) h
          intro M v1 v2 v3 H locs ls hw hl h
          rw [f_X12_stand_28_s] at h
          refine lv_iload_n hx hb dX12_stand_28 rfl (lv_at hl 3 rfl) ?_
          refine lv_iconst (v := (nI 4)) hx hb dX12_stand_29 (by decide) ?_
          refine x_icmp_ge (tgt := 53) hx hb h dX12_stand_30 (by decide) (fun h => ?_) (fun h => ?_)
          · refine lv_iconst (v := (nI 0)) hx hb dX12_stand_53 (by decide) ?_
            refine lv_istore_n (lv' := [(3, .int _), (0, .ref (q 0)), (1, .int _), (2, .int _)]) hx hb dX12_stand_54 rfl hl (by decide) rfl (fun ls hl => ?_)
            refine lv_iconst (v := (nI 0)) hx hb dX12_stand_55 (by decide) ?_
            refine lv_istore (lv' := [(4, .int _), (3, .int _), (0, .ref (q 0)), (1, .int _), (2, .int _)]) hx hb dX12_stand_56 hl (by decide) rfl (fun ls hl => ?_)
            exact w58 _ _ _ _ _ _ _ _ _ hw (lv_sub hl [2, 3, 4, 1, 0] rfl) h
          · refine lv_aload_n hx hb dX12_stand_33 rfl (lv_at hl 0 rfl) ?_
            refine xh_getr C hw 0 26 sM_0 (x_lt hN rfl) rfl rfl rfl lk_RX12_43 dX12_stand_34 ?_
            refine lv_iload_n hx hb dX12_stand_37 rfl (lv_at hl 3 rfl) ?_
            refine lv_iconst (v := (nI 0)) hx hb dX12_stand_38 (by decide) ?_
            refine xh_iast C hw 12 4 h sM_12 (x_lt hN rfl) dX12_stand_39 (fun H locs M hw h => ?_)
            refine lv_aload_n hx hb dX12_stand_40 rfl (lv_at hl 0 rfl) ?_
            refine xh_getr C hw 0 27 sM_0 (x_lt hN rfl) rfl rfl rfl lk_RX12_46 dX12_stand_41 ?_
            refine lv_iload_n hx hb dX12_stand_44 rfl (lv_at hl 3 rfl) ?_
            refine lv_iconst (v := (nI 0)) hx hb dX12_stand_45 (by decide) ?_
            refine xh_iast C hw 13 4 h sM_13 (x_lt hN rfl) dX12_stand_46 (fun H locs M hw h => ?_)
            refine lv_iinc (lv' := [(3, .int _), (0, .ref (q 0)), (1, .int _), (2, .int _)]) hx hb dX12_stand_47 hl (k := 3) rfl (x_inc (show Int32.ofInt 1 = (nI 1) by decide) _) (by decide) rfl (fun ls hl => ?_)
            refine lv_goto (tgt := 28) hx hb dX12_stand_50 (by decide) ?_
            exact ih28 _ _ _ _ _ _ _ hw (lv_sub hl [1, 2, 3, 0] rfl) h
      intro M v1 v2 v3 H locs ls hw hl h
      rw [f_X12_stand_7_s] at h
      refine lv_iload_n hx hb dX12_stand_7 rfl (lv_at hl 3 rfl) ?_
      refine lv_bipush (v := (nI 40)) hx hb dX12_stand_8 (by decide) ?_
      refine x_icmp_ge (tgt := 26) hx hb h dX12_stand_10 (by decide) (fun h => ?_) (fun h => ?_)
      · refine lv_iconst (v := (nI 0)) hx hb dX12_stand_26 (by decide) ?_
        refine lv_istore_n (lv' := [(3, .int _), (0, .ref (q 0)), (1, .int _), (2, .int _)]) hx hb dX12_stand_27 rfl hl (by decide) rfl (fun ls hl => ?_)
        exact w28 _ _ _ _ _ _ _ _ hw (lv_sub hl [1, 2, 3, 0] rfl) h
      · refine lv_aload_n hx hb dX12_stand_13 rfl (lv_at hl 0 rfl) ?_
        refine xh_getr C hw 0 25 sM_0 (x_lt hN rfl) rfl rfl rfl lk_RX12_40 dX12_stand_14 ?_
        refine lv_iload_n hx hb dX12_stand_17 rfl (lv_at hl 3 rfl) ?_
        refine lv_iconst (v := (nI 0)) hx hb dX12_stand_18 (by decide) ?_
        refine xh_iast C hw 11 40 h sM_11 (x_lt hN rfl) dX12_stand_19 (fun H locs M hw h => ?_)
        refine lv_iinc (lv' := [(3, .int _), (0, .ref (q 0)), (1, .int _), (2, .int _)]) hx hb dX12_stand_20 hl (k := 3) rfl (x_inc (show Int32.ofInt 1 = (nI 1) by decide) _) (by decide) rfl (fun ls hl => ?_)
        refine lv_goto (tgt := 7) hx hb dX12_stand_23 (by decide) ?_
        exact ih7 _ _ _ _ _ _ _ hw (lv_sub hl [1, 2, 3, 0] rfl) h
  unfold f_X12_stand at h
  refine lv_aload_n hx hb dX12_stand_0 rfl (lv_at hl 0 rfl) ?_
  refine lv_iconst (v := (nI 0)) hx hb dX12_stand_1 (by decide) ?_
  refine xh_puti C hw 0 24 h sM_0 (x_lt hN rfl) rfl rfl rfl lk_RX12_212 rfl rfl dX12_stand_2 (fun H locs M hw h => ?_)
  refine lv_iconst (v := (nI 0)) hx hb dX12_stand_5 (by decide) ?_
  refine lv_istore_n (lv' := [(3, .int _), (0, .ref (q 0)), (1, .int _), (2, .int _)]) hx hb dX12_stand_6 rfl hl (by decide) rfl (fun ls hl => ?_)
  exact w7 _ _ _ _ _ _ _ _ hw (lv_sub hl [1, 2, 3, 0] rfl) h
def f_X12_stands_32 (M : x_M) : Option (Int32 × x_M) := some ((-1000000001), M)
def f_X12_stands_185 (k81 : x_M → Int32 → Int32 → Int32 → Int32 → Int32 → Option (Int32 × x_M)) (M : x_M) (v1 : Int32) (v2 : Int32) (v4 : Int32) (v6 : Int32) (t0 : Int32) (t1 : Int32) : Option (Int32 × x_M) := k81 M v1 v2 v4 (t0 + t1) (v6 + (nI 1))
def f_X12_stands_184 (k81 : x_M → Int32 → Int32 → Int32 → Int32 → Int32 → Option (Int32 × x_M)) (M : x_M) (v1 : Int32) (v2 : Int32) (v4 : Int32) (v6 : Int32) (t0 : Int32) : Option (Int32 × x_M) := f_X12_stands_185 k81 M v1 v2 v4 v6 t0 (nI 0)
def f_X12_stands_154 (k81 : x_M → Int32 → Int32 → Int32 → Int32 → Int32 → Option (Int32 × x_M)) (M : x_M) (v1 : Int32) (v2 : Int32) (v4 : Int32) (v5 : Int32) (v6 : Int32) (t0 : Int32) : Option (Int32 × x_M) := x_rd 100 (M 8) v6 (fun r164 => if r164 = v1 then if t0 = 0 then f_X12_stands_184 k81 M v1 v2 v4 v6 v5 else x_rd 100 (M 9) v6 (fun r180 => f_X12_stands_185 k81 M v1 v2 v4 v6 v5 r180) else f_X12_stands_184 k81 M v1 v2 v4 v6 v5)
def f_X12_stands_149 (k81 : x_M → Int32 → Int32 → Int32 → Int32 → Int32 → Option (Int32 × x_M)) (M : x_M) (v1 : Int32) (v2 : Int32) (v4 : Int32) (v5 : Int32) (v6 : Int32) : Option (Int32 × x_M) := f_X12_stands_154 k81 M v1 v2 v4 v5 v6 (nI 1)
def f_X12_stands_153 (k81 : x_M → Int32 → Int32 → Int32 → Int32 → Int32 → Option (Int32 × x_M)) (M : x_M) (v1 : Int32) (v2 : Int32) (v4 : Int32) (v5 : Int32) (v6 : Int32) : Option (Int32 × x_M) := f_X12_stands_154 k81 M v1 v2 v4 v5 v6 (nI 0)
def f_X12_stands_81 : Nat → x_M → Int32 → Int32 → Int32 → Int32 → Int32 → Option (Int32 × x_M)
  | 0, _, _, _, _, _, _ => none
  | n + 1, M, v1, v2, v4, v5, v6 => x_gf M 0 24 (fun r84 => if r84 ≤ v6 then some (v5, M) else if v4 = (nI 4) then x_rd 100 (M 10) v6 (fun r102 => if v2 < r102 then f_X12_stands_154 (f_X12_stands_81 n) M v1 v2 v4 v5 v6 (nI 0) else f_X12_stands_154 (f_X12_stands_81 n) M v1 v2 v4 v5 v6 (nI 1)) else x_rd 100 (M 10) v6 (fun r121 => if r121 ≤ v2 then f_X12_stands_153 (f_X12_stands_81 n) M v1 v2 v4 v5 v6 else if v4 = 0 then f_X12_stands_149 (f_X12_stands_81 n) M v1 v2 v4 v5 v6 else x_rd 100 (M 10) v6 (fun r137 => x_rd 5512 (M 1) (nI 3) (fun r144 => if (v2 + r144) < r137 then f_X12_stands_153 (f_X12_stands_81 n) M v1 v2 v4 v5 v6 else f_X12_stands_149 (f_X12_stands_81 n) M v1 v2 v4 v5 v6))))
theorem f_X12_stands_81_0 (M : x_M) (v1 : Int32) (v2 : Int32) (v4 : Int32) (v5 : Int32) (v6 : Int32) : f_X12_stands_81 0 M v1 v2 v4 v5 v6 = none := rfl
theorem f_X12_stands_81_s (n : Nat) (M : x_M) (v1 : Int32) (v2 : Int32) (v4 : Int32) (v5 : Int32) (v6 : Int32) : f_X12_stands_81 (n + 1) M v1 v2 v4 v5 v6 = (x_gf M 0 24 (fun r84 => if r84 ≤ v6 then some (v5, M) else if v4 = (nI 4) then x_rd 100 (M 10) v6 (fun r102 => if v2 < r102 then f_X12_stands_154 (f_X12_stands_81 n) M v1 v2 v4 v5 v6 (nI 0) else f_X12_stands_154 (f_X12_stands_81 n) M v1 v2 v4 v5 v6 (nI 1)) else x_rd 100 (M 10) v6 (fun r121 => if r121 ≤ v2 then f_X12_stands_153 (f_X12_stands_81 n) M v1 v2 v4 v5 v6 else if v4 = 0 then f_X12_stands_149 (f_X12_stands_81 n) M v1 v2 v4 v5 v6 else x_rd 100 (M 10) v6 (fun r137 => x_rd 5512 (M 1) (nI 3) (fun r144 => if (v2 + r144) < r137 then f_X12_stands_153 (f_X12_stands_81 n) M v1 v2 v4 v5 v6 else f_X12_stands_149 (f_X12_stands_81 n) M v1 v2 v4 v5 v6))))) := rfl
def f_X12_stands (M : x_M) (a1 : Int32) (a2 : Int32) (a3 : Int32) (a4 : Int32) : Option (Int32 × x_M) := x_bn (f_X12_isMember M a1) (fun r2 M => if r2 = 0 then f_X12_stands_32 M else x_bn (f_X12_isDay M a2) (fun r9 M => if r9 = 0 then f_X12_stands_32 M else x_bn (f_X12_isDay M a3) (fun r16 M => if r16 = 0 then f_X12_stands_32 M else x_bn (f_X12_in M a4 (nI 0) (nI 4)) (fun r26 M => if r26 = 0 then f_X12_stands_32 M else x_bn (f_X12_stand M a2 a3) (fun _ M => if a4 = (nI 1) then x_dv (nI 360) (x_rd 40 (M 11) (((nI 4) * a1) + (a2 / (nI 360))) (fun r60 => some (r60, M))) else if a4 = (nI 2) then x_bn (f_X12_tierOn M a1 a2) (fun r71 M => some (r71, M)) else f_X12_stands_81 x_FU M a1 a2 a4 (nI 0) (nI 0))))))
abbrev rm_X12_stands : Room := { frames := 7, cells := 0, slots := 0, locals := 174 }
set_option maxHeartbeats 4000000 in
set_option maxRecDepth 100000 in
theorem c_X12_stands {l : Launch} {D : va_G} {cy : Nat → ClassId} {q ad : Nat → Nat} {s0 : State} (hq : x_Q q 24 s0.heap.size) {M : x_M} {a1 : Int32} {a2 : Int32} {a3 : Int32} {a4 : Int32} {z : Int32 × x_M} (h : f_X12_stands M a1 a2 a3 a4 = some z) : x_Ci l D cy q ad x_spM 24 s0 yX12_stands (x_uw yX12_stands cX12_stands 8 (some .int)) rm_X12_stands [.ref (q 0), .int a1, .int a2, .int a3, .int a4] M z.1 z.2 := by
  have hN : 24 ≤ 24 := Nat.le_refl _
  refine x_meti hq (by decide) (Nat.le_of_ble_eq_true rfl) ?_
  intro p e s m args below meth c ls Q C hret hl hw
  have hx := C.1.1
  have hb := C.1.2.1
  have ho := C.1.2.2.2.1
  have hL := C.1.2.2.2.2
  have hl : lv_has ls 8 [(0, .ref (q 0)), (1, .int a1), (2, .int a2), (3, .int a3), (4, .int a4)] := hl
  have w32 : ∀ (M : x_M) (H : Heap) (locs : List Loc) (ls : Array Slot), x_B D cy q ad x_spM 24 s H locs M → lv_has ls 8 [] → f_X12_stands_32 M = some z → W p l e rm_X12_stands s m args below meth c H locs 0 0 Q (F0 m 32 ls []) := by
    intro M H locs ls hw hl h
    unfold f_X12_stands_32 at h
    refine lv_ldc hx hb ho (hL _ kc_RX12_85) dX12_stands_32 ?_
    exact hret dX12_stands_34 rfl hw h
  have w81 : ∀ (n : Nat) (M : x_M) (v1 : Int32) (v2 : Int32) (v4 : Int32) (v5 : Int32) (v6 : Int32) (H : Heap) (locs : List Loc) (ls : Array Slot), x_B D cy q ad x_spM 24 s H locs M → lv_has ls 8 [(0, .ref (q 0)), (1, .int v1), (2, .int v2), (4, .int v4), (5, .int v5), (6, .int v6)] → f_X12_stands_81 n M v1 v2 v4 v5 v6 = some z → W p l e rm_X12_stands s m args below meth c H locs 0 0 Q (F0 m 81 ls []) := by
    intro n
    induction n with
    | zero =>
      intro M v1 v2 v4 v5 v6 H locs ls hw hl h
      rw [f_X12_stands_81_0] at h
      cases h
    | succ n81 ih81 =>
      have w154 : ∀ (M : x_M) (v1 : Int32) (v2 : Int32) (v4 : Int32) (v5 : Int32) (v6 : Int32) (t0 : Int32) (H : Heap) (locs : List Loc) (ls : Array Slot), x_B D cy q ad x_spM 24 s H locs M → lv_has ls 8 [(0, .ref (q 0)), (1, .int v1), (2, .int v2), (4, .int v4), (5, .int v5), (6, .int v6)] → f_X12_stands_154 (f_X12_stands_81 n81) M v1 v2 v4 v5 v6 t0 = some z → W p l e rm_X12_stands s m args below meth c H locs 0 0 Q (F0 m 154 ls [.int t0]) := by
        have w185 : ∀ (M : x_M) (v1 : Int32) (v2 : Int32) (v4 : Int32) (v6 : Int32) (t0 : Int32) (t1 : Int32) (H : Heap) (locs : List Loc) (ls : Array Slot), x_B D cy q ad x_spM 24 s H locs M → lv_has ls 8 [(0, .ref (q 0)), (1, .int v1), (2, .int v2), (4, .int v4), (6, .int v6)] → f_X12_stands_185 (f_X12_stands_81 n81) M v1 v2 v4 v6 t0 t1 = some z → W p l e rm_X12_stands s m args below meth c H locs 0 0 Q (F0 m 185 ls [.int t1, .int t0]) := by
          intro M v1 v2 v4 v6 t0 t1 H locs ls hw hl h
          unfold f_X12_stands_185 at h
          refine lv_iadd hx hb dX12_stands_185 ?_
          refine lv_istore (lv' := [(5, .int _), (0, .ref (q 0)), (1, .int _), (2, .int _), (4, .int _), (6, .int _)]) hx hb dX12_stands_186 hl (by decide) rfl (fun ls hl => ?_)
          refine lv_iinc (lv' := [(6, .int _), (5, .int _), (0, .ref (q 0)), (1, .int _), (2, .int _), (4, .int _)]) hx hb dX12_stands_188 hl (k := 5) rfl (x_inc (show Int32.ofInt 1 = (nI 1) by decide) _) (by decide) rfl (fun ls hl => ?_)
          refine lv_goto (tgt := 81) hx hb dX12_stands_191 (by decide) ?_
          exact ih81 _ _ _ _ _ _ _ _ _ hw (lv_sub hl [2, 3, 4, 5, 1, 0] rfl) h
        have w184 : ∀ (M : x_M) (v1 : Int32) (v2 : Int32) (v4 : Int32) (v6 : Int32) (t0 : Int32) (H : Heap) (locs : List Loc) (ls : Array Slot), x_B D cy q ad x_spM 24 s H locs M → lv_has ls 8 [(0, .ref (q 0)), (1, .int v1), (2, .int v2), (4, .int v4), (6, .int v6)] → f_X12_stands_184 (f_X12_stands_81 n81) M v1 v2 v4 v6 t0 = some z → W p l e rm_X12_stands s m args below meth c H locs 0 0 Q (F0 m 184 ls [.int t0]) := by
          intro M v1 v2 v4 v6 t0 H locs ls hw hl h
          unfold f_X12_stands_184 at h
          refine lv_iconst (v := (nI 0)) hx hb dX12_stands_184 (by decide) ?_
          exact w185 _ _ _ _ _ _ _ _ _ _ hw (lv_sub hl [0, 1, 2, 3, 4] rfl) h
        intro M v1 v2 v4 v5 v6 t0 H locs ls hw hl h
        unfold f_X12_stands_154 at h
        refine lv_istore (lv' := [(7, .int _), (0, .ref (q 0)), (1, .int _), (2, .int _), (4, .int _), (5, .int _), (6, .int _)]) hx hb dX12_stands_154 hl (by decide) rfl (fun ls hl => ?_)
        refine lv_iload hx hb dX12_stands_156 (lv_at hl 5 rfl) ?_
        refine lv_aload_n hx hb dX12_stands_158 rfl (lv_at hl 1 rfl) ?_
        refine xh_getr C hw 0 21 sM_0 (x_lt hN rfl) rfl rfl rfl lk_RX12_31 dX12_stands_159 ?_
        refine lv_iload hx hb dX12_stands_162 (lv_at hl 6 rfl) ?_
        refine xh_iald C hw 8 100 h sM_8 (x_lt hN rfl) dX12_stands_164 (fun r164 h => ?_)
        refine lv_iload_n hx hb dX12_stands_165 rfl (lv_at hl 2 rfl) ?_
        refine x_icmp_ne (tgt := 184) hx hb h dX12_stands_166 (by decide) (fun h => ?_) (fun h => ?_)
        · refine lv_iload hx hb dX12_stands_169 (lv_at hl 0 rfl) ?_
          refine x_if_eq (tgt := 184) hx hb h dX12_stands_171 (by decide) (fun h => ?_) (fun h => ?_)
          · exact w184 _ _ _ _ _ _ _ _ _ hw (lv_sub hl [1, 2, 3, 4, 6] rfl) h
          · refine lv_aload_n hx hb dX12_stands_174 rfl (lv_at hl 1 rfl) ?_
            refine xh_getr C hw 0 22 sM_0 (x_lt hN rfl) rfl rfl rfl lk_RX12_34 dX12_stands_175 ?_
            refine lv_iload hx hb dX12_stands_178 (lv_at hl 6 rfl) ?_
            refine xh_iald C hw 9 100 h sM_9 (x_lt hN rfl) dX12_stands_180 (fun r180 h => ?_)
            refine lv_goto (tgt := 185) hx hb dX12_stands_181 (by decide) ?_
            exact w185 _ _ _ _ _ _ _ _ _ _ hw (lv_sub hl [1, 2, 3, 4, 6] rfl) h
        · exact w184 _ _ _ _ _ _ _ _ _ hw (lv_sub hl [1, 2, 3, 4, 6] rfl) h
      have w149 : ∀ (M : x_M) (v1 : Int32) (v2 : Int32) (v4 : Int32) (v5 : Int32) (v6 : Int32) (H : Heap) (locs : List Loc) (ls : Array Slot), x_B D cy q ad x_spM 24 s H locs M → lv_has ls 8 [(0, .ref (q 0)), (1, .int v1), (2, .int v2), (4, .int v4), (5, .int v5), (6, .int v6)] → f_X12_stands_149 (f_X12_stands_81 n81) M v1 v2 v4 v5 v6 = some z → W p l e rm_X12_stands s m args below meth c H locs 0 0 Q (F0 m 149 ls []) := by
        intro M v1 v2 v4 v5 v6 H locs ls hw hl h
        unfold f_X12_stands_149 at h
        refine lv_iconst (v := (nI 1)) hx hb dX12_stands_149 (by decide) ?_
        refine lv_goto (tgt := 154) hx hb dX12_stands_150 (by decide) ?_
        exact w154 _ _ _ _ _ _ _ _ _ _ hw (lv_sub hl [0, 1, 2, 3, 4, 5] rfl) h
      have w153 : ∀ (M : x_M) (v1 : Int32) (v2 : Int32) (v4 : Int32) (v5 : Int32) (v6 : Int32) (H : Heap) (locs : List Loc) (ls : Array Slot), x_B D cy q ad x_spM 24 s H locs M → lv_has ls 8 [(0, .ref (q 0)), (1, .int v1), (2, .int v2), (4, .int v4), (5, .int v5), (6, .int v6)] → f_X12_stands_153 (f_X12_stands_81 n81) M v1 v2 v4 v5 v6 = some z → W p l e rm_X12_stands s m args below meth c H locs 0 0 Q (F0 m 153 ls []) := by
        intro M v1 v2 v4 v5 v6 H locs ls hw hl h
        unfold f_X12_stands_153 at h
        refine lv_iconst (v := (nI 0)) hx hb dX12_stands_153 (by decide) ?_
        exact w154 _ _ _ _ _ _ _ _ _ _ hw (lv_sub hl [0, 1, 2, 3, 4, 5] rfl) h
      intro M v1 v2 v4 v5 v6 H locs ls hw hl h
      rw [f_X12_stands_81_s] at h
      refine lv_iload hx hb dX12_stands_81 (lv_at hl 5 rfl) ?_
      refine lv_aload_n hx hb dX12_stands_83 rfl (lv_at hl 0 rfl) ?_
      refine xh_geti C hw 0 24 h sM_0 (x_lt hN rfl) rfl rfl rfl lk_RX12_212 dX12_stands_84 (fun r84 h => ?_)
      refine x_icmp_ge (tgt := 194) hx hb h dX12_stands_87 (by decide) (fun h => ?_) (fun h => ?_)
      · refine lv_iload hx hb dX12_stands_194 (lv_at hl 4 rfl) ?_
        exact hret dX12_stands_196 rfl hw h
      · refine lv_iload hx hb dX12_stands_90 (lv_at hl 3 rfl) ?_
        refine lv_iconst (v := (nI 4)) hx hb dX12_stands_92 (by decide) ?_
        refine x_icmp_ne (tgt := 115) hx hb h dX12_stands_93 (by decide) (fun h => ?_) (fun h => ?_)
        · refine lv_aload_n hx hb dX12_stands_96 rfl (lv_at hl 0 rfl) ?_
          refine xh_getr C hw 0 23 sM_0 (x_lt hN rfl) rfl rfl rfl lk_RX12_37 dX12_stands_97 ?_
          refine lv_iload hx hb dX12_stands_100 (lv_at hl 5 rfl) ?_
          refine xh_iald C hw 10 100 h sM_10 (x_lt hN rfl) dX12_stands_102 (fun r102 h => ?_)
          refine lv_iload_n hx hb dX12_stands_103 rfl (lv_at hl 2 rfl) ?_
          refine x_icmp_gt (tgt := 111) hx hb h dX12_stands_104 (by decide) (fun h => ?_) (fun h => ?_)
          · refine lv_iconst (v := (nI 0)) hx hb dX12_stands_111 (by decide) ?_
            refine lv_goto (tgt := 154) hx hb dX12_stands_112 (by decide) ?_
            exact w154 _ _ _ _ _ _ _ _ _ _ hw (lv_sub hl [0, 1, 2, 3, 4, 5] rfl) h
          · refine lv_iconst (v := (nI 1)) hx hb dX12_stands_107 (by decide) ?_
            refine lv_goto (tgt := 154) hx hb dX12_stands_108 (by decide) ?_
            exact w154 _ _ _ _ _ _ _ _ _ _ hw (lv_sub hl [0, 1, 2, 3, 4, 5] rfl) h
        · refine lv_aload_n hx hb dX12_stands_115 rfl (lv_at hl 0 rfl) ?_
          refine xh_getr C hw 0 23 sM_0 (x_lt hN rfl) rfl rfl rfl lk_RX12_37 dX12_stands_116 ?_
          refine lv_iload hx hb dX12_stands_119 (lv_at hl 5 rfl) ?_
          refine xh_iald C hw 10 100 h sM_10 (x_lt hN rfl) dX12_stands_121 (fun r121 h => ?_)
          refine lv_iload_n hx hb dX12_stands_122 rfl (lv_at hl 2 rfl) ?_
          refine x_icmp_le (tgt := 153) hx hb h dX12_stands_123 (by decide) (fun h => ?_) (fun h => ?_)
          · exact w153 _ _ _ _ _ _ _ _ _ hw (lv_sub hl [0, 1, 2, 3, 4, 5] rfl) h
          · refine lv_iload hx hb dX12_stands_126 (lv_at hl 3 rfl) ?_
            refine x_if_eq (tgt := 149) hx hb h dX12_stands_128 (by decide) (fun h => ?_) (fun h => ?_)
            · exact w149 _ _ _ _ _ _ _ _ _ hw (lv_sub hl [0, 1, 2, 3, 4, 5] rfl) h
            · refine lv_aload_n hx hb dX12_stands_131 rfl (lv_at hl 0 rfl) ?_
              refine xh_getr C hw 0 23 sM_0 (x_lt hN rfl) rfl rfl rfl lk_RX12_37 dX12_stands_132 ?_
              refine lv_iload hx hb dX12_stands_135 (lv_at hl 5 rfl) ?_
              refine xh_iald C hw 10 100 h sM_10 (x_lt hN rfl) dX12_stands_137 (fun r137 h => ?_)
              refine lv_iload_n hx hb dX12_stands_138 rfl (lv_at hl 2 rfl) ?_
              refine lv_aload_n hx hb dX12_stands_139 rfl (lv_at hl 0 rfl) ?_
              refine xh_getr C hw 0 0 sM_0 (x_lt hN rfl) rfl rfl rfl lk_RX12_7 dX12_stands_140 ?_
              refine lv_iconst (v := (nI 3)) hx hb dX12_stands_143 (by decide) ?_
              refine xh_iald C hw 1 5512 h sM_1 (x_lt hN rfl) dX12_stands_144 (fun r144 h => ?_)
              refine lv_iadd hx hb dX12_stands_145 ?_
              refine x_icmp_gt (tgt := 153) hx hb h dX12_stands_146 (by decide) (fun h => ?_) (fun h => ?_)
              · exact w153 _ _ _ _ _ _ _ _ _ hw (lv_sub hl [0, 1, 2, 3, 4, 5] rfl) h
              · exact w149 _ _ _ _ _ _ _ _ _ hw (lv_sub hl [0, 1, 2, 3, 4, 5] rfl) h
  unfold f_X12_stands at h
  refine lv_aload_n hx hb dX12_stands_0 rfl (lv_at hl 0 rfl) ?_
  refine lv_iload_n hx hb dX12_stands_1 rfl (lv_at hl 1 rfl) ?_
  refine xh_cVi C hw (rest := []) h (fun _ hy => c_X12_isMember hq hy) ml_RX12_87 mv_X12_isMember sM_0 (x_lt hN rfl) rfl ⟨rfl, rfl, by decide, by decide⟩ rfl hl.1 rfl (Nat.le_of_ble_eq_true rfl) dX12_stands_2 (fun H locs r2 M hw h => ?_)
  refine x_if_eq (tgt := 32) hx hb h dX12_stands_5 (by decide) (fun h => ?_) (fun h => ?_)
  · exact w32 _ _ _ _ hw (lv_sub hl [] rfl) h
  · refine lv_iload_n hx hb dX12_stands_8 rfl (lv_at hl 2 rfl) ?_
    refine xh_cSi C hw (rest := []) h (fun _ hy => c_X12_isDay hq hy) ml_RX12_194 st_X12_isDay ⟨rfl, rfl, by decide, by decide⟩ rfl hl.1 rfl (Nat.le_of_ble_eq_true rfl) dX12_stands_9 (fun H locs r9 M hw h => ?_)
    refine x_if_eq (tgt := 32) hx hb h dX12_stands_12 (by decide) (fun h => ?_) (fun h => ?_)
    · exact w32 _ _ _ _ hw (lv_sub hl [] rfl) h
    · refine lv_iload_n hx hb dX12_stands_15 rfl (lv_at hl 3 rfl) ?_
      refine xh_cSi C hw (rest := []) h (fun _ hy => c_X12_isDay hq hy) ml_RX12_194 st_X12_isDay ⟨rfl, rfl, by decide, by decide⟩ rfl hl.1 rfl (Nat.le_of_ble_eq_true rfl) dX12_stands_16 (fun H locs r16 M hw h => ?_)
      refine x_if_eq (tgt := 32) hx hb h dX12_stands_19 (by decide) (fun h => ?_) (fun h => ?_)
      · exact w32 _ _ _ _ hw (lv_sub hl [] rfl) h
      · refine lv_iload hx hb dX12_stands_22 (lv_at hl 4 rfl) ?_
        refine lv_iconst (v := (nI 0)) hx hb dX12_stands_24 (by decide) ?_
        refine lv_iconst (v := (nI 4)) hx hb dX12_stands_25 (by decide) ?_
        refine xh_cSi C hw (rest := []) h (fun _ hy => c_X12_in hq hy) ml_RX12_81 st_X12_in ⟨rfl, rfl, by decide, by decide⟩ rfl hl.1 rfl (Nat.le_of_ble_eq_true rfl) dX12_stands_26 (fun H locs r26 M hw h => ?_)
        refine x_if_ne (tgt := 35) hx hb h dX12_stands_29 (by decide) (fun h => ?_) (fun h => ?_)
        · exact w32 _ _ _ _ hw (lv_sub hl [] rfl) h
        · refine lv_aload_n hx hb dX12_stands_35 rfl (lv_at hl 0 rfl) ?_
          refine lv_iload_n hx hb dX12_stands_36 rfl (lv_at hl 2 rfl) ?_
          refine lv_iload_n hx hb dX12_stands_37 rfl (lv_at hl 3 rfl) ?_
          refine xh_cVv C hw (rest := []) h (fun _ hy => c_X12_stand hq hy) ml_RX12_255 mv_X12_stand sM_0 (x_lt hN rfl) rfl ⟨rfl, rfl, by decide, by decide⟩ rfl hl.1 rfl (Nat.le_of_ble_eq_true rfl) dX12_stands_38 (fun H locs _ M hw h => ?_)
          refine lv_iload hx hb dX12_stands_41 (lv_at hl 4 rfl) ?_
          refine lv_iconst (v := (nI 1)) hx hb dX12_stands_43 (by decide) ?_
          refine x_icmp_ne (tgt := 62) hx hb h dX12_stands_44 (by decide) (fun h => ?_) (fun h => ?_)
          · refine lv_aload_n hx hb dX12_stands_47 rfl (lv_at hl 0 rfl) ?_
            refine xh_getr C hw 0 25 sM_0 (x_lt hN rfl) rfl rfl rfl lk_RX12_40 dX12_stands_48 ?_
            refine lv_iconst (v := (nI 4)) hx hb dX12_stands_51 (by decide) ?_
            refine lv_iload_n hx hb dX12_stands_52 rfl (lv_at hl 1 rfl) ?_
            refine lv_imul hx hb dX12_stands_53 ?_
            refine lv_iload_n hx hb dX12_stands_54 rfl (lv_at hl 2 rfl) ?_
            refine lv_sipush (v := (nI 360)) hx hb dX12_stands_55 (by decide) ?_
            refine xh_idiv hx hb h dX12_stands_58 (fun h => ?_)
            refine lv_iadd hx hb dX12_stands_59 ?_
            refine xh_iald C hw 11 40 h sM_11 (x_lt hN rfl) dX12_stands_60 (fun r60 h => ?_)
            exact hret dX12_stands_61 rfl hw h
          · refine lv_iload hx hb dX12_stands_62 (lv_at hl 4 rfl) ?_
            refine lv_iconst (v := (nI 2)) hx hb dX12_stands_64 (by decide) ?_
            refine x_icmp_ne (tgt := 75) hx hb h dX12_stands_65 (by decide) (fun h => ?_) (fun h => ?_)
            · refine lv_aload_n hx hb dX12_stands_68 rfl (lv_at hl 0 rfl) ?_
              refine lv_iload_n hx hb dX12_stands_69 rfl (lv_at hl 1 rfl) ?_
              refine lv_iload_n hx hb dX12_stands_70 rfl (lv_at hl 2 rfl) ?_
              refine xh_cVi C hw (rest := []) h (fun _ hy => c_X12_tierOn hq hy) ml_RX12_227 mv_X12_tierOn sM_0 (x_lt hN rfl) rfl ⟨rfl, rfl, by decide, by decide⟩ rfl hl.1 rfl (Nat.le_of_ble_eq_true rfl) dX12_stands_71 (fun H locs r71 M hw h => ?_)
              exact hret dX12_stands_74 rfl hw h
            · refine lv_iconst (v := (nI 0)) hx hb dX12_stands_75 (by decide) ?_
              refine lv_istore (lv' := [(5, .int _), (0, .ref (q 0)), (1, .int _), (2, .int _), (3, .int _), (4, .int _)]) hx hb dX12_stands_76 hl (by decide) rfl (fun ls hl => ?_)
              refine lv_iconst (v := (nI 0)) hx hb dX12_stands_78 (by decide) ?_
              refine lv_istore (lv' := [(6, .int _), (5, .int _), (0, .ref (q 0)), (1, .int _), (2, .int _), (3, .int _), (4, .int _)]) hx hb dX12_stands_79 hl (by decide) rfl (fun ls hl => ?_)
              exact w81 _ _ _ _ _ _ _ _ _ _ hw (lv_sub hl [2, 3, 4, 6, 1, 0] rfl) h
def f_X12_brought_22 (M : x_M) : Option (Int32 × x_M) := some ((-1000000001), M)
def f_X12_brought_52 (M : x_M) : Option (Int32 × x_M) := some ((-1000000002), M)
def f_X12_brought (M : x_M) (a1 : Int32) (a2 : Int32) (a3 : Int32) : Option (Int32 × x_M) := x_bn (f_X12_isLine M a1) (fun r2 M => if r2 = 0 then f_X12_brought_22 M else x_bn (f_X12_isDay M a2) (fun r9 M => if r9 = 0 then f_X12_brought_22 M else x_bn (f_X12_isDay M a3) (fun r16 M => if r16 = 0 then f_X12_brought_22 M else x_bn (f_X12_isKnown M a1 a3) (fun r28 M => if r28 = 0 then f_X12_brought_52 M else x_rd 5512 (M 1) (((nI 50) + ((nI 10) * a1)) + (nI 2)) (fun r47 => if r47 ≤ a2 then x_bn (f_X12_stand M a2 a3) (fun _ M => x_rd 100 (M 14) a1 (fun r66 => some (r66, M))) else f_X12_brought_52 M)))))
abbrev rm_X12_brought : Room := { frames := 7, cells := 0, slots := 0, locals := 174 }
set_option maxHeartbeats 4000000 in
set_option maxRecDepth 100000 in
theorem c_X12_brought {l : Launch} {D : va_G} {cy : Nat → ClassId} {q ad : Nat → Nat} {s0 : State} (hq : x_Q q 24 s0.heap.size) {M : x_M} {a1 : Int32} {a2 : Int32} {a3 : Int32} {z : Int32 × x_M} (h : f_X12_brought M a1 a2 a3 = some z) : x_Ci l D cy q ad x_spM 24 s0 yX12_brought (x_uw yX12_brought cX12_brought 4 (some .int)) rm_X12_brought [.ref (q 0), .int a1, .int a2, .int a3] M z.1 z.2 := by
  have hN : 24 ≤ 24 := Nat.le_refl _
  refine x_meti hq (by decide) (Nat.le_of_ble_eq_true rfl) ?_
  intro p e s m args below meth c ls Q C hret hl hw
  have hx := C.1.1
  have hb := C.1.2.1
  have ho := C.1.2.2.2.1
  have hL := C.1.2.2.2.2
  have hl : lv_has ls 4 [(0, .ref (q 0)), (1, .int a1), (2, .int a2), (3, .int a3)] := hl
  have w22 : ∀ (M : x_M) (H : Heap) (locs : List Loc) (ls : Array Slot), x_B D cy q ad x_spM 24 s H locs M → lv_has ls 4 [] → f_X12_brought_22 M = some z → W p l e rm_X12_brought s m args below meth c H locs 0 0 Q (F0 m 22 ls []) := by
    intro M H locs ls hw hl h
    unfold f_X12_brought_22 at h
    refine lv_ldc hx hb ho (hL _ kc_RX12_85) dX12_brought_22 ?_
    exact hret dX12_brought_24 rfl hw h
  have w52 : ∀ (M : x_M) (H : Heap) (locs : List Loc) (ls : Array Slot), x_B D cy q ad x_spM 24 s H locs M → lv_has ls 4 [] → f_X12_brought_52 M = some z → W p l e rm_X12_brought s m args below meth c H locs 0 0 Q (F0 m 52 ls []) := by
    intro M H locs ls hw hl h
    unfold f_X12_brought_52 at h
    refine lv_ldc hx hb ho (hL _ kc_RX12_111) dX12_brought_52 ?_
    exact hret dX12_brought_54 rfl hw h
  unfold f_X12_brought at h
  refine lv_aload_n hx hb dX12_brought_0 rfl (lv_at hl 0 rfl) ?_
  refine lv_iload_n hx hb dX12_brought_1 rfl (lv_at hl 1 rfl) ?_
  refine xh_cVi C hw (rest := []) h (fun _ hy => c_X12_isLine hq hy) ml_RX12_108 mv_X12_isLine sM_0 (x_lt hN rfl) rfl ⟨rfl, rfl, by decide, by decide⟩ rfl hl.1 rfl (Nat.le_of_ble_eq_true rfl) dX12_brought_2 (fun H locs r2 M hw h => ?_)
  refine x_if_eq (tgt := 22) hx hb h dX12_brought_5 (by decide) (fun h => ?_) (fun h => ?_)
  · exact w22 _ _ _ _ hw (lv_sub hl [] rfl) h
  · refine lv_iload_n hx hb dX12_brought_8 rfl (lv_at hl 2 rfl) ?_
    refine xh_cSi C hw (rest := []) h (fun _ hy => c_X12_isDay hq hy) ml_RX12_194 st_X12_isDay ⟨rfl, rfl, by decide, by decide⟩ rfl hl.1 rfl (Nat.le_of_ble_eq_true rfl) dX12_brought_9 (fun H locs r9 M hw h => ?_)
    refine x_if_eq (tgt := 22) hx hb h dX12_brought_12 (by decide) (fun h => ?_) (fun h => ?_)
    · exact w22 _ _ _ _ hw (lv_sub hl [] rfl) h
    · refine lv_iload_n hx hb dX12_brought_15 rfl (lv_at hl 3 rfl) ?_
      refine xh_cSi C hw (rest := []) h (fun _ hy => c_X12_isDay hq hy) ml_RX12_194 st_X12_isDay ⟨rfl, rfl, by decide, by decide⟩ rfl hl.1 rfl (Nat.le_of_ble_eq_true rfl) dX12_brought_16 (fun H locs r16 M hw h => ?_)
      refine x_if_ne (tgt := 25) hx hb h dX12_brought_19 (by decide) (fun h => ?_) (fun h => ?_)
      · exact w22 _ _ _ _ hw (lv_sub hl [] rfl) h
      · refine lv_aload_n hx hb dX12_brought_25 rfl (lv_at hl 0 rfl) ?_
        refine lv_iload_n hx hb dX12_brought_26 rfl (lv_at hl 1 rfl) ?_
        refine lv_iload_n hx hb dX12_brought_27 rfl (lv_at hl 3 rfl) ?_
        refine xh_cVi C hw (rest := []) h (fun _ hy => c_X12_isKnown hq hy) ml_RX12_249 mv_X12_isKnown sM_0 (x_lt hN rfl) rfl ⟨rfl, rfl, by decide, by decide⟩ rfl hl.1 rfl (Nat.le_of_ble_eq_true rfl) dX12_brought_28 (fun H locs r28 M hw h => ?_)
        refine x_if_eq (tgt := 52) hx hb h dX12_brought_31 (by decide) (fun h => ?_) (fun h => ?_)
        · exact w52 _ _ _ _ hw (lv_sub hl [] rfl) h
        · refine lv_aload_n hx hb dX12_brought_34 rfl (lv_at hl 0 rfl) ?_
          refine xh_getr C hw 0 0 sM_0 (x_lt hN rfl) rfl rfl rfl lk_RX12_7 dX12_brought_35 ?_
          refine lv_bipush (v := (nI 50)) hx hb dX12_brought_38 (by decide) ?_
          refine lv_bipush (v := (nI 10)) hx hb dX12_brought_40 (by decide) ?_
          refine lv_iload_n hx hb dX12_brought_42 rfl (lv_at hl 1 rfl) ?_
          refine lv_imul hx hb dX12_brought_43 ?_
          refine lv_iadd hx hb dX12_brought_44 ?_
          refine lv_iconst (v := (nI 2)) hx hb dX12_brought_45 (by decide) ?_
          refine lv_iadd hx hb dX12_brought_46 ?_
          refine xh_iald C hw 1 5512 h sM_1 (x_lt hN rfl) dX12_brought_47 (fun r47 h => ?_)
          refine lv_iload_n hx hb dX12_brought_48 rfl (lv_at hl 2 rfl) ?_
          refine x_icmp_le (tgt := 55) hx hb h dX12_brought_49 (by decide) (fun h => ?_) (fun h => ?_)
          · refine lv_aload_n hx hb dX12_brought_55 rfl (lv_at hl 0 rfl) ?_
            refine lv_iload_n hx hb dX12_brought_56 rfl (lv_at hl 2 rfl) ?_
            refine lv_iload_n hx hb dX12_brought_57 rfl (lv_at hl 3 rfl) ?_
            refine xh_cVv C hw (rest := []) h (fun _ hy => c_X12_stand hq hy) ml_RX12_255 mv_X12_stand sM_0 (x_lt hN rfl) rfl ⟨rfl, rfl, by decide, by decide⟩ rfl hl.1 rfl (Nat.le_of_ble_eq_true rfl) dX12_brought_58 (fun H locs _ M hw h => ?_)
            refine lv_aload_n hx hb dX12_brought_61 rfl (lv_at hl 0 rfl) ?_
            refine xh_getr C hw 0 28 sM_0 (x_lt hN rfl) rfl rfl rfl lk_RX12_49 dX12_brought_62 ?_
            refine lv_iload_n hx hb dX12_brought_65 rfl (lv_at hl 1 rfl) ?_
            refine xh_iald C hw 14 100 h sM_14 (x_lt hN rfl) dX12_brought_66 (fun r66 h => ?_)
            exact hret dX12_brought_67 rfl hw h
          · exact w52 _ _ _ _ hw (lv_sub hl [] rfl) h
def f_X12_owes_23 (M : x_M) : Option (Int32 × x_M) := some ((-1000000001), M)
def f_X12_owes (M : x_M) (a1 : Int32) (a2 : Int32) (a3 : Int32) : Option (Int32 × x_M) := x_bn (f_X12_in M a1 (nI 1) (nI 3)) (fun r3 M => if r3 = 0 then f_X12_owes_23 M else x_bn (f_X12_isDay M a2) (fun r10 M => if r10 = 0 then f_X12_owes_23 M else x_bn (f_X12_isDay M a3) (fun r17 M => if r17 = 0 then f_X12_owes_23 M else x_bn (f_X12_stand M a2 a3) (fun _ M => x_rd 4 (M 12) a1 (fun r37 => x_rd 5512 (M 1) (((nI 10) + ((nI 2) * a1)) - (nI 2)) (fun r51 => x_dl (1000 : Int64) (x_rd 4 (M 13) a1 (fun r67 => x_rd 5512 (M 1) (((nI 10) + ((nI 2) * a1)) - (nI 1)) (fun r81 => x_dl (1000 : Int64) (some ((((((((r37).toInt64) * ((r51).toInt64)) / (1000 : Int64)) - ((((r67).toInt64) * ((r81).toInt64)) / (1000 : Int64)))).toInt32), M)))))))))))
abbrev rm_X12_owes : Room := { frames := 7, cells := 0, slots := 0, locals := 174 }
set_option maxHeartbeats 4000000 in
set_option maxRecDepth 100000 in
theorem c_X12_owes {l : Launch} {D : va_G} {cy : Nat → ClassId} {q ad : Nat → Nat} {s0 : State} (hq : x_Q q 24 s0.heap.size) {M : x_M} {a1 : Int32} {a2 : Int32} {a3 : Int32} {z : Int32 × x_M} (h : f_X12_owes M a1 a2 a3 = some z) : x_Ci l D cy q ad x_spM 24 s0 yX12_owes (x_uw yX12_owes cX12_owes 6 (some .int)) rm_X12_owes [.ref (q 0), .int a1, .int a2, .int a3] M z.1 z.2 := by
  have hN : 24 ≤ 24 := Nat.le_refl _
  refine x_meti hq (by decide) (Nat.le_of_ble_eq_true rfl) ?_
  intro p e s m args below meth c ls Q C hret hl hw
  have hx := C.1.1
  have hb := C.1.2.1
  have ho := C.1.2.2.2.1
  have hL := C.1.2.2.2.2
  have hl : lv_has ls 6 [(0, .ref (q 0)), (1, .int a1), (2, .int a2), (3, .int a3)] := hl
  have w23 : ∀ (M : x_M) (H : Heap) (locs : List Loc) (ls : Array Slot), x_B D cy q ad x_spM 24 s H locs M → lv_has ls 6 [] → f_X12_owes_23 M = some z → W p l e rm_X12_owes s m args below meth c H locs 0 0 Q (F0 m 23 ls []) := by
    intro M H locs ls hw hl h
    unfold f_X12_owes_23 at h
    refine lv_ldc hx hb ho (hL _ kc_RX12_85) dX12_owes_23 ?_
    exact hret dX12_owes_25 rfl hw h
  unfold f_X12_owes at h
  refine lv_iload_n hx hb dX12_owes_0 rfl (lv_at hl 1 rfl) ?_
  refine lv_iconst (v := (nI 1)) hx hb dX12_owes_1 (by decide) ?_
  refine lv_iconst (v := (nI 3)) hx hb dX12_owes_2 (by decide) ?_
  refine xh_cSi C hw (rest := []) h (fun _ hy => c_X12_in hq hy) ml_RX12_81 st_X12_in ⟨rfl, rfl, by decide, by decide⟩ rfl hl.1 rfl (Nat.le_of_ble_eq_true rfl) dX12_owes_3 (fun H locs r3 M hw h => ?_)
  refine x_if_eq (tgt := 23) hx hb h dX12_owes_6 (by decide) (fun h => ?_) (fun h => ?_)
  · exact w23 _ _ _ _ hw (lv_sub hl [] rfl) h
  · refine lv_iload_n hx hb dX12_owes_9 rfl (lv_at hl 2 rfl) ?_
    refine xh_cSi C hw (rest := []) h (fun _ hy => c_X12_isDay hq hy) ml_RX12_194 st_X12_isDay ⟨rfl, rfl, by decide, by decide⟩ rfl hl.1 rfl (Nat.le_of_ble_eq_true rfl) dX12_owes_10 (fun H locs r10 M hw h => ?_)
    refine x_if_eq (tgt := 23) hx hb h dX12_owes_13 (by decide) (fun h => ?_) (fun h => ?_)
    · exact w23 _ _ _ _ hw (lv_sub hl [] rfl) h
    · refine lv_iload_n hx hb dX12_owes_16 rfl (lv_at hl 3 rfl) ?_
      refine xh_cSi C hw (rest := []) h (fun _ hy => c_X12_isDay hq hy) ml_RX12_194 st_X12_isDay ⟨rfl, rfl, by decide, by decide⟩ rfl hl.1 rfl (Nat.le_of_ble_eq_true rfl) dX12_owes_17 (fun H locs r17 M hw h => ?_)
      refine x_if_ne (tgt := 26) hx hb h dX12_owes_20 (by decide) (fun h => ?_) (fun h => ?_)
      · exact w23 _ _ _ _ hw (lv_sub hl [] rfl) h
      · refine lv_aload_n hx hb dX12_owes_26 rfl (lv_at hl 0 rfl) ?_
        refine lv_iload_n hx hb dX12_owes_27 rfl (lv_at hl 2 rfl) ?_
        refine lv_iload_n hx hb dX12_owes_28 rfl (lv_at hl 3 rfl) ?_
        refine xh_cVv C hw (rest := []) h (fun _ hy => c_X12_stand hq hy) ml_RX12_255 mv_X12_stand sM_0 (x_lt hN rfl) rfl ⟨rfl, rfl, by decide, by decide⟩ rfl hl.1 rfl (Nat.le_of_ble_eq_true rfl) dX12_owes_29 (fun H locs _ M hw h => ?_)
        refine lv_aload_n hx hb dX12_owes_32 rfl (lv_at hl 0 rfl) ?_
        refine xh_getr C hw 0 26 sM_0 (x_lt hN rfl) rfl rfl rfl lk_RX12_43 dX12_owes_33 ?_
        refine lv_iload_n hx hb dX12_owes_36 rfl (lv_at hl 1 rfl) ?_
        refine xh_iald C hw 12 4 h sM_12 (x_lt hN rfl) dX12_owes_37 (fun r37 h => ?_)
        refine lv_i2l hx hb dX12_owes_38 rfl ?_
        refine lv_aload_n hx hb dX12_owes_39 rfl (lv_at hl 0 rfl) ?_
        refine xh_getr C hw 0 0 sM_0 (x_lt hN rfl) rfl rfl rfl lk_RX12_7 dX12_owes_40 ?_
        refine lv_bipush (v := (nI 10)) hx hb dX12_owes_43 (by decide) ?_
        refine lv_iconst (v := (nI 2)) hx hb dX12_owes_45 (by decide) ?_
        refine lv_iload_n hx hb dX12_owes_46 rfl (lv_at hl 1 rfl) ?_
        refine lv_imul hx hb dX12_owes_47 ?_
        refine lv_iadd hx hb dX12_owes_48 ?_
        refine lv_iconst (v := (nI 2)) hx hb dX12_owes_49 (by decide) ?_
        refine lv_isub hx hb dX12_owes_50 ?_
        refine xh_iald C hw 1 5512 h sM_1 (x_lt hN rfl) dX12_owes_51 (fun r51 h => ?_)
        refine lv_i2l hx hb dX12_owes_52 rfl ?_
        refine lv_lmul hx hb dX12_owes_53 ?_
        refine lv_ldc2 hx hb ho (hL _ kl_RX12_258) dX12_owes_54 ?_
        refine xh_ldiv hx hb h dX12_owes_57 (fun h => ?_)
        refine lv_lstore (lv' := [(4, .long _), (0, .ref (q 0)), (1, .int _), (2, .int _), (3, .int _)]) hx hb dX12_owes_58 hl (by decide) rfl (fun ls hl => ?_)
        refine lv_lload hx hb dX12_owes_60 (lv_at hl 0 rfl) ?_
        refine lv_aload_n hx hb dX12_owes_62 rfl (lv_at hl 1 rfl) ?_
        refine xh_getr C hw 0 27 sM_0 (x_lt hN rfl) rfl rfl rfl lk_RX12_46 dX12_owes_63 ?_
        refine lv_iload_n hx hb dX12_owes_66 rfl (lv_at hl 2 rfl) ?_
        refine xh_iald C hw 13 4 h sM_13 (x_lt hN rfl) dX12_owes_67 (fun r67 h => ?_)
        refine lv_i2l hx hb dX12_owes_68 rfl ?_
        refine lv_aload_n hx hb dX12_owes_69 rfl (lv_at hl 1 rfl) ?_
        refine xh_getr C hw 0 0 sM_0 (x_lt hN rfl) rfl rfl rfl lk_RX12_7 dX12_owes_70 ?_
        refine lv_bipush (v := (nI 10)) hx hb dX12_owes_73 (by decide) ?_
        refine lv_iconst (v := (nI 2)) hx hb dX12_owes_75 (by decide) ?_
        refine lv_iload_n hx hb dX12_owes_76 rfl (lv_at hl 2 rfl) ?_
        refine lv_imul hx hb dX12_owes_77 ?_
        refine lv_iadd hx hb dX12_owes_78 ?_
        refine lv_iconst (v := (nI 1)) hx hb dX12_owes_79 (by decide) ?_
        refine lv_isub hx hb dX12_owes_80 ?_
        refine xh_iald C hw 1 5512 h sM_1 (x_lt hN rfl) dX12_owes_81 (fun r81 h => ?_)
        refine lv_i2l hx hb dX12_owes_82 rfl ?_
        refine lv_lmul hx hb dX12_owes_83 ?_
        refine lv_ldc2 hx hb ho (hL _ kl_RX12_258) dX12_owes_84 ?_
        refine xh_ldiv hx hb h dX12_owes_87 (fun h => ?_)
        refine lv_lsub hx hb dX12_owes_88 ?_
        refine lv_l2i hx hb dX12_owes_89 rfl ?_
        exact hret dX12_owes_90 rfl hw h
def f_X12_rate_29 (M : x_M) : Option (Int32 × x_M) := some ((-1000000001), M)
def f_X12_rate (M : x_M) (a1 : Int32) (a2 : Int32) (a3 : Int32) : Option (Int32 × x_M) := x_bn (f_X12_in M a1 (nI 1) (nI 3)) (fun r3 M => if r3 = 0 then f_X12_rate_29 M else x_bn (f_X12_in M a2 (nI 0) (nI 1)) (fun r12 M => if r12 = 0 then f_X12_rate_29 M else x_bn (f_X12_in M a3 (nI 0) (nI 999)) (fun r23 M => if r23 = 0 then f_X12_rate_29 M else x_rd 5512 (M 1) ((((nI 10) + ((nI 2) * a1)) - (nI 2)) + a2) (fun r50 => x_wr 5512 M 1 ((((nI 10) + ((nI 2) * a1)) - (nI 2)) + a2) a3 (fun M => some (r50, M))))))
abbrev rm_X12_rate : Room := { frames := 1, cells := 0, slots := 0, locals := 22 }
set_option maxHeartbeats 4000000 in
set_option maxRecDepth 100000 in
theorem c_X12_rate {l : Launch} {D : va_G} {cy : Nat → ClassId} {q ad : Nat → Nat} {s0 : State} (hq : x_Q q 24 s0.heap.size) {M : x_M} {a1 : Int32} {a2 : Int32} {a3 : Int32} {z : Int32 × x_M} (h : f_X12_rate M a1 a2 a3 = some z) : x_Ci l D cy q ad x_spM 24 s0 yX12_rate (x_uw yX12_rate cX12_rate 6 (some .int)) rm_X12_rate [.ref (q 0), .int a1, .int a2, .int a3] M z.1 z.2 := by
  have hN : 24 ≤ 24 := Nat.le_refl _
  refine x_meti hq (by decide) (Nat.le_of_ble_eq_true rfl) ?_
  intro p e s m args below meth c ls Q C hret hl hw
  have hx := C.1.1
  have hb := C.1.2.1
  have ho := C.1.2.2.2.1
  have hL := C.1.2.2.2.2
  have hl : lv_has ls 6 [(0, .ref (q 0)), (1, .int a1), (2, .int a2), (3, .int a3)] := hl
  have w29 : ∀ (M : x_M) (H : Heap) (locs : List Loc) (ls : Array Slot), x_B D cy q ad x_spM 24 s H locs M → lv_has ls 6 [] → f_X12_rate_29 M = some z → W p l e rm_X12_rate s m args below meth c H locs 0 0 Q (F0 m 29 ls []) := by
    intro M H locs ls hw hl h
    unfold f_X12_rate_29 at h
    refine lv_ldc hx hb ho (hL _ kc_RX12_85) dX12_rate_29 ?_
    exact hret dX12_rate_31 rfl hw h
  unfold f_X12_rate at h
  refine lv_iload_n hx hb dX12_rate_0 rfl (lv_at hl 1 rfl) ?_
  refine lv_iconst (v := (nI 1)) hx hb dX12_rate_1 (by decide) ?_
  refine lv_iconst (v := (nI 3)) hx hb dX12_rate_2 (by decide) ?_
  refine xh_cSi C hw (rest := []) h (fun _ hy => c_X12_in hq hy) ml_RX12_81 st_X12_in ⟨rfl, rfl, by decide, by decide⟩ rfl hl.1 rfl (Nat.le_of_ble_eq_true rfl) dX12_rate_3 (fun H locs r3 M hw h => ?_)
  refine x_if_eq (tgt := 29) hx hb h dX12_rate_6 (by decide) (fun h => ?_) (fun h => ?_)
  · exact w29 _ _ _ _ hw (lv_sub hl [] rfl) h
  · refine lv_iload_n hx hb dX12_rate_9 rfl (lv_at hl 2 rfl) ?_
    refine lv_iconst (v := (nI 0)) hx hb dX12_rate_10 (by decide) ?_
    refine lv_iconst (v := (nI 1)) hx hb dX12_rate_11 (by decide) ?_
    refine xh_cSi C hw (rest := []) h (fun _ hy => c_X12_in hq hy) ml_RX12_81 st_X12_in ⟨rfl, rfl, by decide, by decide⟩ rfl hl.1 rfl (Nat.le_of_ble_eq_true rfl) dX12_rate_12 (fun H locs r12 M hw h => ?_)
    refine x_if_eq (tgt := 29) hx hb h dX12_rate_15 (by decide) (fun h => ?_) (fun h => ?_)
    · exact w29 _ _ _ _ hw (lv_sub hl [] rfl) h
    · refine lv_iload_n hx hb dX12_rate_18 rfl (lv_at hl 3 rfl) ?_
      refine lv_iconst (v := (nI 0)) hx hb dX12_rate_19 (by decide) ?_
      refine lv_sipush (v := (nI 999)) hx hb dX12_rate_20 (by decide) ?_
      refine xh_cSi C hw (rest := []) h (fun _ hy => c_X12_in hq hy) ml_RX12_81 st_X12_in ⟨rfl, rfl, by decide, by decide⟩ rfl hl.1 rfl (Nat.le_of_ble_eq_true rfl) dX12_rate_23 (fun H locs r23 M hw h => ?_)
      refine x_if_ne (tgt := 32) hx hb h dX12_rate_26 (by decide) (fun h => ?_) (fun h => ?_)
      · exact w29 _ _ _ _ hw (lv_sub hl [] rfl) h
      · refine lv_bipush (v := (nI 10)) hx hb dX12_rate_32 (by decide) ?_
        refine lv_iconst (v := (nI 2)) hx hb dX12_rate_34 (by decide) ?_
        refine lv_iload_n hx hb dX12_rate_35 rfl (lv_at hl 1 rfl) ?_
        refine lv_imul hx hb dX12_rate_36 ?_
        refine lv_iadd hx hb dX12_rate_37 ?_
        refine lv_iconst (v := (nI 2)) hx hb dX12_rate_38 (by decide) ?_
        refine lv_isub hx hb dX12_rate_39 ?_
        refine lv_iload_n hx hb dX12_rate_40 rfl (lv_at hl 2 rfl) ?_
        refine lv_iadd hx hb dX12_rate_41 ?_
        refine lv_istore (lv' := [(4, .int _), (0, .ref (q 0)), (1, .int _), (2, .int _), (3, .int _)]) hx hb dX12_rate_42 hl (by decide) rfl (fun ls hl => ?_)
        refine lv_aload_n hx hb dX12_rate_44 rfl (lv_at hl 1 rfl) ?_
        refine xh_getr C hw 0 0 sM_0 (x_lt hN rfl) rfl rfl rfl lk_RX12_7 dX12_rate_45 ?_
        refine lv_iload hx hb dX12_rate_48 (lv_at hl 0 rfl) ?_
        refine xh_iald C hw 1 5512 h sM_1 (x_lt hN rfl) dX12_rate_50 (fun r50 h => ?_)
        refine lv_istore (lv' := [(5, .int _), (4, .int _), (0, .ref (q 0)), (1, .int _), (2, .int _), (3, .int _)]) hx hb dX12_rate_51 hl (by decide) rfl (fun ls hl => ?_)
        refine lv_aload_n hx hb dX12_rate_53 rfl (lv_at hl 2 rfl) ?_
        refine xh_getr C hw 0 0 sM_0 (x_lt hN rfl) rfl rfl rfl lk_RX12_7 dX12_rate_54 ?_
        refine lv_iload hx hb dX12_rate_57 (lv_at hl 1 rfl) ?_
        refine lv_iload_n hx hb dX12_rate_59 rfl (lv_at hl 5 rfl) ?_
        refine xh_iast C hw 1 5512 h sM_1 (x_lt hN rfl) dX12_rate_60 (fun H locs M hw h => ?_)
        refine lv_iload hx hb dX12_rate_61 (lv_at hl 0 rfl) ?_
        exact hret dX12_rate_63 rfl hw h
def f_X12_flight_49 (M : x_M) : Option (Int32 × x_M) := some ((-1000000001), M)
def f_X12_flight (M : x_M) (a1 : Int32) (a2 : Int32) (a3 : Int32) (a4 : Int32) : Option (Int32 × x_M) := x_rd 5512 (M 1) (nI 0) (fun r6 => x_bn (f_X12_in M a1 (r6 + (nI 1)) (nI 1200)) (fun r12 M => if r12 = 0 then f_X12_flight_49 M else x_bn (f_X12_in M a2 (nI 1) (nI 9999)) (fun r23 M => if r23 = 0 then f_X12_flight_49 M else x_bn (f_X12_in M a3 (nI 0) (nI 3)) (fun r32 M => if r32 = 0 then f_X12_flight_49 M else x_bn (f_X12_in M a4 (nI 0) (nI 9)) (fun r43 M => if r43 = 0 then f_X12_flight_49 M else x_rd 5512 (M 1) (nI 7) (fun r58 => if r58 = (nI 8) then some ((-1000000003), M) else x_rd 5512 (M 1) (nI 7) (fun r77 => x_wr 5512 M 1 ((nI 5298) + ((nI 5) * r77)) a1 (fun M => x_wr 5512 M 1 (((nI 5298) + ((nI 5) * r77)) + (nI 1)) a2 (fun M => x_wr 5512 M 1 (((nI 5298) + ((nI 5) * r77)) + (nI 2)) a3 (fun M => x_wr 5512 M 1 (((nI 5298) + ((nI 5) * r77)) + (nI 3)) a4 (fun M => x_wr 5512 M 1 (((nI 5298) + ((nI 5) * r77)) + (nI 4)) a4 (fun M => x_rd 5512 (M 1) (nI 7) (fun r139 => x_wr 5512 M 1 (nI 7) (r139 + (nI 1)) (fun M => x_rd 5512 (M 1) (nI 7) (fun r149 => some ((r149 - (nI 1)), M))))))))))))))))
abbrev rm_X12_flight : Room := { frames := 1, cells := 0, slots := 0, locals := 22 }
set_option maxHeartbeats 4000000 in
set_option maxRecDepth 100000 in
theorem c_X12_flight {l : Launch} {D : va_G} {cy : Nat → ClassId} {q ad : Nat → Nat} {s0 : State} (hq : x_Q q 24 s0.heap.size) {M : x_M} {a1 : Int32} {a2 : Int32} {a3 : Int32} {a4 : Int32} {z : Int32 × x_M} (h : f_X12_flight M a1 a2 a3 a4 = some z) : x_Ci l D cy q ad x_spM 24 s0 yX12_flight (x_uw yX12_flight cX12_flight 6 (some .int)) rm_X12_flight [.ref (q 0), .int a1, .int a2, .int a3, .int a4] M z.1 z.2 := by
  have hN : 24 ≤ 24 := Nat.le_refl _
  refine x_meti hq (by decide) (Nat.le_of_ble_eq_true rfl) ?_
  intro p e s m args below meth c ls Q C hret hl hw
  have hx := C.1.1
  have hb := C.1.2.1
  have ho := C.1.2.2.2.1
  have hL := C.1.2.2.2.2
  have hl : lv_has ls 6 [(0, .ref (q 0)), (1, .int a1), (2, .int a2), (3, .int a3), (4, .int a4)] := hl
  have w49 : ∀ (M : x_M) (H : Heap) (locs : List Loc) (ls : Array Slot), x_B D cy q ad x_spM 24 s H locs M → lv_has ls 6 [] → f_X12_flight_49 M = some z → W p l e rm_X12_flight s m args below meth c H locs 0 0 Q (F0 m 49 ls []) := by
    intro M H locs ls hw hl h
    unfold f_X12_flight_49 at h
    refine lv_ldc hx hb ho (hL _ kc_RX12_85) dX12_flight_49 ?_
    exact hret dX12_flight_51 rfl hw h
  unfold f_X12_flight at h
  refine lv_iload_n hx hb dX12_flight_0 rfl (lv_at hl 1 rfl) ?_
  refine lv_aload_n hx hb dX12_flight_1 rfl (lv_at hl 0 rfl) ?_
  refine xh_getr C hw 0 0 sM_0 (x_lt hN rfl) rfl rfl rfl lk_RX12_7 dX12_flight_2 ?_
  refine lv_iconst (v := (nI 0)) hx hb dX12_flight_5 (by decide) ?_
  refine xh_iald C hw 1 5512 h sM_1 (x_lt hN rfl) dX12_flight_6 (fun r6 h => ?_)
  refine lv_iconst (v := (nI 1)) hx hb dX12_flight_7 (by decide) ?_
  refine lv_iadd hx hb dX12_flight_8 ?_
  refine lv_sipush (v := (nI 1200)) hx hb dX12_flight_9 (by decide) ?_
  refine xh_cSi C hw (rest := []) h (fun _ hy => c_X12_in hq hy) ml_RX12_81 st_X12_in ⟨rfl, rfl, by decide, by decide⟩ rfl hl.1 rfl (Nat.le_of_ble_eq_true rfl) dX12_flight_12 (fun H locs r12 M hw h => ?_)
  refine x_if_eq (tgt := 49) hx hb h dX12_flight_15 (by decide) (fun h => ?_) (fun h => ?_)
  · exact w49 _ _ _ _ hw (lv_sub hl [] rfl) h
  · refine lv_iload_n hx hb dX12_flight_18 rfl (lv_at hl 2 rfl) ?_
    refine lv_iconst (v := (nI 1)) hx hb dX12_flight_19 (by decide) ?_
    refine lv_sipush (v := (nI 9999)) hx hb dX12_flight_20 (by decide) ?_
    refine xh_cSi C hw (rest := []) h (fun _ hy => c_X12_in hq hy) ml_RX12_81 st_X12_in ⟨rfl, rfl, by decide, by decide⟩ rfl hl.1 rfl (Nat.le_of_ble_eq_true rfl) dX12_flight_23 (fun H locs r23 M hw h => ?_)
    refine x_if_eq (tgt := 49) hx hb h dX12_flight_26 (by decide) (fun h => ?_) (fun h => ?_)
    · exact w49 _ _ _ _ hw (lv_sub hl [] rfl) h
    · refine lv_iload_n hx hb dX12_flight_29 rfl (lv_at hl 3 rfl) ?_
      refine lv_iconst (v := (nI 0)) hx hb dX12_flight_30 (by decide) ?_
      refine lv_iconst (v := (nI 3)) hx hb dX12_flight_31 (by decide) ?_
      refine xh_cSi C hw (rest := []) h (fun _ hy => c_X12_in hq hy) ml_RX12_81 st_X12_in ⟨rfl, rfl, by decide, by decide⟩ rfl hl.1 rfl (Nat.le_of_ble_eq_true rfl) dX12_flight_32 (fun H locs r32 M hw h => ?_)
      refine x_if_eq (tgt := 49) hx hb h dX12_flight_35 (by decide) (fun h => ?_) (fun h => ?_)
      · exact w49 _ _ _ _ hw (lv_sub hl [] rfl) h
      · refine lv_iload hx hb dX12_flight_38 (lv_at hl 4 rfl) ?_
        refine lv_iconst (v := (nI 0)) hx hb dX12_flight_40 (by decide) ?_
        refine lv_bipush (v := (nI 9)) hx hb dX12_flight_41 (by decide) ?_
        refine xh_cSi C hw (rest := []) h (fun _ hy => c_X12_in hq hy) ml_RX12_81 st_X12_in ⟨rfl, rfl, by decide, by decide⟩ rfl hl.1 rfl (Nat.le_of_ble_eq_true rfl) dX12_flight_43 (fun H locs r43 M hw h => ?_)
        refine x_if_ne (tgt := 52) hx hb h dX12_flight_46 (by decide) (fun h => ?_) (fun h => ?_)
        · exact w49 _ _ _ _ hw (lv_sub hl [] rfl) h
        · refine lv_aload_n hx hb dX12_flight_52 rfl (lv_at hl 0 rfl) ?_
          refine xh_getr C hw 0 0 sM_0 (x_lt hN rfl) rfl rfl rfl lk_RX12_7 dX12_flight_53 ?_
          refine lv_bipush (v := (nI 7)) hx hb dX12_flight_56 (by decide) ?_
          refine xh_iald C hw 1 5512 h sM_1 (x_lt hN rfl) dX12_flight_58 (fun r58 h => ?_)
          refine lv_bipush (v := (nI 8)) hx hb dX12_flight_59 (by decide) ?_
          refine x_icmp_ne (tgt := 67) hx hb h dX12_flight_61 (by decide) (fun h => ?_) (fun h => ?_)
          · refine lv_ldc hx hb ho (hL _ kc_RX12_86) dX12_flight_64 ?_
            exact hret dX12_flight_66 rfl hw h
          · refine lv_sipush (v := (nI 5298)) hx hb dX12_flight_67 (by decide) ?_
            refine lv_iconst (v := (nI 5)) hx hb dX12_flight_70 (by decide) ?_
            refine lv_aload_n hx hb dX12_flight_71 rfl (lv_at hl 0 rfl) ?_
            refine xh_getr C hw 0 0 sM_0 (x_lt hN rfl) rfl rfl rfl lk_RX12_7 dX12_flight_72 ?_
            refine lv_bipush (v := (nI 7)) hx hb dX12_flight_75 (by decide) ?_
            refine xh_iald C hw 1 5512 h sM_1 (x_lt hN rfl) dX12_flight_77 (fun r77 h => ?_)
            refine lv_imul hx hb dX12_flight_78 ?_
            refine lv_iadd hx hb dX12_flight_79 ?_
            refine lv_istore (lv' := [(5, .int _), (0, .ref (q 0)), (1, .int _), (2, .int _), (3, .int _), (4, .int _)]) hx hb dX12_flight_80 hl (by decide) rfl (fun ls hl => ?_)
            refine lv_aload_n hx hb dX12_flight_82 rfl (lv_at hl 1 rfl) ?_
            refine xh_getr C hw 0 0 sM_0 (x_lt hN rfl) rfl rfl rfl lk_RX12_7 dX12_flight_83 ?_
            refine lv_iload hx hb dX12_flight_86 (lv_at hl 0 rfl) ?_
            refine lv_iload_n hx hb dX12_flight_88 rfl (lv_at hl 2 rfl) ?_
            refine xh_iast C hw 1 5512 h sM_1 (x_lt hN rfl) dX12_flight_89 (fun H locs M hw h => ?_)
            refine lv_aload_n hx hb dX12_flight_90 rfl (lv_at hl 1 rfl) ?_
            refine xh_getr C hw 0 0 sM_0 (x_lt hN rfl) rfl rfl rfl lk_RX12_7 dX12_flight_91 ?_
            refine lv_iload hx hb dX12_flight_94 (lv_at hl 0 rfl) ?_
            refine lv_iconst (v := (nI 1)) hx hb dX12_flight_96 (by decide) ?_
            refine lv_iadd hx hb dX12_flight_97 ?_
            refine lv_iload_n hx hb dX12_flight_98 rfl (lv_at hl 3 rfl) ?_
            refine xh_iast C hw 1 5512 h sM_1 (x_lt hN rfl) dX12_flight_99 (fun H locs M hw h => ?_)
            refine lv_aload_n hx hb dX12_flight_100 rfl (lv_at hl 1 rfl) ?_
            refine xh_getr C hw 0 0 sM_0 (x_lt hN rfl) rfl rfl rfl lk_RX12_7 dX12_flight_101 ?_
            refine lv_iload hx hb dX12_flight_104 (lv_at hl 0 rfl) ?_
            refine lv_iconst (v := (nI 2)) hx hb dX12_flight_106 (by decide) ?_
            refine lv_iadd hx hb dX12_flight_107 ?_
            refine lv_iload_n hx hb dX12_flight_108 rfl (lv_at hl 4 rfl) ?_
            refine xh_iast C hw 1 5512 h sM_1 (x_lt hN rfl) dX12_flight_109 (fun H locs M hw h => ?_)
            refine lv_aload_n hx hb dX12_flight_110 rfl (lv_at hl 1 rfl) ?_
            refine xh_getr C hw 0 0 sM_0 (x_lt hN rfl) rfl rfl rfl lk_RX12_7 dX12_flight_111 ?_
            refine lv_iload hx hb dX12_flight_114 (lv_at hl 0 rfl) ?_
            refine lv_iconst (v := (nI 3)) hx hb dX12_flight_116 (by decide) ?_
            refine lv_iadd hx hb dX12_flight_117 ?_
            refine lv_iload hx hb dX12_flight_118 (lv_at hl 5 rfl) ?_
            refine xh_iast C hw 1 5512 h sM_1 (x_lt hN rfl) dX12_flight_120 (fun H locs M hw h => ?_)
            refine lv_aload_n hx hb dX12_flight_121 rfl (lv_at hl 1 rfl) ?_
            refine xh_getr C hw 0 0 sM_0 (x_lt hN rfl) rfl rfl rfl lk_RX12_7 dX12_flight_122 ?_
            refine lv_iload hx hb dX12_flight_125 (lv_at hl 0 rfl) ?_
            refine lv_iconst (v := (nI 4)) hx hb dX12_flight_127 (by decide) ?_
            refine lv_iadd hx hb dX12_flight_128 ?_
            refine lv_iload hx hb dX12_flight_129 (lv_at hl 5 rfl) ?_
            refine xh_iast C hw 1 5512 h sM_1 (x_lt hN rfl) dX12_flight_131 (fun H locs M hw h => ?_)
            refine lv_aload_n hx hb dX12_flight_132 rfl (lv_at hl 1 rfl) ?_
            refine xh_getr C hw 0 0 sM_0 (x_lt hN rfl) rfl rfl rfl lk_RX12_7 dX12_flight_133 ?_
            refine lv_bipush (v := (nI 7)) hx hb dX12_flight_136 (by decide) ?_
            refine lv_dup2_11 hx hb dX12_flight_138 rfl rfl ?_
            refine xh_iald C hw 1 5512 h sM_1 (x_lt hN rfl) dX12_flight_139 (fun r139 h => ?_)
            refine lv_iconst (v := (nI 1)) hx hb dX12_flight_140 (by decide) ?_
            refine lv_iadd hx hb dX12_flight_141 ?_
            refine xh_iast C hw 1 5512 h sM_1 (x_lt hN rfl) dX12_flight_142 (fun H locs M hw h => ?_)
            refine lv_aload_n hx hb dX12_flight_143 rfl (lv_at hl 1 rfl) ?_
            refine xh_getr C hw 0 0 sM_0 (x_lt hN rfl) rfl rfl rfl lk_RX12_7 dX12_flight_144 ?_
            refine lv_bipush (v := (nI 7)) hx hb dX12_flight_147 (by decide) ?_
            refine xh_iald C hw 1 5512 h sM_1 (x_lt hN rfl) dX12_flight_149 (fun r149 h => ?_)
            refine lv_iconst (v := (nI 1)) hx hb dX12_flight_150 (by decide) ?_
            refine lv_isub hx hb dX12_flight_151 ?_
            exact hret dX12_flight_152 rfl hw h
