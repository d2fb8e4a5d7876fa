def f_X12_isFlight (M : x_M) (a1 : Int32) : Option (Int32 × x_M) := x_rd 5512 (M 1) (nI 7) (fun r8 => x_bn (f_X12_in M a1 (nI 0) (r8 - (nI 1))) (fun r11 M => x_cz r11 (some (r11, M))))
abbrev rm_X12_isFlight : Room := { frames := 1, cells := 0, slots := 0, locals := 22 }
set_option maxHeartbeats 4000000 in
set_option maxRecDepth 100000 in
theorem c_X12_isFlight {l : Launch} {D : va_G} {cy : Nat → ClassId} {q ad : Nat → Nat} {s0 : State} (hq : x_Q q 24 s0.heap.size) {M : x_M} {a1 : Int32} {z : Int32 × x_M} (h : f_X12_isFlight M a1 = some z) : x_Ci l D cy q ad x_spM 24 s0 yX12_isFlight (x_uw yX12_isFlight cX12_isFlight 2 (some .boolean)) rm_X12_isFlight [.ref (q 0), .int a1] M z.1 z.2 := by
  have hN : 24 ≤ 24 := Nat.le_refl _
  refine x_meti hq (by decide) (Nat.le_of_ble_eq_true rfl) ?_
  intro p e s m args below meth c ls Q C hret hl hw
  have hx := C.1.1
  have hb := C.1.2.1
  have ho := C.1.2.2.2.1
  have hL := C.1.2.2.2.2
  have hl : lv_has ls 2 [(0, .ref (q 0)), (1, .int a1)] := hl
  unfold f_X12_isFlight at h
  refine lv_iload_n hx hb dX12_isFlight_0 rfl (lv_at hl 1 rfl) ?_
  refine lv_iconst (v := (nI 0)) hx hb dX12_isFlight_1 (by decide) ?_
  refine lv_aload_n hx hb dX12_isFlight_2 rfl (lv_at hl 0 rfl) ?_
  refine xh_getr C hw 0 0 sM_0 (x_lt hN rfl) rfl rfl rfl lk_RX12_7 dX12_isFlight_3 ?_
  refine lv_bipush (v := (nI 7)) hx hb dX12_isFlight_6 (by decide) ?_
  refine xh_iald C hw 1 5512 h sM_1 (x_lt hN rfl) dX12_isFlight_8 (fun r8 h => ?_)
  refine lv_iconst (v := (nI 1)) hx hb dX12_isFlight_9 (by decide) ?_
  refine lv_isub hx hb dX12_isFlight_10 ?_
  refine xh_cSi C hw (rest := []) h (fun _ hy => c_X12_in hq hy) ml_RX12_81 st_X12_in ⟨rfl, rfl, by decide, by decide⟩ rfl hl.1 rfl (Nat.le_of_ble_eq_true rfl) dX12_isFlight_11 (fun H locs r11 M hw h => ?_)
  exact hret dX12_isFlight_14 (x_z_nar (x_cz_some h).1) hw (x_cz_some h).2
def f_X12_ask_25 (M : x_M) : Option (Int32 × x_M) := some ((-1000000001), M)
def f_X12_ask (M : x_M) (a1 : Int32) (a2 : Int32) (a3 : Int32) : Option (Int32 × x_M) := x_bn (f_X12_isMember M a1) (fun r2 M => if r2 = 0 then f_X12_ask_25 M else x_bn (f_X12_isFlight M a2) (fun r10 M => if r10 = 0 then f_X12_ask_25 M else x_bn (f_X12_in M a3 (nI 0) (nI 3)) (fun r19 M => if r19 = 0 then f_X12_ask_25 M else x_rd 5512 (M 1) ((nI 5298) + ((nI 5) * a2)) (fun r39 => x_rd 5512 (M 1) (nI 0) (fun r45 => if r45 < r39 then x_rd 5512 (M 1) (nI 8) (fun r58 => if r58 = (nI 30) then some ((-1000000003), M) else x_rd 5512 (M 1) (nI 8) (fun r77 => x_wr 5512 M 1 ((nI 5338) + ((nI 5) * r77)) a1 (fun M => x_wr 5512 M 1 (((nI 5338) + ((nI 5) * r77)) + (nI 1)) a2 (fun M => x_wr 5512 M 1 (((nI 5338) + ((nI 5) * r77)) + (nI 2)) a3 (fun M => x_wr 5512 M 1 (((nI 5338) + ((nI 5) * r77)) + (nI 3)) (nI 0) (fun M => x_wr 5512 M 1 (((nI 5338) + ((nI 5) * r77)) + (nI 4)) (-1) (fun M => x_rd 5512 (M 1) (nI 8) (fun r137 => x_wr 5512 M 1 (nI 8) (r137 + (nI 1)) (fun M => x_rd 5512 (M 1) (nI 8) (fun r147 => some ((r147 - (nI 1)), M))))))))))) else some ((-1000000002), M))))))
abbrev rm_X12_ask : Room := { frames := 2, cells := 0, slots := 0, locals := 43 }
set_option maxHeartbeats 4000000 in
set_option maxRecDepth 100000 in
theorem c_X12_ask {l : Launch} {D : va_G} {cy : Nat → ClassId} {q ad : Nat → Nat} {s0 : State} (hq : x_Q q 24 s0.heap.size) {M : x_M} {a1 : Int32} {a2 : Int32} {a3 : Int32} {z : Int32 × x_M} (h : f_X12_ask M a1 a2 a3 = some z) : x_Ci l D cy q ad x_spM 24 s0 yX12_ask (x_uw yX12_ask cX12_ask 5 (some .int)) rm_X12_ask [.ref (q 0), .int a1, .int a2, .int a3] M z.1 z.2 := by
  have hN : 24 ≤ 24 := Nat.le_refl _
  refine x_meti hq (by decide) (Nat.le_of_ble_eq_true rfl) ?_
  intro p e s m args below meth c ls Q C hret hl hw
  have hx := C.1.1
  have hb := C.1.2.1
  have ho := C.1.2.2.2.1
  have hL := C.1.2.2.2.2
  have hl : lv_has ls 5 [(0, .ref (q 0)), (1, .int a1), (2, .int a2), (3, .int a3)] := hl
  have w25 : ∀ (M : x_M) (H : Heap) (locs : List Loc) (ls : Array Slot), x_B D cy q ad x_spM 24 s H locs M → lv_has ls 5 [] → f_X12_ask_25 M = some z → W p l e rm_X12_ask s m args below meth c H locs 0 0 Q (F0 m 25 ls []) := by
    intro M H locs ls hw hl h
    unfold f_X12_ask_25 at h
    refine lv_ldc hx hb ho (hL _ kc_RX12_85) dX12_ask_25 ?_
    exact hret dX12_ask_27 rfl hw h
  unfold f_X12_ask at h
  refine lv_aload_n hx hb dX12_ask_0 rfl (lv_at hl 0 rfl) ?_
  refine lv_iload_n hx hb dX12_ask_1 rfl (lv_at hl 1 rfl) ?_
  refine xh_cVi C hw (rest := []) h (fun _ hy => c_X12_isMember hq hy) ml_RX12_87 mv_X12_isMember sM_0 (x_lt hN rfl) rfl ⟨rfl, rfl, by decide, by decide⟩ rfl hl.1 rfl (Nat.le_of_ble_eq_true rfl) dX12_ask_2 (fun H locs r2 M hw h => ?_)
  refine x_if_eq (tgt := 25) hx hb h dX12_ask_5 (by decide) (fun h => ?_) (fun h => ?_)
  · exact w25 _ _ _ _ hw (lv_sub hl [] rfl) h
  · refine lv_aload_n hx hb dX12_ask_8 rfl (lv_at hl 0 rfl) ?_
    refine lv_iload_n hx hb dX12_ask_9 rfl (lv_at hl 2 rfl) ?_
    refine xh_cVi C hw (rest := []) h (fun _ hy => c_X12_isFlight hq hy) ml_RX12_260 mv_X12_isFlight sM_0 (x_lt hN rfl) rfl ⟨rfl, rfl, by decide, by decide⟩ rfl hl.1 rfl (Nat.le_of_ble_eq_true rfl) dX12_ask_10 (fun H locs r10 M hw h => ?_)
    refine x_if_eq (tgt := 25) hx hb h dX12_ask_13 (by decide) (fun h => ?_) (fun h => ?_)
    · exact w25 _ _ _ _ hw (lv_sub hl [] rfl) h
    · refine lv_iload_n hx hb dX12_ask_16 rfl (lv_at hl 3 rfl) ?_
      refine lv_iconst (v := (nI 0)) hx hb dX12_ask_17 (by decide) ?_
      refine lv_iconst (v := (nI 3)) hx hb dX12_ask_18 (by decide) ?_
      refine xh_cSi C hw (rest := []) h (fun _ hy => c_X12_in hq hy) ml_RX12_81 st_X12_in ⟨rfl, rfl, by decide, by decide⟩ rfl hl.1 rfl (Nat.le_of_ble_eq_true rfl) dX12_ask_19 (fun H locs r19 M hw h => ?_)
      refine x_if_ne (tgt := 28) hx hb h dX12_ask_22 (by decide) (fun h => ?_) (fun h => ?_)
      · exact w25 _ _ _ _ hw (lv_sub hl [] rfl) h
      · refine lv_aload_n hx hb dX12_ask_28 rfl (lv_at hl 0 rfl) ?_
        refine xh_getr C hw 0 0 sM_0 (x_lt hN rfl) rfl rfl rfl lk_RX12_7 dX12_ask_29 ?_
        refine lv_sipush (v := (nI 5298)) hx hb dX12_ask_32 (by decide) ?_
        refine lv_iconst (v := (nI 5)) hx hb dX12_ask_35 (by decide) ?_
        refine lv_iload_n hx hb dX12_ask_36 rfl (lv_at hl 2 rfl) ?_
        refine lv_imul hx hb dX12_ask_37 ?_
        refine lv_iadd hx hb dX12_ask_38 ?_
        refine xh_iald C hw 1 5512 h sM_1 (x_lt hN rfl) dX12_ask_39 (fun r39 h => ?_)
        refine lv_aload_n hx hb dX12_ask_40 rfl (lv_at hl 0 rfl) ?_
        refine xh_getr C hw 0 0 sM_0 (x_lt hN rfl) rfl rfl rfl lk_RX12_7 dX12_ask_41 ?_
        refine lv_iconst (v := (nI 0)) hx hb dX12_ask_44 (by decide) ?_
        refine xh_iald C hw 1 5512 h sM_1 (x_lt hN rfl) dX12_ask_45 (fun r45 h => ?_)
        refine x_icmp_gt (tgt := 52) hx hb h dX12_ask_46 (by decide) (fun h => ?_) (fun h => ?_)
        · refine lv_aload_n hx hb dX12_ask_52 rfl (lv_at hl 0 rfl) ?_
          refine xh_getr C hw 0 0 sM_0 (x_lt hN rfl) rfl rfl rfl lk_RX12_7 dX12_ask_53 ?_
          refine lv_bipush (v := (nI 8)) hx hb dX12_ask_56 (by decide) ?_
          refine xh_iald C hw 1 5512 h sM_1 (x_lt hN rfl) dX12_ask_58 (fun r58 h => ?_)
          refine lv_bipush (v := (nI 30)) hx hb dX12_ask_59 (by decide) ?_
          refine x_icmp_ne (tgt := 67) hx hb h dX12_ask_61 (by decide) (fun h => ?_) (fun h => ?_)
          · refine lv_ldc hx hb ho (hL _ kc_RX12_86) dX12_ask_64 ?_
            exact hret dX12_ask_66 rfl hw h
          · refine lv_sipush (v := (nI 5338)) hx hb dX12_ask_67 (by decide) ?_
            refine lv_iconst (v := (nI 5)) hx hb dX12_ask_70 (by decide) ?_
            refine lv_aload_n hx hb dX12_ask_71 rfl (lv_at hl 0 rfl) ?_
            refine xh_getr C hw 0 0 sM_0 (x_lt hN rfl) rfl rfl rfl lk_RX12_7 dX12_ask_72 ?_
            refine lv_bipush (v := (nI 8)) hx hb dX12_ask_75 (by decide) ?_
            refine xh_iald C hw 1 5512 h sM_1 (x_lt hN rfl) dX12_ask_77 (fun r77 h => ?_)
            refine lv_imul hx hb dX12_ask_78 ?_
            refine lv_iadd hx hb dX12_ask_79 ?_
            refine lv_istore (lv' := [(4, .int _), (0, .ref (q 0)), (1, .int _), (2, .int _), (3, .int _)]) hx hb dX12_ask_80 hl (by decide) rfl (fun ls hl => ?_)
            refine lv_aload_n hx hb dX12_ask_82 rfl (lv_at hl 1 rfl) ?_
            refine xh_getr C hw 0 0 sM_0 (x_lt hN rfl) rfl rfl rfl lk_RX12_7 dX12_ask_83 ?_
            refine lv_iload hx hb dX12_ask_86 (lv_at hl 0 rfl) ?_
            refine lv_iload_n hx hb dX12_ask_88 rfl (lv_at hl 2 rfl) ?_
            refine xh_iast C hw 1 5512 h sM_1 (x_lt hN rfl) dX12_ask_89 (fun H locs M hw h => ?_)
            refine lv_aload_n hx hb dX12_ask_90 rfl (lv_at hl 1 rfl) ?_
            refine xh_getr C hw 0 0 sM_0 (x_lt hN rfl) rfl rfl rfl lk_RX12_7 dX12_ask_91 ?_
            refine lv_iload hx hb dX12_ask_94 (lv_at hl 0 rfl) ?_
            refine lv_iconst (v := (nI 1)) hx hb dX12_ask_96 (by decide) ?_
            refine lv_iadd hx hb dX12_ask_97 ?_
            refine lv_iload_n hx hb dX12_ask_98 rfl (lv_at hl 3 rfl) ?_
            refine xh_iast C hw 1 5512 h sM_1 (x_lt hN rfl) dX12_ask_99 (fun H locs M hw h => ?_)
            refine lv_aload_n hx hb dX12_ask_100 rfl (lv_at hl 1 rfl) ?_
            refine xh_getr C hw 0 0 sM_0 (x_lt hN rfl) rfl rfl rfl lk_RX12_7 dX12_ask_101 ?_
            refine lv_iload hx hb dX12_ask_104 (lv_at hl 0 rfl) ?_
            refine lv_iconst (v := (nI 2)) hx hb dX12_ask_106 (by decide) ?_
            refine lv_iadd hx hb dX12_ask_107 ?_
            refine lv_iload_n hx hb dX12_ask_108 rfl (lv_at hl 4 rfl) ?_
            refine xh_iast C hw 1 5512 h sM_1 (x_lt hN rfl) dX12_ask_109 (fun H locs M hw h => ?_)
            refine lv_aload_n hx hb dX12_ask_110 rfl (lv_at hl 1 rfl) ?_
            refine xh_getr C hw 0 0 sM_0 (x_lt hN rfl) rfl rfl rfl lk_RX12_7 dX12_ask_111 ?_
            refine lv_iload hx hb dX12_ask_114 (lv_at hl 0 rfl) ?_
            refine lv_iconst (v := (nI 3)) hx hb dX12_ask_116 (by decide) ?_
            refine lv_iadd hx hb dX12_ask_117 ?_
            refine lv_iconst (v := (nI 0)) hx hb dX12_ask_118 (by decide) ?_
            refine xh_iast C hw 1 5512 h sM_1 (x_lt hN rfl) dX12_ask_119 (fun H locs M hw h => ?_)
            refine lv_aload_n hx hb dX12_ask_120 rfl (lv_at hl 1 rfl) ?_
            refine xh_getr C hw 0 0 sM_0 (x_lt hN rfl) rfl rfl rfl lk_RX12_7 dX12_ask_121 ?_
            refine lv_iload hx hb dX12_ask_124 (lv_at hl 0 rfl) ?_
            refine lv_iconst (v := (nI 4)) hx hb dX12_ask_126 (by decide) ?_
            refine lv_iadd hx hb dX12_ask_127 ?_
            refine lv_iconst (v := (-1)) hx hb dX12_ask_128 (by decide) ?_
            refine xh_iast C hw 1 5512 h sM_1 (x_lt hN rfl) dX12_ask_129 (fun H locs M hw h => ?_)
            refine lv_aload_n hx hb dX12_ask_130 rfl (lv_at hl 1 rfl) ?_
            refine xh_getr C hw 0 0 sM_0 (x_lt hN rfl) rfl rfl rfl lk_RX12_7 dX12_ask_131 ?_
            refine lv_bipush (v := (nI 8)) hx hb dX12_ask_134 (by decide) ?_
            refine lv_dup2_11 hx hb dX12_ask_136 rfl rfl ?_
            refine xh_iald C hw 1 5512 h sM_1 (x_lt hN rfl) dX12_ask_137 (fun r137 h => ?_)
            refine lv_iconst (v := (nI 1)) hx hb dX12_ask_138 (by decide) ?_
            refine lv_iadd hx hb dX12_ask_139 ?_
            refine xh_iast C hw 1 5512 h sM_1 (x_lt hN rfl) dX12_ask_140 (fun H locs M hw h => ?_)
            refine lv_aload_n hx hb dX12_ask_141 rfl (lv_at hl 1 rfl) ?_
            refine xh_getr C hw 0 0 sM_0 (x_lt hN rfl) rfl rfl rfl lk_RX12_7 dX12_ask_142 ?_
            refine lv_bipush (v := (nI 8)) hx hb dX12_ask_145 (by decide) ?_
            refine xh_iald C hw 1 5512 h sM_1 (x_lt hN rfl) dX12_ask_147 (fun r147 h => ?_)
            refine lv_iconst (v := (nI 1)) hx hb dX12_ask_148 (by decide) ?_
            refine lv_isub hx hb dX12_ask_149 ?_
            exact hret dX12_ask_150 rfl hw h
        · refine lv_ldc hx hb ho (hL _ kc_RX12_111) dX12_ask_49 ?_
          exact hret dX12_ask_51 rfl hw h
def f_X12_priceFor (M : x_M) (a1 : Int32) : Option (Int32 × x_M) := x_rd 5512 (M 1) (((nI 5338) + ((nI 5) * a1)) + (nI 1)) (fun r19 => x_rd 5512 (M 1) (nI 0) (fun r29 => x_bn (f_X12_termsOn M r29) (fun r30 M => if r30 = (-1) then x_rd 5512 (M 1) (((nI 5298) + ((nI 5) * r19)) + (nI 1)) (fun r48 => some (r48, M)) else x_rd 5512 (M 1) (((nI 5298) + ((nI 5) * r19)) + (nI 1)) (fun r63 => x_wr 128 M 7 (nI 108) r63 (fun M => x_rd 5512 (M 1) (((nI 5338) + ((nI 5) * a1)) + (nI 2)) (fun r78 => x_wr 128 M 7 (nI 102) r78 (fun M => x_rd 5512 (M 1) (((nI 5298) + ((nI 5) * r19)) + (nI 4)) (fun r93 => x_wr 128 M 7 (nI 111) r93 (fun M => x_rd 5512 (M 1) ((nI 5298) + ((nI 5) * r19)) (fun r106 => x_rd 5512 (M 1) (nI 0) (fun r112 => x_wr 128 M 7 (nI 100) (r106 - r112) (fun M => x_rd 5512 (M 1) ((nI 5338) + ((nI 5) * a1)) (fun r130 => x_rd 10 (M 17) r130 (fun r131 => x_wr 128 M 7 (nI 116) r131 (fun M => x_rd 5512 (M 1) ((nI 5338) + ((nI 5) * a1)) (fun r151 => x_rd 5512 (M 1) ((nI 20) + ((nI 3) * r151)) (fun r154 => x_wr 128 M 7 (nI 107) r154 (fun M => x_bn (f_X12_worked M r30 (nI 2)) (fun r160 M => x_bn (f_X12_within M r160 (nI 0) (nI 99999)) (fun r166 M => some (r166, M)))))))))))))))))))))
abbrev rm_X12_priceFor : Room := { frames := 2, cells := 0, slots := 0, locals := 49 }
set_option maxHeartbeats 4000000 in
set_option maxRecDepth 100000 in
theorem c_X12_priceFor {l : Launch} {D : va_G} {cy : Nat → ClassId} {q ad : Nat → Nat} {s0 : State} (hq : x_Q q 24 s0.heap.size) {M : x_M} {a1 : Int32} {z : Int32 × x_M} (h : f_X12_priceFor M a1 = some z) : x_Ci l D cy q ad x_spM 24 s0 yX12_priceFor (x_uw yX12_priceFor cX12_priceFor 5 (some .int)) rm_X12_priceFor [.ref (q 0), .int a1] M z.1 z.2 := by
  have hN : 24 ≤ 24 := Nat.le_refl _
  refine x_meti hq (by decide) (Nat.le_of_ble_eq_true rfl) ?_
  intro p e s m args below meth c ls Q C hret hl hw
  have hx := C.1.1
  have hb := C.1.2.1
  have ho := C.1.2.2.2.1
  have hL := C.1.2.2.2.2
  have hl : lv_has ls 5 [(0, .ref (q 0)), (1, .int a1)] := hl
  unfold f_X12_priceFor at h
  refine lv_sipush (v := (nI 5338)) hx hb dX12_priceFor_0 (by decide) ?_
  refine lv_iconst (v := (nI 5)) hx hb dX12_priceFor_3 (by decide) ?_
  refine lv_iload_n hx hb dX12_priceFor_4 rfl (lv_at hl 1 rfl) ?_
  refine lv_imul hx hb dX12_priceFor_5 ?_
  refine lv_iadd hx hb dX12_priceFor_6 ?_
  refine lv_istore_n (lv' := [(2, .int _), (0, .ref (q 0)), (1, .int _)]) hx hb dX12_priceFor_7 rfl hl (by decide) rfl (fun ls hl => ?_)
  refine lv_sipush (v := (nI 5298)) hx hb dX12_priceFor_8 (by decide) ?_
  refine lv_iconst (v := (nI 5)) hx hb dX12_priceFor_11 (by decide) ?_
  refine lv_aload_n hx hb dX12_priceFor_12 rfl (lv_at hl 1 rfl) ?_
  refine xh_getr C hw 0 0 sM_0 (x_lt hN rfl) rfl rfl rfl lk_RX12_7 dX12_priceFor_13 ?_
  refine lv_iload_n hx hb dX12_priceFor_16 rfl (lv_at hl 0 rfl) ?_
  refine lv_iconst (v := (nI 1)) hx hb dX12_priceFor_17 (by decide) ?_
  refine lv_iadd hx hb dX12_priceFor_18 ?_
  refine xh_iald C hw 1 5512 h sM_1 (x_lt hN rfl) dX12_priceFor_19 (fun r19 h => ?_)
  refine lv_imul hx hb dX12_priceFor_20 ?_
  refine lv_iadd hx hb dX12_priceFor_21 ?_
  refine lv_istore_n (lv' := [(3, .int _), (2, .int _), (0, .ref (q 0)), (1, .int _)]) hx hb dX12_priceFor_22 rfl hl (by decide) rfl (fun ls hl => ?_)
  refine lv_aload_n hx hb dX12_priceFor_23 rfl (lv_at hl 2 rfl) ?_
  refine lv_aload_n hx hb dX12_priceFor_24 rfl (lv_at hl 2 rfl) ?_
  refine xh_getr C hw 0 0 sM_0 (x_lt hN rfl) rfl rfl rfl lk_RX12_7 dX12_priceFor_25 ?_
  refine lv_iconst (v := (nI 0)) hx hb dX12_priceFor_28 (by decide) ?_
  refine xh_iald C hw 1 5512 h sM_1 (x_lt hN rfl) dX12_priceFor_29 (fun r29 h => ?_)
  refine xh_cVi C hw (rest := []) h (fun _ hy => c_X12_termsOn hq hy) ml_RX12_221 mv_X12_termsOn sM_0 (x_lt hN rfl) rfl ⟨rfl, rfl, by decide, by decide⟩ rfl hl.1 rfl (Nat.le_of_ble_eq_true rfl) dX12_priceFor_30 (fun H locs r30 M hw h => ?_)
  refine lv_istore (lv' := [(4, .int _), (3, .int _), (2, .int _), (0, .ref (q 0)), (1, .int _)]) hx hb dX12_priceFor_33 hl (by decide) rfl (fun ls hl => ?_)
  refine lv_iload hx hb dX12_priceFor_35 (lv_at hl 0 rfl) ?_
  refine lv_iconst (v := (-1)) hx hb dX12_priceFor_37 (by decide) ?_
  refine x_icmp_ne (tgt := 50) hx hb h dX12_priceFor_38 (by decide) (fun h => ?_) (fun h => ?_)
  · refine lv_aload_n hx hb dX12_priceFor_41 rfl (lv_at hl 3 rfl) ?_
    refine xh_getr C hw 0 0 sM_0 (x_lt hN rfl) rfl rfl rfl lk_RX12_7 dX12_priceFor_42 ?_
    refine lv_iload_n hx hb dX12_priceFor_45 rfl (lv_at hl 1 rfl) ?_
    refine lv_iconst (v := (nI 1)) hx hb dX12_priceFor_46 (by decide) ?_
    refine lv_iadd hx hb dX12_priceFor_47 ?_
    refine xh_iald C hw 1 5512 h sM_1 (x_lt hN rfl) dX12_priceFor_48 (fun r48 h => ?_)
    exact hret dX12_priceFor_49 rfl hw h
  · refine lv_aload_n hx hb dX12_priceFor_50 rfl (lv_at hl 3 rfl) ?_
    refine xh_getr C hw 0 20 sM_0 (x_lt hN rfl) rfl rfl rfl lk_RX12_28 dX12_priceFor_51 ?_
    refine lv_bipush (v := (nI 108)) hx hb dX12_priceFor_54 (by decide) ?_
    refine lv_aload_n hx hb dX12_priceFor_56 rfl (lv_at hl 3 rfl) ?_
    refine xh_getr C hw 0 0 sM_0 (x_lt hN rfl) rfl rfl rfl lk_RX12_7 dX12_priceFor_57 ?_
    refine lv_iload_n hx hb dX12_priceFor_60 rfl (lv_at hl 1 rfl) ?_
    refine lv_iconst (v := (nI 1)) hx hb dX12_priceFor_61 (by decide) ?_
    refine lv_iadd hx hb dX12_priceFor_62 ?_
    refine xh_iald C hw 1 5512 h sM_1 (x_lt hN rfl) dX12_priceFor_63 (fun r63 h => ?_)
    refine xh_iast C hw 7 128 h sM_7 (x_lt hN rfl) dX12_priceFor_64 (fun H locs M hw h => ?_)
    refine lv_aload_n hx hb dX12_priceFor_65 rfl (lv_at hl 3 rfl) ?_
    refine xh_getr C hw 0 20 sM_0 (x_lt hN rfl) rfl rfl rfl lk_RX12_28 dX12_priceFor_66 ?_
    refine lv_bipush (v := (nI 102)) hx hb dX12_priceFor_69 (by decide) ?_
    refine lv_aload_n hx hb dX12_priceFor_71 rfl (lv_at hl 3 rfl) ?_
    refine xh_getr C hw 0 0 sM_0 (x_lt hN rfl) rfl rfl rfl lk_RX12_7 dX12_priceFor_72 ?_
    refine lv_iload_n hx hb dX12_priceFor_75 rfl (lv_at hl 2 rfl) ?_
    refine lv_iconst (v := (nI 2)) hx hb dX12_priceFor_76 (by decide) ?_
    refine lv_iadd hx hb dX12_priceFor_77 ?_
    refine xh_iald C hw 1 5512 h sM_1 (x_lt hN rfl) dX12_priceFor_78 (fun r78 h => ?_)
    refine xh_iast C hw 7 128 h sM_7 (x_lt hN rfl) dX12_priceFor_79 (fun H locs M hw h => ?_)
    refine lv_aload_n hx hb dX12_priceFor_80 rfl (lv_at hl 3 rfl) ?_
    refine xh_getr C hw 0 20 sM_0 (x_lt hN rfl) rfl rfl rfl lk_RX12_28 dX12_priceFor_81 ?_
    refine lv_bipush (v := (nI 111)) hx hb dX12_priceFor_84 (by decide) ?_
    refine lv_aload_n hx hb dX12_priceFor_86 rfl (lv_at hl 3 rfl) ?_
    refine xh_getr C hw 0 0 sM_0 (x_lt hN rfl) rfl rfl rfl lk_RX12_7 dX12_priceFor_87 ?_
    refine lv_iload_n hx hb dX12_priceFor_90 rfl (lv_at hl 1 rfl) ?_
    refine lv_iconst (v := (nI 4)) hx hb dX12_priceFor_91 (by decide) ?_
    refine lv_iadd hx hb dX12_priceFor_92 ?_
    refine xh_iald C hw 1 5512 h sM_1 (x_lt hN rfl) dX12_priceFor_93 (fun r93 h => ?_)
    refine xh_iast C hw 7 128 h sM_7 (x_lt hN rfl) dX12_priceFor_94 (fun H locs M hw h => ?_)
    refine lv_aload_n hx hb dX12_priceFor_95 rfl (lv_at hl 3 rfl) ?_
    refine xh_getr C hw 0 20 sM_0 (x_lt hN rfl) rfl rfl rfl lk_RX12_28 dX12_priceFor_96 ?_
    refine lv_bipush (v := (nI 100)) hx hb dX12_priceFor_99 (by decide) ?_
    refine lv_aload_n hx hb dX12_priceFor_101 rfl (lv_at hl 3 rfl) ?_
    refine xh_getr C hw 0 0 sM_0 (x_lt hN rfl) rfl rfl rfl lk_RX12_7 dX12_priceFor_102 ?_
    refine lv_iload_n hx hb dX12_priceFor_105 rfl (lv_at hl 1 rfl) ?_
    refine xh_iald C hw 1 5512 h sM_1 (x_lt hN rfl) dX12_priceFor_106 (fun r106 h => ?_)
    refine lv_aload_n hx hb dX12_priceFor_107 rfl (lv_at hl 3 rfl) ?_
    refine xh_getr C hw 0 0 sM_0 (x_lt hN rfl) rfl rfl rfl lk_RX12_7 dX12_priceFor_108 ?_
    refine lv_iconst (v := (nI 0)) hx hb dX12_priceFor_111 (by decide) ?_
    refine xh_iald C hw 1 5512 h sM_1 (x_lt hN rfl) dX12_priceFor_112 (fun r112 h => ?_)
    refine lv_isub hx hb dX12_priceFor_113 ?_
    refine xh_iast C hw 7 128 h sM_7 (x_lt hN rfl) dX12_priceFor_114 (fun H locs M hw h => ?_)
    refine lv_aload_n hx hb dX12_priceFor_115 rfl (lv_at hl 3 rfl) ?_
    refine xh_getr C hw 0 20 sM_0 (x_lt hN rfl) rfl rfl rfl lk_RX12_28 dX12_priceFor_116 ?_
    refine lv_bipush (v := (nI 116)) hx hb dX12_priceFor_119 (by decide) ?_
    refine lv_aload_n hx hb dX12_priceFor_121 rfl (lv_at hl 3 rfl) ?_
    refine xh_getr C hw 0 31 sM_0 (x_lt hN rfl) rfl rfl rfl lk_RX12_59 dX12_priceFor_122 ?_
    refine lv_aload_n hx hb dX12_priceFor_125 rfl (lv_at hl 3 rfl) ?_
    refine xh_getr C hw 0 0 sM_0 (x_lt hN rfl) rfl rfl rfl lk_RX12_7 dX12_priceFor_126 ?_
    refine lv_iload_n hx hb dX12_priceFor_129 rfl (lv_at hl 2 rfl) ?_
    refine xh_iald C hw 1 5512 h sM_1 (x_lt hN rfl) dX12_priceFor_130 (fun r130 h => ?_)
    refine xh_iald C hw 17 10 h sM_17 (x_lt hN rfl) dX12_priceFor_131 (fun r131 h => ?_)
    refine xh_iast C hw 7 128 h sM_7 (x_lt hN rfl) dX12_priceFor_132 (fun H locs M hw h => ?_)
    refine lv_aload_n hx hb dX12_priceFor_133 rfl (lv_at hl 3 rfl) ?_
    refine xh_getr C hw 0 20 sM_0 (x_lt hN rfl) rfl rfl rfl lk_RX12_28 dX12_priceFor_134 ?_
    refine lv_bipush (v := (nI 107)) hx hb dX12_priceFor_137 (by decide) ?_
    refine lv_aload_n hx hb dX12_priceFor_139 rfl (lv_at hl 3 rfl) ?_
    refine xh_getr C hw 0 0 sM_0 (x_lt hN rfl) rfl rfl rfl lk_RX12_7 dX12_priceFor_140 ?_
    refine lv_bipush (v := (nI 20)) hx hb dX12_priceFor_143 (by decide) ?_
    refine lv_iconst (v := (nI 3)) hx hb dX12_priceFor_145 (by decide) ?_
    refine lv_aload_n hx hb dX12_priceFor_146 rfl (lv_at hl 3 rfl) ?_
    refine xh_getr C hw 0 0 sM_0 (x_lt hN rfl) rfl rfl rfl lk_RX12_7 dX12_priceFor_147 ?_
    refine lv_iload_n hx hb dX12_priceFor_150 rfl (lv_at hl 2 rfl) ?_
    refine xh_iald C hw 1 5512 h sM_1 (x_lt hN rfl) dX12_priceFor_151 (fun r151 h => ?_)
    refine lv_imul hx hb dX12_priceFor_152 ?_
    refine lv_iadd hx hb dX12_priceFor_153 ?_
    refine xh_iald C hw 1 5512 h sM_1 (x_lt hN rfl) dX12_priceFor_154 (fun r154 h => ?_)
    refine xh_iast C hw 7 128 h sM_7 (x_lt hN rfl) dX12_priceFor_155 (fun H locs M hw h => ?_)
    refine lv_aload_n hx hb dX12_priceFor_156 rfl (lv_at hl 3 rfl) ?_
    refine lv_iload hx hb dX12_priceFor_157 (lv_at hl 0 rfl) ?_
    refine lv_iconst (v := (nI 2)) hx hb dX12_priceFor_159 (by decide) ?_
    refine xh_cVi C hw (rest := []) h (fun _ hy => c_X12_worked hq hy) ml_RX12_215 mv_X12_worked sM_0 (x_lt hN rfl) rfl ⟨rfl, rfl, by decide, by decide⟩ rfl hl.1 rfl (Nat.le_of_ble_eq_true rfl) dX12_priceFor_160 (fun H locs r160 M hw h => ?_)
    refine lv_iconst (v := (nI 0)) hx hb dX12_priceFor_163 (by decide) ?_
    refine lv_ldc hx hb ho (hL _ kc_RX12_107) dX12_priceFor_164 ?_
    refine xh_cSi C hw (rest := []) h (fun _ hy => c_X12_within hq hy) ml_RX12_218 st_X12_within ⟨rfl, rfl, by decide, by decide⟩ rfl hl.1 rfl (Nat.le_of_ble_eq_true rfl) dX12_priceFor_166 (fun H locs r166 M hw h => ?_)
    exact hret dX12_priceFor_169 rfl hw h
def f_X12_pays_45 (M : x_M) : Option (Int32 × x_M) := some ((nI 0), M)
def f_X12_pays_131 (M : x_M) (v2 : Int32) (v3 : Int32) (v4 : Int32) : Option (Int32 × x_M) := x_rd 5512 (M 1) (v3 + (nI 4)) (fun r139 => x_wr 5512 M 1 (v3 + (nI 4)) (r139 - (nI 1)) (fun M => x_wr 5512 M 1 (v2 + (nI 3)) (nI 1) (fun M => x_wr 5512 M 1 (v2 + (nI 4)) v4 (fun M => some ((nI 1), M)))))
def f_X12_pays (M : x_M) (a1 : Int32) : Option (Int32 × x_M) := x_rd 5512 (M 1) (((nI 5338) + ((nI 5) * a1)) + (nI 1)) (fun r19 => x_rd 5512 (M 1) (((nI 5298) + ((nI 5) * r19)) + (nI 4)) (fun r30 => if r30 = 0 then f_X12_pays_45 M else x_rd 5512 (M 1) (nI 5) (fun r39 => if r39 = (nI 100) then f_X12_pays_45 M else x_bn (f_X12_priceFor M a1) (fun r49 M => x_rd 5512 (M 1) (nI 0) (fun r60 => x_rd 5512 (M 1) (nI 0) (fun r66 => x_bn (f_X12_stand M r60 r66) (fun _ M => x_rd 5512 (M 1) ((nI 5338) + ((nI 5) * a1)) (fun r76 => x_rd 5512 (M 1) (nI 0) (fun r82 => x_bn (f_X12_there M r76 r82 (nI 1)) (fun r84 M => if 0 ≤ (lg_cmp r84 ((r49).toInt64)) then if r49 ≤ 0 then f_X12_pays_131 M ((nI 5338) + ((nI 5) * a1)) ((nI 5298) + ((nI 5) * r19)) r49 else x_rd 5512 (M 1) ((nI 5338) + ((nI 5) * a1)) (fun r108 => x_rd 5512 (M 1) (nI 0) (fun r114 => x_rd 5512 (M 1) (((nI 5298) + ((nI 5) * r19)) + (nI 2)) (fun r124 => x_bn (f_X12_tells M (nI 1) r108 r114 r49 r124 (nI 0)) (fun r126 M => f_X12_pays_131 M ((nI 5338) + ((nI 5) * a1)) ((nI 5298) + ((nI 5) * r19)) r49)))) else some ((nI 0), M)))))))))))
abbrev rm_X12_pays : Room := { frames := 7, cells := 0, slots := 0, locals := 174 }
set_option maxHeartbeats 4000000 in
set_option maxRecDepth 100000 in
theorem c_X12_pays {l : Launch} {D : va_G} {cy : Nat → ClassId} {q ad : Nat → Nat} {s0 : State} (hq : x_Q q 24 s0.heap.size) {M : x_M} {a1 : Int32} {z : Int32 × x_M} (h : f_X12_pays M a1 = some z) : x_Ci l D cy q ad x_spM 24 s0 yX12_pays (x_uw yX12_pays cX12_pays 6 (some .boolean)) rm_X12_pays [.ref (q 0), .int a1] M z.1 z.2 := by
  have hN : 24 ≤ 24 := Nat.le_refl _
  refine x_meti hq (by decide) (Nat.le_of_ble_eq_true rfl) ?_
  intro p e s m args below meth c ls Q C hret hl hw
  have hx := C.1.1
  have hb := C.1.2.1
  have ho := C.1.2.2.2.1
  have hL := C.1.2.2.2.2
  have hl : lv_has ls 6 [(0, .ref (q 0)), (1, .int a1)] := hl
  have w45 : ∀ (M : x_M) (H : Heap) (locs : List Loc) (ls : Array Slot), x_B D cy q ad x_spM 24 s H locs M → lv_has ls 6 [] → f_X12_pays_45 M = some z → W p l e rm_X12_pays s m args below meth c H locs 0 0 Q (F0 m 45 ls []) := by
    intro M H locs ls hw hl h
    unfold f_X12_pays_45 at h
    refine lv_iconst (v := (nI 0)) hx hb dX12_pays_45 (by decide) ?_
    exact hret dX12_pays_46 rfl hw h
  have w131 : ∀ (M : x_M) (v2 : Int32) (v3 : Int32) (v4 : Int32) (H : Heap) (locs : List Loc) (ls : Array Slot), x_B D cy q ad x_spM 24 s H locs M → lv_has ls 6 [(0, .ref (q 0)), (2, .int v2), (3, .int v3), (4, .int v4)] → f_X12_pays_131 M v2 v3 v4 = some z → W p l e rm_X12_pays s m args below meth c H locs 0 0 Q (F0 m 131 ls []) := by
    intro M v2 v3 v4 H locs ls hw hl h
    unfold f_X12_pays_131 at h
    refine lv_aload_n hx hb dX12_pays_131 rfl (lv_at hl 0 rfl) ?_
    refine xh_getr C hw 0 0 sM_0 (x_lt hN rfl) rfl rfl rfl lk_RX12_7 dX12_pays_132 ?_
    refine lv_iload_n hx hb dX12_pays_135 rfl (lv_at hl 2 rfl) ?_
    refine lv_iconst (v := (nI 4)) hx hb dX12_pays_136 (by decide) ?_
    refine lv_iadd hx hb dX12_pays_137 ?_
    refine lv_dup2_11 hx hb dX12_pays_138 rfl rfl ?_
    refine xh_iald C hw 1 5512 h sM_1 (x_lt hN rfl) dX12_pays_139 (fun r139 h => ?_)
    refine lv_iconst (v := (nI 1)) hx hb dX12_pays_140 (by decide) ?_
    refine lv_isub hx hb dX12_pays_141 ?_
    refine xh_iast C hw 1 5512 h sM_1 (x_lt hN rfl) dX12_pays_142 (fun H locs M hw h => ?_)
    refine lv_aload_n hx hb dX12_pays_143 rfl (lv_at hl 0 rfl) ?_
    refine xh_getr C hw 0 0 sM_0 (x_lt hN rfl) rfl rfl rfl lk_RX12_7 dX12_pays_144 ?_
    refine lv_iload_n hx hb dX12_pays_147 rfl (lv_at hl 1 rfl) ?_
    refine lv_iconst (v := (nI 3)) hx hb dX12_pays_148 (by decide) ?_
    refine lv_iadd hx hb dX12_pays_149 ?_
    refine lv_iconst (v := (nI 1)) hx hb dX12_pays_150 (by decide) ?_
    refine xh_iast C hw 1 5512 h sM_1 (x_lt hN rfl) dX12_pays_151 (fun H locs M hw h => ?_)
    refine lv_aload_n hx hb dX12_pays_152 rfl (lv_at hl 0 rfl) ?_
    refine xh_getr C hw 0 0 sM_0 (x_lt hN rfl) rfl rfl rfl lk_RX12_7 dX12_pays_153 ?_
    refine lv_iload_n hx hb dX12_pays_156 rfl (lv_at hl 1 rfl) ?_
    refine lv_iconst (v := (nI 4)) hx hb dX12_pays_157 (by decide) ?_
    refine lv_iadd hx hb dX12_pays_158 ?_
    refine lv_iload hx hb dX12_pays_159 (lv_at hl 3 rfl) ?_
    refine xh_iast C hw 1 5512 h sM_1 (x_lt hN rfl) dX12_pays_161 (fun H locs M hw h => ?_)
    refine lv_iconst (v := (nI 1)) hx hb dX12_pays_162 (by decide) ?_
    exact hret dX12_pays_163 rfl hw h
  unfold f_X12_pays at h
  refine lv_sipush (v := (nI 5338)) hx hb dX12_pays_0 (by decide) ?_
  refine lv_iconst (v := (nI 5)) hx hb dX12_pays_3 (by decide) ?_
  refine lv_iload_n hx hb dX12_pays_4 rfl (lv_at hl 1 rfl) ?_
  refine lv_imul hx hb dX12_pays_5 ?_
  refine lv_iadd hx hb dX12_pays_6 ?_
  refine lv_istore_n (lv' := [(2, .int _), (0, .ref (q 0)), (1, .int _)]) hx hb dX12_pays_7 rfl hl (by decide) rfl (fun ls hl => ?_)
  refine lv_sipush (v := (nI 5298)) hx hb dX12_pays_8 (by decide) ?_
  refine lv_iconst (v := (nI 5)) hx hb dX12_pays_11 (by decide) ?_
  refine lv_aload_n hx hb dX12_pays_12 rfl (lv_at hl 1 rfl) ?_
  refine xh_getr C hw 0 0 sM_0 (x_lt hN rfl) rfl rfl rfl lk_RX12_7 dX12_pays_13 ?_
  refine lv_iload_n hx hb dX12_pays_16 rfl (lv_at hl 0 rfl) ?_
  refine lv_iconst (v := (nI 1)) hx hb dX12_pays_17 (by decide) ?_
  refine lv_iadd hx hb dX12_pays_18 ?_
  refine xh_iald C hw 1 5512 h sM_1 (x_lt hN rfl) dX12_pays_19 (fun r19 h => ?_)
  refine lv_imul hx hb dX12_pays_20 ?_
  refine lv_iadd hx hb dX12_pays_21 ?_
  refine lv_istore_n (lv' := [(3, .int _), (2, .int _), (0, .ref (q 0)), (1, .int _)]) hx hb dX12_pays_22 rfl hl (by decide) rfl (fun ls hl => ?_)
  refine lv_aload_n hx hb dX12_pays_23 rfl (lv_at hl 2 rfl) ?_
  refine xh_getr C hw 0 0 sM_0 (x_lt hN rfl) rfl rfl rfl lk_RX12_7 dX12_pays_24 ?_
  refine lv_iload_n hx hb dX12_pays_27 rfl (lv_at hl 0 rfl) ?_
  refine lv_iconst (v := (nI 4)) hx hb dX12_pays_28 (by decide) ?_
  refine lv_iadd hx hb dX12_pays_29 ?_
  refine xh_iald C hw 1 5512 h sM_1 (x_lt hN rfl) dX12_pays_30 (fun r30 h => ?_)
  refine x_if_eq (tgt := 45) hx hb h dX12_pays_31 (by decide) (fun h => ?_) (fun h => ?_)
  · exact w45 _ _ _ _ hw (lv_sub hl [] rfl) h
  · refine lv_aload_n hx hb dX12_pays_34 rfl (lv_at hl 2 rfl) ?_
    refine xh_getr C hw 0 0 sM_0 (x_lt hN rfl) rfl rfl rfl lk_RX12_7 dX12_pays_35 ?_
    refine lv_iconst (v := (nI 5)) hx hb dX12_pays_38 (by decide) ?_
    refine xh_iald C hw 1 5512 h sM_1 (x_lt hN rfl) dX12_pays_39 (fun r39 h => ?_)
    refine lv_bipush (v := (nI 100)) hx hb dX12_pays_40 (by decide) ?_
    refine x_icmp_ne (tgt := 47) hx hb h dX12_pays_42 (by decide) (fun h => ?_) (fun h => ?_)
    · exact w45 _ _ _ _ hw (lv_sub hl [] rfl) h
    · refine lv_aload_n hx hb dX12_pays_47 rfl (lv_at hl 2 rfl) ?_
      refine lv_iload_n hx hb dX12_pays_48 rfl (lv_at hl 3 rfl) ?_
      refine xh_cVi C hw (rest := []) h (fun _ hy => c_X12_priceFor hq hy) ml_RX12_263 mv_X12_priceFor sM_0 (x_lt hN rfl) rfl ⟨rfl, rfl, by decide, by decide⟩ rfl hl.1 rfl (Nat.le_of_ble_eq_true rfl) dX12_pays_49 (fun H locs r49 M hw h => ?_)
      refine lv_istore (lv' := [(4, .int _), (3, .int _), (2, .int _), (0, .ref (q 0)), (1, .int _)]) hx hb dX12_pays_52 hl (by decide) rfl (fun ls hl => ?_)
      refine lv_aload_n hx hb dX12_pays_54 rfl (lv_at hl 3 rfl) ?_
      refine lv_aload_n hx hb dX12_pays_55 rfl (lv_at hl 3 rfl) ?_
      refine xh_getr C hw 0 0 sM_0 (x_lt hN rfl) rfl rfl rfl lk_RX12_7 dX12_pays_56 ?_
      refine lv_iconst (v := (nI 0)) hx hb dX12_pays_59 (by decide) ?_
      refine xh_iald C hw 1 5512 h sM_1 (x_lt hN rfl) dX12_pays_60 (fun r60 h => ?_)
      refine lv_aload_n hx hb dX12_pays_61 rfl (lv_at hl 3 rfl) ?_
      refine xh_getr C hw 0 0 sM_0 (x_lt hN rfl) rfl rfl rfl lk_RX12_7 dX12_pays_62 ?_
      refine lv_iconst (v := (nI 0)) hx hb dX12_pays_65 (by decide) ?_
      refine xh_iald C hw 1 5512 h sM_1 (x_lt hN rfl) dX12_pays_66 (fun r66 h => ?_)
      refine xh_cVv C hw (rest := []) h (fun _ hy => c_X12_stand hq hy) ml_RX12_255 mv_X12_stand sM_0 (x_lt hN rfl) rfl ⟨rfl, rfl, by decide, by decide⟩ rfl hl.1 rfl (Nat.le_of_ble_eq_true rfl) dX12_pays_67 (fun H locs _ M hw h => ?_)
      refine lv_aload_n hx hb dX12_pays_70 rfl (lv_at hl 3 rfl) ?_
      refine lv_aload_n hx hb dX12_pays_71 rfl (lv_at hl 3 rfl) ?_
      refine xh_getr C hw 0 0 sM_0 (x_lt hN rfl) rfl rfl rfl lk_RX12_7 dX12_pays_72 ?_
      refine lv_iload_n hx hb dX12_pays_75 rfl (lv_at hl 2 rfl) ?_
      refine xh_iald C hw 1 5512 h sM_1 (x_lt hN rfl) dX12_pays_76 (fun r76 h => ?_)
      refine lv_aload_n hx hb dX12_pays_77 rfl (lv_at hl 3 rfl) ?_
      refine xh_getr C hw 0 0 sM_0 (x_lt hN rfl) rfl rfl rfl lk_RX12_7 dX12_pays_78 ?_
      refine lv_iconst (v := (nI 0)) hx hb dX12_pays_81 (by decide) ?_
      refine xh_iald C hw 1 5512 h sM_1 (x_lt hN rfl) dX12_pays_82 (fun r82 h => ?_)
      refine lv_iconst (v := (nI 1)) hx hb dX12_pays_83 (by decide) ?_
      refine xh_cVl C hw (rest := []) h (fun _ hy => c_X12_there hq hy) ml_RX12_241 mv_X12_there sM_0 (x_lt hN rfl) rfl ⟨rfl, rfl, by decide, by decide⟩ rfl hl.1 rfl (Nat.le_of_ble_eq_true rfl) dX12_pays_84 (fun H locs r84 M hw h => ?_)
      refine lv_iload hx hb dX12_pays_87 (lv_at hl 0 rfl) ?_
      refine lv_i2l hx hb dX12_pays_89 rfl ?_
      refine W.lcmp hx hb dX12_pays_90 ?_
      refine x_if_ge (tgt := 96) hx hb h dX12_pays_91 (by decide) (fun h => ?_) (fun h => ?_)
      · refine lv_iload hx hb dX12_pays_96 (lv_at hl 0 rfl) ?_
        refine x_if_le (tgt := 131) hx hb h dX12_pays_98 (by decide) (fun h => ?_) (fun h => ?_)
        · exact w131 _ _ _ _ _ _ _ hw (lv_sub hl [3, 2, 1, 0] rfl) h
        · refine lv_aload_n hx hb dX12_pays_101 rfl (lv_at hl 3 rfl) ?_
          refine lv_iconst (v := (nI 1)) hx hb dX12_pays_102 (by decide) ?_
          refine lv_aload_n hx hb dX12_pays_103 rfl (lv_at hl 3 rfl) ?_
          refine xh_getr C hw 0 0 sM_0 (x_lt hN rfl) rfl rfl rfl lk_RX12_7 dX12_pays_104 ?_
          refine lv_iload_n hx hb dX12_pays_107 rfl (lv_at hl 2 rfl) ?_
          refine xh_iald C hw 1 5512 h sM_1 (x_lt hN rfl) dX12_pays_108 (fun r108 h => ?_)
          refine lv_aload_n hx hb dX12_pays_109 rfl (lv_at hl 3 rfl) ?_
          refine xh_getr C hw 0 0 sM_0 (x_lt hN rfl) rfl rfl rfl lk_RX12_7 dX12_pays_110 ?_
          refine lv_iconst (v := (nI 0)) hx hb dX12_pays_113 (by decide) ?_
          refine xh_iald C hw 1 5512 h sM_1 (x_lt hN rfl) dX12_pays_114 (fun r114 h => ?_)
          refine lv_iload hx hb dX12_pays_115 (lv_at hl 0 rfl) ?_
          refine lv_aload_n hx hb dX12_pays_117 rfl (lv_at hl 3 rfl) ?_
          refine xh_getr C hw 0 0 sM_0 (x_lt hN rfl) rfl rfl rfl lk_RX12_7 dX12_pays_118 ?_
          refine lv_iload_n hx hb dX12_pays_121 rfl (lv_at hl 1 rfl) ?_
          refine lv_iconst (v := (nI 2)) hx hb dX12_pays_122 (by decide) ?_
          refine lv_iadd hx hb dX12_pays_123 ?_
          refine xh_iald C hw 1 5512 h sM_1 (x_lt hN rfl) dX12_pays_124 (fun r124 h => ?_)
          refine lv_iconst (v := (nI 0)) hx hb dX12_pays_125 (by decide) ?_
          refine xh_cVi C hw (rest := []) h (fun _ hy => c_X12_tells hq hy) ml_RX12_103 mv_X12_tells sM_0 (x_lt hN rfl) rfl ⟨rfl, rfl, by decide, by decide⟩ rfl hl.1 rfl (Nat.le_of_ble_eq_true rfl) dX12_pays_126 (fun H locs r126 M hw h => ?_)
          refine lv_istore (lv' := [(5, .int _), (4, .int _), (3, .int _), (2, .int _), (0, .ref (q 0)), (1, .int _)]) hx hb dX12_pays_129 hl (by decide) rfl (fun ls hl => ?_)
          exact w131 _ _ _ _ _ _ _ hw (lv_sub hl [4, 3, 2, 1] rfl) h
      · refine lv_iconst (v := (nI 0)) hx hb dX12_pays_94 (by decide) ?_
        exact hret dX12_pays_95 rfl hw h
def f_X12_settle_181 (k90 : x_M → Int32 → Int32 → Int32 → Option (Int32 × x_M)) (k97 : x_M → Int32 → Int32 → Int32 → Int32 → Option (Int32 × x_M)) (M : x_M) (v1 : Int32) (v2 : Int32) (v3 : Int32) (v4 : Int32) : Option (Int32 × x_M) := k97 M v1 v2 v3 (v4 + (nI 1))
def f_X12_settle_179 (k90 : x_M → Int32 → Int32 → Int32 → Option (Int32 × x_M)) (k97 : x_M → Int32 → Int32 → Int32 → Int32 → Option (Int32 × x_M)) (M : x_M) (v1 : Int32) (v3 : Int32) (v4 : Int32) (t0 : Int32) (t1 : Int32) : Option (Int32 × x_M) := f_X12_settle_181 k90 k97 M v1 (t0 + t1) v3 v4
def f_X12_settle_97 (k90 : x_M → Int32 → Int32 → Int32 → Option (Int32 × x_M)) : Nat → x_M → Int32 → Int32 → Int32 → Int32 → Option (Int32 × x_M)
  | 0, _, _, _, _, _ => none
  | n + 1, M, v1, v2, v3, v4 => x_rd 5512 (M 1) (nI 8) (fun r105 => if r105 ≤ v4 then k90 M v1 v2 (v3 + (-1)) else x_rd 5512 (M 1) (((nI 5338) + ((nI 5) * v4)) + (nI 1)) (fun r127 => if r127 = v1 then x_rd 5512 (M 1) (((nI 5338) + ((nI 5) * v4)) + (nI 3)) (fun r140 => if r140 = (nI 1) then f_X12_settle_181 k90 (f_X12_settle_97 k90 n) M v1 v2 v3 v4 else x_rd 5512 (M 1) ((nI 5338) + ((nI 5) * v4)) (fun r155 => x_rd 10 (M 17) r155 (fun r156 => if r156 = v3 then x_bn (f_X12_pays M v4) (fun r168 M => if r168 = 0 then f_X12_settle_179 k90 (f_X12_settle_97 k90 n) M v1 v3 v4 v2 (nI 0) else f_X12_settle_179 k90 (f_X12_settle_97 k90 n) M v1 v3 v4 v2 (nI 1)) else f_X12_settle_181 k90 (f_X12_settle_97 k90 n) M v1 v2 v3 v4))) else f_X12_settle_181 k90 (f_X12_settle_97 k90 n) M v1 v2 v3 v4))
theorem f_X12_settle_97_0 (k90 : x_M → Int32 → Int32 → Int32 → Option (Int32 × x_M)) (M : x_M) (v1 : Int32) (v2 : Int32) (v3 : Int32) (v4 : Int32) : f_X12_settle_97 k90 0 M v1 v2 v3 v4 = none := rfl
theorem f_X12_settle_97_s (k90 : x_M → Int32 → Int32 → Int32 → Option (Int32 × x_M)) (n : Nat) (M : x_M) (v1 : Int32) (v2 : Int32) (v3 : Int32) (v4 : Int32) : f_X12_settle_97 k90 (n + 1) M v1 v2 v3 v4 = (x_rd 5512 (M 1) (nI 8) (fun r105 => if r105 ≤ v4 then k90 M v1 v2 (v3 + (-1)) else x_rd 5512 (M 1) (((nI 5338) + ((nI 5) * v4)) + (nI 1)) (fun r127 => if r127 = v1 then x_rd 5512 (M 1) (((nI 5338) + ((nI 5) * v4)) + (nI 3)) (fun r140 => if r140 = (nI 1) then f_X12_settle_181 k90 (f_X12_settle_97 k90 n) M v1 v2 v3 v4 else x_rd 5512 (M 1) ((nI 5338) + ((nI 5) * v4)) (fun r155 => x_rd 10 (M 17) r155 (fun r156 => if r156 = v3 then x_bn (f_X12_pays M v4) (fun r168 M => if r168 = 0 then f_X12_settle_179 k90 (f_X12_settle_97 k90 n) M v1 v3 v4 v2 (nI 0) else f_X12_settle_179 k90 (f_X12_settle_97 k90 n) M v1 v3 v4 v2 (nI 1)) else f_X12_settle_181 k90 (f_X12_settle_97 k90 n) M v1 v2 v3 v4))) else f_X12_settle_181 k90 (f_X12_settle_97 k90 n) M v1 v2 v3 v4))) := rfl
def f_X12_settle_90 : Nat → x_M → Int32 → Int32 → Int32 → Option (Int32 × x_M)
  | 0, _, _, _, _ => none
  | n + 1, M, v1, v2, v3 => if v3 < 0 then some (v2, M) else f_X12_settle_97 (f_X12_settle_90 n) x_FU M v1 v2 v3 (nI 0)
theorem f_X12_settle_90_0 (M : x_M) (v1 : Int32) (v2 : Int32) (v3 : Int32) : f_X12_settle_90 0 M v1 v2 v3 = none := rfl
theorem f_X12_settle_90_s (n : Nat) (M : x_M) (v1 : Int32) (v2 : Int32) (v3 : Int32) : f_X12_settle_90 (n + 1) M v1 v2 v3 = (if v3 < 0 then some (v2, M) else f_X12_settle_97 (f_X12_settle_90 n) x_FU M v1 v2 v3 (nI 0)) := rfl
def f_X12_settle_53 : Nat → x_M → Int32 → Int32 → Option (Int32 × x_M)
  | 0, _, _, _ => none
  | n + 1, M, v1, v2 => x_rd 5512 (M 1) (nI 4) (fun r59 => if r59 ≤ v2 then f_X12_settle_90 x_FU M v1 (nI 0) (nI 3) else x_rd 5512 (M 1) (nI 0) (fun r75 => x_bn (f_X12_tierOn M v2 r75) (fun r76 M => x_wr 10 M 17 v2 r76 (fun M => (f_X12_settle_53 n) M v1 (v2 + (nI 1))))))
theorem f_X12_settle_53_0 (M : x_M) (v1 : Int32) (v2 : Int32) : f_X12_settle_53 0 M v1 v2 = none := rfl
theorem f_X12_settle_53_s (n : Nat) (M : x_M) (v1 : Int32) (v2 : Int32) : f_X12_settle_53 (n + 1) M v1 v2 = (x_rd 5512 (M 1) (nI 4) (fun r59 => if r59 ≤ v2 then f_X12_settle_90 x_FU M v1 (nI 0) (nI 3) else x_rd 5512 (M 1) (nI 0) (fun r75 => x_bn (f_X12_tierOn M v2 r75) (fun r76 M => x_wr 10 M 17 v2 r76 (fun M => (f_X12_settle_53 n) M v1 (v2 + (nI 1))))))) := rfl
def f_X12_settle (M : x_M) (a1 : Int32) : Option (Int32 × x_M) := x_bn (f_X12_isFlight M a1) (fun r2 M => if r2 = 0 then some ((-1000000001), M) else x_rd 5512 (M 1) ((nI 5298) + ((nI 5) * a1)) (fun r22 => x_rd 5512 (M 1) (nI 0) (fun r28 => if r28 < r22 then x_rd 5512 (M 1) (nI 0) (fun r41 => x_rd 5512 (M 1) (nI 0) (fun r47 => x_bn (f_X12_stand M r41 r47) (fun _ M => f_X12_settle_53 x_FU M a1 (nI 0)))) else some ((-1000000002), M))))
abbrev rm_X12_settle : Room := { frames := 8, cells := 0, slots := 0, locals := 199 }
set_option maxHeartbeats 4000000 in
set_option maxRecDepth 100000 in
theorem c_X12_settle {l : Launch} {D : va_G} {cy : Nat → ClassId} {q ad : Nat → Nat} {s0 : State} (hq : x_Q q 24 s0.heap.size) {M : x_M} {a1 : Int32} {z : Int32 × x_M} (h : f_X12_settle M a1 = some z) : x_Ci l D cy q ad x_spM 24 s0 yX12_settle (x_uw yX12_settle cX12_settle 6 (some .int)) rm_X12_settle [.ref (q 0), .int a1] M z.1 z.2 := by
  have hN : 24 ≤ 24 := Nat.le_refl _
  refine x_meti hq (by decide) (Nat.le_of_ble_eq_true rfl) ?_
  intro p e s m args below meth c ls Q C hret hl hw
  have hx := C.1.1
  have hb := C.1.2.1
  have ho := C.1.2.2.2.1
  have hL := C.1.2.2.2.2
  have hl : lv_has ls 6 [(0, .ref (q 0)), (1, .int a1)] := hl
  have w53 : ∀ (n : Nat) (M : x_M) (v1 : Int32) (v2 : Int32) (H : Heap) (locs : List Loc) (ls : Array Slot), x_B D cy q ad x_spM 24 s H locs M → lv_has ls 6 [(0, .ref (q 0)), (1, .int v1), (2, .int v2)] → f_X12_settle_53 n M v1 v2 = some z → W p l e rm_X12_settle s m args below meth c H locs 0 0 Q (F0 m 53 ls []) := by
    intro n
    induction n with
    | zero =>
      intro M v1 v2 H locs ls hw hl h
      rw [f_X12_settle_53_0] at h
      cases h
    | succ n53 ih53 =>
      have w90 : ∀ (n : Nat) (M : x_M) (v1 : Int32) (v2 : Int32) (v3 : Int32) (H : Heap) (locs : List Loc) (ls : Array Slot), x_B D cy q ad x_spM 24 s H locs M → lv_has ls 6 [(0, .ref (q 0)), (1, .int v1), (2, .int v2), (3, .int v3)] → f_X12_settle_90 n M v1 v2 v3 = some z → W p l e rm_X12_settle s m args below meth c H locs 0 0 Q (F0 m 90 ls []) := by
        intro n
        induction n with
        | zero =>
          intro M v1 v2 v3 H locs ls hw hl h
          rw [f_X12_settle_90_0] at h
          cases h
        | succ n90 ih90 =>
          have w97 : ∀ (n : Nat) (M : x_M) (v1 : Int32) (v2 : Int32) (v3 : Int32) (v4 : Int32) (H : Heap) (locs : List Loc) (ls : Array Slot), x_B D cy q ad x_spM 24 s H locs M → lv_has ls 6 [(0, .ref (q 0)), (1, .int v1), (2, .int v2), (3, .int v3), (4, .int v4)] → f_X12_settle_97 (f_X12_settle_90 n90) n M v1 v2 v3 v4 = some z → W p l e rm_X12_settle s m args below meth c H locs 0 0 Q (F0 m 97 ls []) := by
            intro n
            induction n with
            | zero =>
              intro M v1 v2 v3 v4 H locs ls hw hl h
              rw [f_X12_settle_97_0] at h
              cases h
            | succ n97 ih97 =>
              have w181 : ∀ (M : x_M) (v1 : Int32) (v2 : Int32) (v3 : Int32) (v4 : Int32) (H : Heap) (locs : List Loc) (ls : Array Slot), x_B D cy q ad x_spM 24 s H locs M → lv_has ls 6 [(0, .ref (q 0)), (1, .int v1), (2, .int v2), (3, .int v3), (4, .int v4)] → f_X12_settle_181 (f_X12_settle_90 n90) (f_X12_settle_97 (f_X12_settle_90 n90) n97) M v1 v2 v3 v4 = some z → W p l e rm_X12_settle s m args below meth c H locs 0 0 Q (F0 m 181 ls []) := by
                intro M v1 v2 v3 v4 H locs ls hw hl h
                unfold f_X12_settle_181 at h
                refine lv_iinc (lv' := [(4, .int _), (0, .ref (q 0)), (1, .int _), (2, .int _), (3, .int _)]) hx hb dX12_settle_181 hl (k := 4) rfl (x_inc (show Int32.ofInt 1 = (nI 1) by decide) _) (by decide) rfl (fun ls hl => ?_)
                refine lv_goto (tgt := 97) hx hb dX12_settle_184 (by decide) ?_
                exact ih97 _ _ _ _ _ _ _ _ hw (lv_sub hl [1, 2, 3, 4, 0] rfl) h
              have w179 : ∀ (M : x_M) (v1 : Int32) (v3 : Int32) (v4 : Int32) (t0 : Int32) (t1 : Int32) (H : Heap) (locs : List Loc) (ls : Array Slot), x_B D cy q ad x_spM 24 s H locs M → lv_has ls 6 [(0, .ref (q 0)), (1, .int v1), (3, .int v3), (4, .int v4)] → f_X12_settle_179 (f_X12_settle_90 n90) (f_X12_settle_97 (f_X12_settle_90 n90) n97) M v1 v3 v4 t0 t1 = some z → W p l e rm_X12_settle s m args below meth c H locs 0 0 Q (F0 m 179 ls [.int t1, .int t0]) := by
                intro M v1 v3 v4 t0 t1 H locs ls hw hl h
                unfold f_X12_settle_179 at h
                refine lv_iadd hx hb dX12_settle_179 ?_
                refine lv_istore_n (lv' := [(2, .int _), (0, .ref (q 0)), (1, .int _), (3, .int _), (4, .int _)]) hx hb dX12_settle_180 rfl hl (by decide) rfl (fun ls hl => ?_)
                exact w181 _ _ _ _ _ _ _ _ hw (lv_sub hl [1, 2, 0, 3, 4] rfl) h
              intro M v1 v2 v3 v4 H locs ls hw hl h
              rw [f_X12_settle_97_s] at h
              refine lv_iload hx hb dX12_settle_97 (lv_at hl 4 rfl) ?_
              refine lv_aload_n hx hb dX12_settle_99 rfl (lv_at hl 0 rfl) ?_
              refine xh_getr C hw 0 0 sM_0 (x_lt hN rfl) rfl rfl rfl lk_RX12_7 dX12_settle_100 ?_
              refine lv_bipush (v := (nI 8)) hx hb dX12_settle_103 (by decide) ?_
              refine xh_iald C hw 1 5512 h sM_1 (x_lt hN rfl) dX12_settle_105 (fun r105 h => ?_)
              refine x_icmp_ge (tgt := 187) hx hb h dX12_settle_106 (by decide) (fun h => ?_) (fun h => ?_)
              · refine lv_iinc (lv' := [(3, .int _), (0, .ref (q 0)), (1, .int _), (2, .int _), (4, .int _)]) hx hb dX12_settle_187 hl (k := 3) rfl (x_inc (show Int32.ofInt (-1) = (-1) by decide) _) (by decide) rfl (fun ls hl => ?_)
                refine lv_goto (tgt := 90) hx hb dX12_settle_190 (by decide) ?_
                exact ih90 _ _ _ _ _ _ _ hw (lv_sub hl [1, 2, 3, 0] rfl) h
              · refine lv_sipush (v := (nI 5338)) hx hb dX12_settle_109 (by decide) ?_
                refine lv_iconst (v := (nI 5)) hx hb dX12_settle_112 (by decide) ?_
                refine lv_iload hx hb dX12_settle_113 (lv_at hl 4 rfl) ?_
                refine lv_imul hx hb dX12_settle_115 ?_
                refine lv_iadd hx hb dX12_settle_116 ?_
                refine lv_istore (lv' := [(5, .int _), (0, .ref (q 0)), (1, .int _), (2, .int _), (3, .int _), (4, .int _)]) hx hb dX12_settle_117 hl (by decide) rfl (fun ls hl => ?_)
                refine lv_aload_n hx hb dX12_settle_119 rfl (lv_at hl 1 rfl) ?_
                refine xh_getr C hw 0 0 sM_0 (x_lt hN rfl) rfl rfl rfl lk_RX12_7 dX12_settle_120 ?_
                refine lv_iload hx hb dX12_settle_123 (lv_at hl 0 rfl) ?_
                refine lv_iconst (v := (nI 1)) hx hb dX12_settle_125 (by decide) ?_
                refine lv_iadd hx hb dX12_settle_126 ?_
                refine xh_iald C hw 1 5512 h sM_1 (x_lt hN rfl) dX12_settle_127 (fun r127 h => ?_)
                refine lv_iload_n hx hb dX12_settle_128 rfl (lv_at hl 2 rfl) ?_
                refine x_icmp_ne (tgt := 181) hx hb h dX12_settle_129 (by decide) (fun h => ?_) (fun h => ?_)
                · refine lv_aload_n hx hb dX12_settle_132 rfl (lv_at hl 1 rfl) ?_
                  refine xh_getr C hw 0 0 sM_0 (x_lt hN rfl) rfl rfl rfl lk_RX12_7 dX12_settle_133 ?_
                  refine lv_iload hx hb dX12_settle_136 (lv_at hl 0 rfl) ?_
                  refine lv_iconst (v := (nI 3)) hx hb dX12_settle_138 (by decide) ?_
                  refine lv_iadd hx hb dX12_settle_139 ?_
                  refine xh_iald C hw 1 5512 h sM_1 (x_lt hN rfl) dX12_settle_140 (fun r140 h => ?_)
                  refine lv_iconst (v := (nI 1)) hx hb dX12_settle_141 (by decide) ?_
                  refine x_icmp_eq (tgt := 181) hx hb h dX12_settle_142 (by decide) (fun h => ?_) (fun h => ?_)
                  · exact w181 _ _ _ _ _ _ _ _ hw (lv_sub hl [1, 2, 3, 4, 5] rfl) h
                  · refine lv_aload_n hx hb dX12_settle_145 rfl (lv_at hl 1 rfl) ?_
                    refine xh_getr C hw 0 31 sM_0 (x_lt hN rfl) rfl rfl rfl lk_RX12_59 dX12_settle_146 ?_
                    refine lv_aload_n hx hb dX12_settle_149 rfl (lv_at hl 1 rfl) ?_
                    refine xh_getr C hw 0 0 sM_0 (x_lt hN rfl) rfl rfl rfl lk_RX12_7 dX12_settle_150 ?_
                    refine lv_iload hx hb dX12_settle_153 (lv_at hl 0 rfl) ?_
                    refine xh_iald C hw 1 5512 h sM_1 (x_lt hN rfl) dX12_settle_155 (fun r155 h => ?_)
                    refine xh_iald C hw 17 10 h sM_17 (x_lt hN rfl) dX12_settle_156 (fun r156 h => ?_)
                    refine lv_iload_n hx hb dX12_settle_157 rfl (lv_at hl 4 rfl) ?_
                    refine x_icmp_eq (tgt := 164) hx hb h dX12_settle_158 (by decide) (fun h => ?_) (fun h => ?_)
                    · refine lv_iload_n hx hb dX12_settle_164 rfl (lv_at hl 3 rfl) ?_
                      refine lv_aload_n hx hb dX12_settle_165 rfl (lv_at hl 1 rfl) ?_
                      refine lv_iload hx hb dX12_settle_166 (lv_at hl 5 rfl) ?_
                      refine xh_cVi C hw (rest := [_]) h (fun _ hy => c_X12_pays hq hy) ml_RX12_266 mv_X12_pays sM_0 (x_lt hN rfl) rfl ⟨rfl, rfl, by decide, by decide⟩ rfl hl.1 rfl (Nat.le_of_ble_eq_true rfl) dX12_settle_168 (fun H locs r168 M hw h => ?_)
                      refine x_if_eq (tgt := 178) hx hb h dX12_settle_171 (by decide) (fun h => ?_) (fun h => ?_)
                      · refine lv_iconst (v := (nI 0)) hx hb dX12_settle_178 (by decide) ?_
                        exact w179 _ _ _ _ _ _ _ _ _ hw (lv_sub hl [1, 2, 4, 5] rfl) h
                      · refine lv_iconst (v := (nI 1)) hx hb dX12_settle_174 (by decide) ?_
                        refine lv_goto (tgt := 179) hx hb dX12_settle_175 (by decide) ?_
                        exact w179 _ _ _ _ _ _ _ _ _ hw (lv_sub hl [1, 2, 4, 5] rfl) h
                    · refine lv_goto (tgt := 181) hx hb dX12_settle_161 (by decide) ?_
                      exact w181 _ _ _ _ _ _ _ _ hw (lv_sub hl [1, 2, 3, 4, 5] rfl) h
                · exact w181 _ _ _ _ _ _ _ _ hw (lv_sub hl [1, 2, 3, 4, 5] rfl) h
          intro M v1 v2 v3 H locs ls hw hl h
          rw [f_X12_settle_90_s] at h
          refine lv_iload_n hx hb dX12_settle_90 rfl (lv_at hl 3 rfl) ?_
          refine x_if_lt (tgt := 193) hx hb h dX12_settle_91 (by decide) (fun h => ?_) (fun h => ?_)
          · refine lv_iload_n hx hb dX12_settle_193 rfl (lv_at hl 2 rfl) ?_
            exact hret dX12_settle_194 rfl hw h
          · refine lv_iconst (v := (nI 0)) hx hb dX12_settle_94 (by decide) ?_
            refine lv_istore (lv' := [(4, .int _), (0, .ref (q 0)), (1, .int _), (2, .int _), (3, .int _)]) hx hb dX12_settle_95 hl (by decide) rfl (fun ls hl => ?_)
            exact w97 _ _ _ _ _ _ _ _ _ hw (lv_sub hl [1, 2, 3, 4, 0] rfl) h
      intro M v1 v2 H locs ls hw hl h
      rw [f_X12_settle_53_s] at h
      refine lv_iload_n hx hb dX12_settle_53 rfl (lv_at hl 2 rfl) ?_
      refine lv_aload_n hx hb dX12_settle_54 rfl (lv_at hl 0 rfl) ?_
      refine xh_getr C hw 0 0 sM_0 (x_lt hN rfl) rfl rfl rfl lk_RX12_7 dX12_settle_55 ?_
      refine lv_iconst (v := (nI 4)) hx hb dX12_settle_58 (by decide) ?_
      refine xh_iald C hw 1 5512 h sM_1 (x_lt hN rfl) dX12_settle_59 (fun r59 h => ?_)
      refine x_icmp_ge (tgt := 86) hx hb h dX12_settle_60 (by decide) (fun h => ?_) (fun h => ?_)
      · refine lv_iconst (v := (nI 0)) hx hb dX12_settle_86 (by decide) ?_
        refine lv_istore_n (lv' := [(2, .int _), (0, .ref (q 0)), (1, .int _)]) hx hb dX12_settle_87 rfl hl (by decide) rfl (fun ls hl => ?_)
        refine lv_iconst (v := (nI 3)) hx hb dX12_settle_88 (by decide) ?_
        refine lv_istore_n (lv' := [(3, .int _), (2, .int _), (0, .ref (q 0)), (1, .int _)]) hx hb dX12_settle_89 rfl hl (by decide) rfl (fun ls hl => ?_)
        exact w90 _ _ _ _ _ _ _ _ hw (lv_sub hl [2, 3, 1, 0] rfl) h
      · refine lv_aload_n hx hb dX12_settle_63 rfl (lv_at hl 0 rfl) ?_
        refine xh_getr C hw 0 31 sM_0 (x_lt hN rfl) rfl rfl rfl lk_RX12_59 dX12_settle_64 ?_
        refine lv_iload_n hx hb dX12_settle_67 rfl (lv_at hl 2 rfl) ?_
        refine lv_aload_n hx hb dX12_settle_68 rfl (lv_at hl 0 rfl) ?_
        refine lv_iload_n hx hb dX12_settle_69 rfl (lv_at hl 2 rfl) ?_
        refine lv_aload_n hx hb dX12_settle_70 rfl (lv_at hl 0 rfl) ?_
        refine xh_getr C hw 0 0 sM_0 (x_lt hN rfl) rfl rfl rfl lk_RX12_7 dX12_settle_71 ?_
        refine lv_iconst (v := (nI 0)) hx hb dX12_settle_74 (by decide) ?_
        refine xh_iald C hw 1 5512 h sM_1 (x_lt hN rfl) dX12_settle_75 (fun r75 h => ?_)
        refine xh_cVi C hw (rest := [_, _]) h (fun _ hy => c_X12_tierOn hq hy) ml_RX12_227 mv_X12_tierOn sM_0 (x_lt hN rfl) rfl ⟨rfl, rfl, by decide, by decide⟩ rfl hl.1 rfl (Nat.le_of_ble_eq_true rfl) dX12_settle_76 (fun H locs r76 M hw h => ?_)
        refine xh_iast C hw 17 10 h sM_17 (x_lt hN rfl) dX12_settle_79 (fun H locs M hw h => ?_)
        refine lv_iinc (lv' := [(2, .int _), (0, .ref (q 0)), (1, .int _)]) hx hb dX12_settle_80 hl (k := 2) rfl (x_inc (show Int32.ofInt 1 = (nI 1) by decide) _) (by decide) rfl (fun ls hl => ?_)
        refine lv_goto (tgt := 53) hx hb dX12_settle_83 (by decide) ?_
        exact ih53 _ _ _ _ _ _ hw (lv_sub hl [1, 2, 0] rfl) h
  unfold f_X12_settle at h
  refine lv_aload_n hx hb dX12_settle_0 rfl (lv_at hl 0 rfl) ?_
  refine lv_iload_n hx hb dX12_settle_1 rfl (lv_at hl 1 rfl) ?_
  refine xh_cVi C hw (rest := []) h (fun _ hy => c_X12_isFlight hq hy) ml_RX12_260 mv_X12_isFlight sM_0 (x_lt hN rfl) rfl ⟨rfl, rfl, by decide, by decide⟩ rfl hl.1 rfl (Nat.le_of_ble_eq_true rfl) dX12_settle_2 (fun H locs r2 M hw h => ?_)
  refine x_if_ne (tgt := 11) hx hb h dX12_settle_5 (by decide) (fun h => ?_) (fun h => ?_)
  · refine lv_ldc hx hb ho (hL _ kc_RX12_85) dX12_settle_8 ?_
    exact hret dX12_settle_10 rfl hw h
  · refine lv_aload_n hx hb dX12_settle_11 rfl (lv_at hl 0 rfl) ?_
    refine xh_getr C hw 0 0 sM_0 (x_lt hN rfl) rfl rfl rfl lk_RX12_7 dX12_settle_12 ?_
    refine lv_sipush (v := (nI 5298)) hx hb dX12_settle_15 (by decide) ?_
    refine lv_iconst (v := (nI 5)) hx hb dX12_settle_18 (by decide) ?_
    refine lv_iload_n hx hb dX12_settle_19 rfl (lv_at hl 1 rfl) ?_
    refine lv_imul hx hb dX12_settle_20 ?_
    refine lv_iadd hx hb dX12_settle_21 ?_
    refine xh_iald C hw 1 5512 h sM_1 (x_lt hN rfl) dX12_settle_22 (fun r22 h => ?_)
    refine lv_aload_n hx hb dX12_settle_23 rfl (lv_at hl 0 rfl) ?_
    refine xh_getr C hw 0 0 sM_0 (x_lt hN rfl) rfl rfl rfl lk_RX12_7 dX12_settle_24 ?_
    refine lv_iconst (v := (nI 0)) hx hb dX12_settle_27 (by decide) ?_
    refine xh_iald C hw 1 5512 h sM_1 (x_lt hN rfl) dX12_settle_28 (fun r28 h => ?_)
    refine x_icmp_gt (tgt := 35) hx hb h dX12_settle_29 (by decide) (fun h => ?_) (fun h => ?_)
    · refine lv_aload_n hx hb dX12_settle_35 rfl (lv_at hl 0 rfl) ?_
      refine lv_aload_n hx hb dX12_settle_36 rfl (lv_at hl 0 rfl) ?_
      refine xh_getr C hw 0 0 sM_0 (x_lt hN rfl) rfl rfl rfl lk_RX12_7 dX12_settle_37 ?_
      refine lv_iconst (v := (nI 0)) hx hb dX12_settle_40 (by decide) ?_
      refine xh_iald C hw 1 5512 h sM_1 (x_lt hN rfl) dX12_settle_41 (fun r41 h => ?_)
      refine lv_aload_n hx hb dX12_settle_42 rfl (lv_at hl 0 rfl) ?_
      refine xh_getr C hw 0 0 sM_0 (x_lt hN rfl) rfl rfl rfl lk_RX12_7 dX12_settle_43 ?_
      refine lv_iconst (v := (nI 0)) hx hb dX12_settle_46 (by decide) ?_
      refine xh_iald C hw 1 5512 h sM_1 (x_lt hN rfl) dX12_settle_47 (fun r47 h => ?_)
      refine xh_cVv C hw (rest := []) h (fun _ hy => c_X12_stand hq hy) ml_RX12_255 mv_X12_stand sM_0 (x_lt hN rfl) rfl ⟨rfl, rfl, by decide, by decide⟩ rfl hl.1 rfl (Nat.le_of_ble_eq_true rfl) dX12_settle_48 (fun H locs _ M hw h => ?_)
      refine lv_iconst (v := (nI 0)) hx hb dX12_settle_51 (by decide) ?_
      refine lv_istore_n (lv' := [(2, .int _), (0, .ref (q 0)), (1, .int _)]) hx hb dX12_settle_52 rfl hl (by decide) rfl (fun ls hl => ?_)
      exact w53 _ _ _ _ _ _ _ hw (lv_sub hl [1, 2, 0] rfl) h
    · refine lv_ldc hx hb ho (hL _ kc_RX12_111) dX12_settle_32 ?_
      exact hret dX12_settle_34 rfl hw h
def f_X12_asked_26 (M : x_M) : Option (Int32 × x_M) := some ((-1000000001), M)
def f_X12_asked (M : x_M) (a1 : Int32) (a2 : Int32) : Option (Int32 × x_M) := x_rd 5512 (M 1) (nI 8) (fun r8 => x_bn (f_X12_in M a1 (nI 0) (r8 - (nI 1))) (fun r11 M => if r11 = 0 then f_X12_asked_26 M else x_bn (f_X12_in M a2 (nI 0) (nI 4)) (fun r20 M => if r20 = 0 then f_X12_asked_26 M else x_rd 5512 (M 1) (((nI 5338) + ((nI 5) * a1)) + a2) (fun r42 => x_bn (f_X12_orNone M r42) (fun r43 M => some (r43, M))))))
abbrev rm_X12_asked : Room := { frames := 1, cells := 0, slots := 0, locals := 22 }
set_option maxHeartbeats 4000000 in
set_option maxRecDepth 100000 in
theorem c_X12_asked {l : Launch} {D : va_G} {cy : Nat → ClassId} {q ad : Nat → Nat} {s0 : State} (hq : x_Q q 24 s0.heap.size) {M : x_M} {a1 : Int32} {a2 : Int32} {z : Int32 × x_M} (h : f_X12_asked M a1 a2 = some z) : x_Ci l D cy q ad x_spM 24 s0 yX12_asked (x_uw yX12_asked cX12_asked 3 (some .int)) rm_X12_asked [.ref (q 0), .int a1, .int a2] M z.1 z.2 := by
  have hN : 24 ≤ 24 := Nat.le_refl _
  refine x_meti hq (by decide) (Nat.le_of_ble_eq_true rfl) ?_
  intro p e s m args below meth c ls Q C hret hl hw
  have hx := C.1.1
  have hb := C.1.2.1
  have ho := C.1.2.2.2.1
  have hL := C.1.2.2.2.2
  have hl : lv_has ls 3 [(0, .ref (q 0)), (1, .int a1), (2, .int a2)] := hl
  have w26 : ∀ (M : x_M) (H : Heap) (locs : List Loc) (ls : Array Slot), x_B D cy q ad x_spM 24 s H locs M → lv_has ls 3 [] → f_X12_asked_26 M = some z → W p l e rm_X12_asked s m args below meth c H locs 0 0 Q (F0 m 26 ls []) := by
    intro M H locs ls hw hl h
    unfold f_X12_asked_26 at h
    refine lv_ldc hx hb ho (hL _ kc_RX12_85) dX12_asked_26 ?_
    exact hret dX12_asked_28 rfl hw h
  unfold f_X12_asked at h
  refine lv_iload_n hx hb dX12_asked_0 rfl (lv_at hl 1 rfl) ?_
  refine lv_iconst (v := (nI 0)) hx hb dX12_asked_1 (by decide) ?_
  refine lv_aload_n hx hb dX12_asked_2 rfl (lv_at hl 0 rfl) ?_
  refine xh_getr C hw 0 0 sM_0 (x_lt hN rfl) rfl rfl rfl lk_RX12_7 dX12_asked_3 ?_
  refine lv_bipush (v := (nI 8)) hx hb dX12_asked_6 (by decide) ?_
  refine xh_iald C hw 1 5512 h sM_1 (x_lt hN rfl) dX12_asked_8 (fun r8 h => ?_)
  refine lv_iconst (v := (nI 1)) hx hb dX12_asked_9 (by decide) ?_
  refine lv_isub hx hb dX12_asked_10 ?_
  refine xh_cSi C hw (rest := []) h (fun _ hy => c_X12_in hq hy) ml_RX12_81 st_X12_in ⟨rfl, rfl, by decide, by decide⟩ rfl hl.1 rfl (Nat.le_of_ble_eq_true rfl) dX12_asked_11 (fun H locs r11 M hw h => ?_)
  refine x_if_eq (tgt := 26) hx hb h dX12_asked_14 (by decide) (fun h => ?_) (fun h => ?_)
  · exact w26 _ _ _ _ hw (lv_sub hl [] rfl) h
  · refine lv_iload_n hx hb dX12_asked_17 rfl (lv_at hl 2 rfl) ?_
    refine lv_iconst (v := (nI 0)) hx hb dX12_asked_18 (by decide) ?_
    refine lv_iconst (v := (nI 4)) hx hb dX12_asked_19 (by decide) ?_
    refine xh_cSi C hw (rest := []) h (fun _ hy => c_X12_in hq hy) ml_RX12_81 st_X12_in ⟨rfl, rfl, by decide, by decide⟩ rfl hl.1 rfl (Nat.le_of_ble_eq_true rfl) dX12_asked_20 (fun H locs r20 M hw h => ?_)
    refine x_if_ne (tgt := 29) hx hb h dX12_asked_23 (by decide) (fun h => ?_) (fun h => ?_)
    · exact w26 _ _ _ _ hw (lv_sub hl [] rfl) h
    · refine lv_aload_n hx hb dX12_asked_29 rfl (lv_at hl 0 rfl) ?_
      refine xh_getr C hw 0 0 sM_0 (x_lt hN rfl) rfl rfl rfl lk_RX12_7 dX12_asked_30 ?_
      refine lv_sipush (v := (nI 5338)) hx hb dX12_asked_33 (by decide) ?_
      refine lv_iconst (v := (nI 5)) hx hb dX12_asked_36 (by decide) ?_
      refine lv_iload_n hx hb dX12_asked_37 rfl (lv_at hl 1 rfl) ?_
      refine lv_imul hx hb dX12_asked_38 ?_
      refine lv_iadd hx hb dX12_asked_39 ?_
      refine lv_iload_n hx hb dX12_asked_40 rfl (lv_at hl 2 rfl) ?_
      refine lv_iadd hx hb dX12_asked_41 ?_
      refine xh_iald C hw 1 5512 h sM_1 (x_lt hN rfl) dX12_asked_42 (fun r42 h => ?_)
      refine xh_cSi C hw (rest := []) h (fun _ hy => c_X12_orNone hq hy) ml_RX12_91 st_X12_orNone ⟨rfl, rfl, by decide, by decide⟩ rfl hl.1 rfl (Nat.le_of_ble_eq_true rfl) dX12_asked_43 (fun H locs r43 M hw h => ?_)
      exact hret dX12_asked_46 rfl hw h
def f_X12_open (M : x_M) (a1 : Int32) : Option (Int32 × x_M) := x_bn (f_X12_isFlight M a1) (fun r2 M => if r2 = 0 then some ((-1000000001), M) else x_rd 5512 (M 1) (((nI 5298) + ((nI 5) * a1)) + (nI 4)) (fun r21 => some (r21, M)))
abbrev rm_X12_open : Room := { frames := 2, cells := 0, slots := 0, locals := 43 }
set_option maxHeartbeats 4000000 in
set_option maxRecDepth 100000 in
theorem c_X12_open {l : Launch} {D : va_G} {cy : Nat → ClassId} {q ad : Nat → Nat} {s0 : State} (hq : x_Q q 24 s0.heap.size) {M : x_M} {a1 : Int32} {z : Int32 × x_M} (h : f_X12_open M a1 = some z) : x_Ci l D cy q ad x_spM 24 s0 yX12_open (x_uw yX12_open cX12_open 2 (some .int)) rm_X12_open [.ref (q 0), .int a1] M z.1 z.2 := by
  have hN : 24 ≤ 24 := Nat.le_refl _
  refine x_meti hq (by decide) (Nat.le_of_ble_eq_true rfl) ?_
  intro p e s m args below meth c ls Q C hret hl hw
  have hx := C.1.1
  have hb := C.1.2.1
  have ho := C.1.2.2.2.1
  have hL := C.1.2.2.2.2
  have hl : lv_has ls 2 [(0, .ref (q 0)), (1, .int a1)] := hl
  unfold f_X12_open at h
  refine lv_aload_n hx hb dX12_open_0 rfl (lv_at hl 0 rfl) ?_
  refine lv_iload_n hx hb dX12_open_1 rfl (lv_at hl 1 rfl) ?_
  refine xh_cVi C hw (rest := []) h (fun _ hy => c_X12_isFlight hq hy) ml_RX12_260 mv_X12_isFlight sM_0 (x_lt hN rfl) rfl ⟨rfl, rfl, by decide, by decide⟩ rfl hl.1 rfl (Nat.le_of_ble_eq_true rfl) dX12_open_2 (fun H locs r2 M hw h => ?_)
  refine x_if_eq (tgt := 25) hx hb h dX12_open_5 (by decide) (fun h => ?_) (fun h => ?_)
  · refine lv_ldc hx hb ho (hL _ kc_RX12_85) dX12_open_25 ?_
    exact hret dX12_open_27 rfl hw h
  · refine lv_aload_n hx hb dX12_open_8 rfl (lv_at hl 0 rfl) ?_
    refine xh_getr C hw 0 0 sM_0 (x_lt hN rfl) rfl rfl rfl lk_RX12_7 dX12_open_9 ?_
    refine lv_sipush (v := (nI 5298)) hx hb dX12_open_12 (by decide) ?_
    refine lv_iconst (v := (nI 5)) hx hb dX12_open_15 (by decide) ?_
    refine lv_iload_n hx hb dX12_open_16 rfl (lv_at hl 1 rfl) ?_
    refine lv_imul hx hb dX12_open_17 ?_
    refine lv_iadd hx hb dX12_open_18 ?_
    refine lv_iconst (v := (nI 4)) hx hb dX12_open_19 (by decide) ?_
    refine lv_iadd hx hb dX12_open_20 ?_
    refine xh_iald C hw 1 5512 h sM_1 (x_lt hN rfl) dX12_open_21 (fun r21 h => ?_)
    refine lv_goto (tgt := 27) hx hb dX12_open_22 (by decide) ?_
    exact hret dX12_open_27 rfl hw h
def f_X12_offer_32 (M : x_M) : Option (Int32 × x_M) := some ((-1000000001), M)
def f_X12_offer (M : x_M) (a1 : Int32) (a2 : Int32) (a3 : Int32) : Option (Int32 × x_M) := x_bn (f_X12_in M a1 (nI 1) (nI 9999)) (fun r5 M => if r5 = 0 then f_X12_offer_32 M else x_bn (f_X12_in M a2 (nI 1) (nI 999)) (fun r16 M => if r16 = 0 then f_X12_offer_32 M else x_bn (f_X12_in M a3 (nI 1) (nI 9)) (fun r26 M => if r26 = 0 then f_X12_offer_32 M else x_rd 5512 (M 1) (nI 9) (fun r41 => if r41 = (nI 8) then some ((-1000000003), M) else x_rd 5512 (M 1) (nI 9) (fun r60 => x_wr 5512 M 1 ((nI 5488) + ((nI 3) * r60)) a1 (fun M => x_wr 5512 M 1 (((nI 5488) + ((nI 3) * r60)) + (nI 1)) a2 (fun M => x_wr 5512 M 1 (((nI 5488) + ((nI 3) * r60)) + (nI 2)) a3 (fun M => x_rd 5512 (M 1) (nI 9) (fun r100 => x_wr 5512 M 1 (nI 9) (r100 + (nI 1)) (fun M => x_rd 5512 (M 1) (nI 9) (fun r110 => some ((r110 - (nI 1)), M))))))))))))
abbrev rm_X12_offer : Room := { frames := 1, cells := 0, slots := 0, locals := 22 }
set_option maxHeartbeats 4000000 in
set_option maxRecDepth 100000 in
theorem c_X12_offer {l : Launch} {D : va_G} {cy : Nat → ClassId} {q ad : Nat → Nat} {s0 : State} (hq : x_Q q 24 s0.heap.size) {M : x_M} {a1 : Int32} {a2 : Int32} {a3 : Int32} {z : Int32 × x_M} (h : f_X12_offer M a1 a2 a3 = some z) : x_Ci l D cy q ad x_spM 24 s0 yX12_offer (x_uw yX12_offer cX12_offer 5 (some .int)) rm_X12_offer [.ref (q 0), .int a1, .int a2, .int a3] M z.1 z.2 := by
  have hN : 24 ≤ 24 := Nat.le_refl _
  refine x_meti hq (by decide) (Nat.le_of_ble_eq_true rfl) ?_
  intro p e s m args below meth c ls Q C hret hl hw
  have hx := C.1.1
  have hb := C.1.2.1
  have ho := C.1.2.2.2.1
  have hL := C.1.2.2.2.2
  have hl : lv_has ls 5 [(0, .ref (q 0)), (1, .int a1), (2, .int a2), (3, .int a3)] := hl
  have w32 : ∀ (M : x_M) (H : Heap) (locs : List Loc) (ls : Array Slot), x_B D cy q ad x_spM 24 s H locs M → lv_has ls 5 [] → f_X12_offer_32 M = some z → W p l e rm_X12_offer s m args below meth c H locs 0 0 Q (F0 m 32 ls []) := by
    intro M H locs ls hw hl h
    unfold f_X12_offer_32 at h
    refine lv_ldc hx hb ho (hL _ kc_RX12_85) dX12_offer_32 ?_
    exact hret dX12_offer_34 rfl hw h
  unfold f_X12_offer at h
  refine lv_iload_n hx hb dX12_offer_0 rfl (lv_at hl 1 rfl) ?_
  refine lv_iconst (v := (nI 1)) hx hb dX12_offer_1 (by decide) ?_
  refine lv_sipush (v := (nI 9999)) hx hb dX12_offer_2 (by decide) ?_
  refine xh_cSi C hw (rest := []) h (fun _ hy => c_X12_in hq hy) ml_RX12_81 st_X12_in ⟨rfl, rfl, by decide, by decide⟩ rfl hl.1 rfl (Nat.le_of_ble_eq_true rfl) dX12_offer_5 (fun H locs r5 M hw h => ?_)
  refine x_if_eq (tgt := 32) hx hb h dX12_offer_8 (by decide) (fun h => ?_) (fun h => ?_)
  · exact w32 _ _ _ _ hw (lv_sub hl [] rfl) h
  · refine lv_iload_n hx hb dX12_offer_11 rfl (lv_at hl 2 rfl) ?_
    refine lv_iconst (v := (nI 1)) hx hb dX12_offer_12 (by decide) ?_
    refine lv_sipush (v := (nI 999)) hx hb dX12_offer_13 (by decide) ?_
    refine xh_cSi C hw (rest := []) h (fun _ hy => c_X12_in hq hy) ml_RX12_81 st_X12_in ⟨rfl, rfl, by decide, by decide⟩ rfl hl.1 rfl (Nat.le_of_ble_eq_true rfl) dX12_offer_16 (fun H locs r16 M hw h => ?_)
    refine x_if_eq (tgt := 32) hx hb h dX12_offer_19 (by decide) (fun h => ?_) (fun h => ?_)
    · exact w32 _ _ _ _ hw (lv_sub hl [] rfl) h
    · refine lv_iload_n hx hb dX12_offer_22 rfl (lv_at hl 3 rfl) ?_
      refine lv_iconst (v := (nI 1)) hx hb dX12_offer_23 (by decide) ?_
      refine lv_bipush (v := (nI 9)) hx hb dX12_offer_24 (by decide) ?_
      refine xh_cSi C hw (rest := []) h (fun _ hy => c_X12_in hq hy) ml_RX12_81 st_X12_in ⟨rfl, rfl, by decide, by decide⟩ rfl hl.1 rfl (Nat.le_of_ble_eq_true rfl) dX12_offer_26 (fun H locs r26 M hw h => ?_)
      refine x_if_ne (tgt := 35) hx hb h dX12_offer_29 (by decide) (fun h => ?_) (fun h => ?_)
      · exact w32 _ _ _ _ hw (lv_sub hl [] rfl) h
      · refine lv_aload_n hx hb dX12_offer_35 rfl (lv_at hl 0 rfl) ?_
        refine xh_getr C hw 0 0 sM_0 (x_lt hN rfl) rfl rfl rfl lk_RX12_7 dX12_offer_36 ?_
        refine lv_bipush (v := (nI 9)) hx hb dX12_offer_39 (by decide) ?_
        refine xh_iald C hw 1 5512 h sM_1 (x_lt hN rfl) dX12_offer_41 (fun r41 h => ?_)
        refine lv_bipush (v := (nI 8)) hx hb dX12_offer_42 (by decide) ?_
        refine x_icmp_ne (tgt := 50) hx hb h dX12_offer_44 (by decide) (fun h => ?_) (fun h => ?_)
        · refine lv_ldc hx hb ho (hL _ kc_RX12_86) dX12_offer_47 ?_
          exact hret dX12_offer_49 rfl hw h
        · refine lv_sipush (v := (nI 5488)) hx hb dX12_offer_50 (by decide) ?_
          refine lv_iconst (v := (nI 3)) hx hb dX12_offer_53 (by decide) ?_
          refine lv_aload_n hx hb dX12_offer_54 rfl (lv_at hl 0 rfl) ?_
          refine xh_getr C hw 0 0 sM_0 (x_lt hN rfl) rfl rfl rfl lk_RX12_7 dX12_offer_55 ?_
          refine lv_bipush (v := (nI 9)) hx hb dX12_offer_58 (by decide) ?_
          refine xh_iald C hw 1 5512 h sM_1 (x_lt hN rfl) dX12_offer_60 (fun r60 h => ?_)
          refine lv_imul hx hb dX12_offer_61 ?_
          refine lv_iadd hx hb dX12_offer_62 ?_
          refine lv_istore (lv' := [(4, .int _), (0, .ref (q 0)), (1, .int _), (2, .int _), (3, .int _)]) hx hb dX12_offer_63 hl (by decide) rfl (fun ls hl => ?_)
          refine lv_aload_n hx hb dX12_offer_65 rfl (lv_at hl 1 rfl) ?_
          refine xh_getr C hw 0 0 sM_0 (x_lt hN rfl) rfl rfl rfl lk_RX12_7 dX12_offer_66 ?_
          refine lv_iload hx hb dX12_offer_69 (lv_at hl 0 rfl) ?_
          refine lv_iload_n hx hb dX12_offer_71 rfl (lv_at hl 2 rfl) ?_
          refine xh_iast C hw 1 5512 h sM_1 (x_lt hN rfl) dX12_offer_72 (fun H locs M hw h => ?_)
          refine lv_aload_n hx hb dX12_offer_73 rfl (lv_at hl 1 rfl) ?_
          refine xh_getr C hw 0 0 sM_0 (x_lt hN rfl) rfl rfl rfl lk_RX12_7 dX12_offer_74 ?_
          refine lv_iload hx hb dX12_offer_77 (lv_at hl 0 rfl) ?_
          refine lv_iconst (v := (nI 1)) hx hb dX12_offer_79 (by decide) ?_
          refine lv_iadd hx hb dX12_offer_80 ?_
          refine lv_iload_n hx hb dX12_offer_81 rfl (lv_at hl 3 rfl) ?_
          refine xh_iast C hw 1 5512 h sM_1 (x_lt hN rfl) dX12_offer_82 (fun H locs M hw h => ?_)
          refine lv_aload_n hx hb dX12_offer_83 rfl (lv_at hl 1 rfl) ?_
          refine xh_getr C hw 0 0 sM_0 (x_lt hN rfl) rfl rfl rfl lk_RX12_7 dX12_offer_84 ?_
          refine lv_iload hx hb dX12_offer_87 (lv_at hl 0 rfl) ?_
          refine lv_iconst (v := (nI 2)) hx hb dX12_offer_89 (by decide) ?_
          refine lv_iadd hx hb dX12_offer_90 ?_
          refine lv_iload_n hx hb dX12_offer_91 rfl (lv_at hl 4 rfl) ?_
          refine xh_iast C hw 1 5512 h sM_1 (x_lt hN rfl) dX12_offer_92 (fun H locs M hw h => ?_)
          refine lv_aload_n hx hb dX12_offer_93 rfl (lv_at hl 1 rfl) ?_
          refine xh_getr C hw 0 0 sM_0 (x_lt hN rfl) rfl rfl rfl lk_RX12_7 dX12_offer_94 ?_
          refine lv_bipush (v := (nI 9)) hx hb dX12_offer_97 (by decide) ?_
          refine lv_dup2_11 hx hb dX12_offer_99 rfl rfl ?_
          refine xh_iald C hw 1 5512 h sM_1 (x_lt hN rfl) dX12_offer_100 (fun r100 h => ?_)
          refine lv_iconst (v := (nI 1)) hx hb dX12_offer_101 (by decide) ?_
          refine lv_iadd hx hb dX12_offer_102 ?_
          refine xh_iast C hw 1 5512 h sM_1 (x_lt hN rfl) dX12_offer_103 (fun H locs M hw h => ?_)
          refine lv_aload_n hx hb dX12_offer_104 rfl (lv_at hl 1 rfl) ?_
          refine xh_getr C hw 0 0 sM_0 (x_lt hN rfl) rfl rfl rfl lk_RX12_7 dX12_offer_105 ?_
          refine lv_bipush (v := (nI 9)) hx hb dX12_offer_108 (by decide) ?_
          refine xh_iald C hw 1 5512 h sM_1 (x_lt hN rfl) dX12_offer_110 (fun r110 h => ?_)
          refine lv_iconst (v := (nI 1)) hx hb dX12_offer_111 (by decide) ?_
          refine lv_isub hx hb dX12_offer_112 ?_
          exact hret dX12_offer_113 rfl hw h
def f_X12_clear (M : x_M) : Option (Int32 × x_M) := x_rd 5512 (M 1) (nI 9) (fun r6 => x_wr 5512 M 1 (nI 9) (nI 0) (fun M => some (r6, M)))
abbrev rm_X12_clear : Room := { frames := 0, cells := 0, slots := 0, locals := 0 }
set_option maxHeartbeats 4000000 in
set_option maxRecDepth 100000 in
theorem c_X12_clear {l : Launch} {D : va_G} {cy : Nat → ClassId} {q ad : Nat → Nat} {s0 : State} (hq : x_Q q 24 s0.heap.size) {M : x_M} {z : Int32 × x_M} (h : f_X12_clear M = some z) : x_Ci l D cy q ad x_spM 24 s0 yX12_clear (x_uw yX12_clear cX12_clear 2 (some .int)) rm_X12_clear [.ref (q 0)] M z.1 z.2 := by
  have hN : 24 ≤ 24 := Nat.le_refl _
  refine x_meti hq (by decide) (Nat.le_of_ble_eq_true rfl) ?_
  intro p e s m args below meth c ls Q C hret hl hw
  have hx := C.1.1
  have hb := C.1.2.1
  have ho := C.1.2.2.2.1
  have hL := C.1.2.2.2.2
  have hl : lv_has ls 2 [(0, .ref (q 0))] := hl
  unfold f_X12_clear at h
  refine lv_aload_n hx hb dX12_clear_0 rfl (lv_at hl 0 rfl) ?_
  refine xh_getr C hw 0 0 sM_0 (x_lt hN rfl) rfl rfl rfl lk_RX12_7 dX12_clear_1 ?_
  refine lv_bipush (v := (nI 9)) hx hb dX12_clear_4 (by decide) ?_
  refine xh_iald C hw 1 5512 h sM_1 (x_lt hN rfl) dX12_clear_6 (fun r6 h => ?_)
  refine lv_istore_n (lv' := [(1, .int _), (0, .ref (q 0))]) hx hb dX12_clear_7 rfl hl (by decide) rfl (fun ls hl => ?_)
  refine lv_aload_n hx hb dX12_clear_8 rfl (lv_at hl 1 rfl) ?_
  refine xh_getr C hw 0 0 sM_0 (x_lt hN rfl) rfl rfl rfl lk_RX12_7 dX12_clear_9 ?_
  refine lv_bipush (v := (nI 9)) hx hb dX12_clear_12 (by decide) ?_
  refine lv_iconst (v := (nI 0)) hx hb dX12_clear_14 (by decide) ?_
  refine xh_iast C hw 1 5512 h sM_1 (x_lt hN rfl) dX12_clear_15 (fun H locs M hw h => ?_)
  refine lv_iload_n hx hb dX12_clear_16 rfl (lv_at hl 0 rfl) ?_
  exact hret dX12_clear_17 rfl hw h
def f_X12_wayBy (M : x_M) (a1 : Int32) (a2 : Int32) (a3 : Int32) : Option (Int32 × x_M) := x_rd 5512 (M 1) (((nI 5488) + ((nI 3) * a1)) + (nI 1)) (fun r31 => x_bn (f_X12_more M (nI 0) (a2 - (a3 * r31))) (fun r34 M => x_rd 27009 (M 18) (((nI 3001) * (a1 + (nI 1))) + r34) (fun r38 => if r38 = (nI 1000000000) then some ((nI 1000000000), M) else x_rd 5512 (M 1) ((nI 5488) + ((nI 3) * a1)) (fun r66 => some ((r38 + (a3 * (((nI 100) * r66) + (nI 1)))), M)))))
abbrev rm_X12_wayBy : Room := { frames := 1, cells := 0, slots := 0, locals := 21 }
set_option maxHeartbeats 4000000 in
set_option maxRecDepth 100000 in
theorem c_X12_wayBy {l : Launch} {D : va_G} {cy : Nat → ClassId} {q ad : Nat → Nat} {s0 : State} (hq : x_Q q 24 s0.heap.size) {M : x_M} {a1 : Int32} {a2 : Int32} {a3 : Int32} {z : Int32 × x_M} (h : f_X12_wayBy M a1 a2 a3 = some z) : x_Ci l D cy q ad x_spM 24 s0 yX12_wayBy (x_uw yX12_wayBy cX12_wayBy 6 (some .int)) rm_X12_wayBy [.ref (q 0), .int a1, .int a2, .int a3] M z.1 z.2 := by
  have hN : 24 ≤ 24 := Nat.le_refl _
  refine x_meti hq (by decide) (Nat.le_of_ble_eq_true rfl) ?_
  intro p e s m args below meth c ls Q C hret hl hw
  have hx := C.1.1
  have hb := C.1.2.1
  have ho := C.1.2.2.2.1
  have hL := C.1.2.2.2.2
  have hl : lv_has ls 6 [(0, .ref (q 0)), (1, .int a1), (2, .int a2), (3, .int a3)] := hl
  unfold f_X12_wayBy at h
  refine lv_sipush (v := (nI 5488)) hx hb dX12_wayBy_0 (by decide) ?_
  refine lv_iconst (v := (nI 3)) hx hb dX12_wayBy_3 (by decide) ?_
  refine lv_iload_n hx hb dX12_wayBy_4 rfl (lv_at hl 1 rfl) ?_
  refine lv_imul hx hb dX12_wayBy_5 ?_
  refine lv_iadd hx hb dX12_wayBy_6 ?_
  refine lv_istore (lv' := [(4, .int _), (0, .ref (q 0)), (1, .int _), (2, .int _), (3, .int _)]) hx hb dX12_wayBy_7 hl (by decide) rfl (fun ls hl => ?_)
  refine lv_aload_n hx hb dX12_wayBy_9 rfl (lv_at hl 1 rfl) ?_
  refine xh_getr C hw 0 32 sM_0 (x_lt hN rfl) rfl rfl rfl lk_RX12_62 dX12_wayBy_10 ?_
  refine lv_sipush (v := (nI 3001)) hx hb dX12_wayBy_13 (by decide) ?_
  refine lv_iload_n hx hb dX12_wayBy_16 rfl (lv_at hl 2 rfl) ?_
  refine lv_iconst (v := (nI 1)) hx hb dX12_wayBy_17 (by decide) ?_
  refine lv_iadd hx hb dX12_wayBy_18 ?_
  refine lv_imul hx hb dX12_wayBy_19 ?_
  refine lv_iconst (v := (nI 0)) hx hb dX12_wayBy_20 (by decide) ?_
  refine lv_iload_n hx hb dX12_wayBy_21 rfl (lv_at hl 3 rfl) ?_
  refine lv_iload_n hx hb dX12_wayBy_22 rfl (lv_at hl 4 rfl) ?_
  refine lv_aload_n hx hb dX12_wayBy_23 rfl (lv_at hl 1 rfl) ?_
  refine xh_getr C hw 0 0 sM_0 (x_lt hN rfl) rfl rfl rfl lk_RX12_7 dX12_wayBy_24 ?_
  refine lv_iload hx hb dX12_wayBy_27 (lv_at hl 0 rfl) ?_
  refine lv_iconst (v := (nI 1)) hx hb dX12_wayBy_29 (by decide) ?_
  refine lv_iadd hx hb dX12_wayBy_30 ?_
  refine xh_iald C hw 1 5512 h sM_1 (x_lt hN rfl) dX12_wayBy_31 (fun r31 h => ?_)
  refine lv_imul hx hb dX12_wayBy_32 ?_
  refine lv_isub hx hb dX12_wayBy_33 ?_
  refine xh_cSi C hw (rest := [_, _]) h (fun _ hy => c_X12_more hq hy) ml_RX12_209 st_X12_more ⟨rfl, rfl, by decide, by decide⟩ rfl hl.1 rfl (Nat.le_of_ble_eq_true rfl) dX12_wayBy_34 (fun H locs r34 M hw h => ?_)
  refine lv_iadd hx hb dX12_wayBy_37 ?_
  refine xh_iald C hw 18 27009 h sM_18 (x_lt hN rfl) dX12_wayBy_38 (fun r38 h => ?_)
  refine lv_istore (lv' := [(5, .int _), (4, .int _), (0, .ref (q 0)), (1, .int _), (2, .int _), (3, .int _)]) hx hb dX12_wayBy_39 hl (by decide) rfl (fun ls hl => ?_)
  refine lv_iload hx hb dX12_wayBy_41 (lv_at hl 0 rfl) ?_
  refine lv_ldcw hx hb ho (hL _ kc_RX12_269) dX12_wayBy_43 ?_
  refine x_icmp_ne (tgt := 55) hx hb h dX12_wayBy_46 (by decide) (fun h => ?_) (fun h => ?_)
  · refine lv_ldcw hx hb ho (hL _ kc_RX12_269) dX12_wayBy_49 ?_
    refine lv_goto (tgt := 72) hx hb dX12_wayBy_52 (by decide) ?_
    exact hret dX12_wayBy_72 rfl hw h
  · refine lv_iload hx hb dX12_wayBy_55 (lv_at hl 0 rfl) ?_
    refine lv_iload_n hx hb dX12_wayBy_57 rfl (lv_at hl 5 rfl) ?_
    refine lv_bipush (v := (nI 100)) hx hb dX12_wayBy_58 (by decide) ?_
    refine lv_aload_n hx hb dX12_wayBy_60 rfl (lv_at hl 2 rfl) ?_
    refine xh_getr C hw 0 0 sM_0 (x_lt hN rfl) rfl rfl rfl lk_RX12_7 dX12_wayBy_61 ?_
    refine lv_iload hx hb dX12_wayBy_64 (lv_at hl 1 rfl) ?_
    refine xh_iald C hw 1 5512 h sM_1 (x_lt hN rfl) dX12_wayBy_66 (fun r66 h => ?_)
    refine lv_imul hx hb dX12_wayBy_67 ?_
    refine lv_iconst (v := (nI 1)) hx hb dX12_wayBy_68 (by decide) ?_
    refine lv_iadd hx hb dX12_wayBy_69 ?_
    refine lv_imul hx hb dX12_wayBy_70 ?_
    refine lv_iadd hx hb dX12_wayBy_71 ?_
    exact hret dX12_wayBy_72 rfl hw h
def f_X12_findWays_37 (k10 : x_M → Int32 → Int32 → Int32 → Option (Unit × x_M)) (M : x_M) (v1 : Int32) (v2 : Int32) (v3 : Int32) (t1 : Int32) (t2 : Int32) : Option (Unit × x_M) := x_wr 27009 M 18 t1 t2 (fun M => k10 M v1 v2 (v3 + (nI 1)))
def f_X12_findWays_69 (k48 : x_M → Int32 → Int32 → Option (Unit × x_M)) (k55 : x_M → Int32 → Int32 → Int32 → Option (Unit × x_M)) : Nat → x_M → Int32 → Int32 → Int32 → Int32 → Int32 → Option (Unit × x_M)
  | 0, _, _, _, _, _, _ => none
  | n + 1, M, v1, v3, v4, v5, v6 => x_rd 5512 (M 1) (((nI 5488) + ((nI 3) * v3)) + (nI 2)) (fun r84 => if r84 < v6 then x_wr 27009 M 18 (((nI 3001) * v3) + v4) v5 (fun M => k55 M v1 v3 (v4 + (nI 1))) else x_bn (f_X12_wayBy M v3 v4 v6) (fun r96 M => x_bn (f_X12_less M v5 r96) (fun r99 M => (f_X12_findWays_69 k48 k55 n) M v1 v3 v4 r99 (v6 + (nI 1)))))
theorem f_X12_findWays_69_0 (k48 : x_M → Int32 → Int32 → Option (Unit × x_M)) (k55 : x_M → Int32 → Int32 → Int32 → Option (Unit × x_M)) (M : x_M) (v1 : Int32) (v3 : Int32) (v4 : Int32) (v5 : Int32) (v6 : Int32) : f_X12_findWays_69 k48 k55 0 M v1 v3 v4 v5 v6 = none := rfl
theorem f_X12_findWays_69_s (k48 : x_M → Int32 → Int32 → Option (Unit × x_M)) (k55 : x_M → Int32 → Int32 → Int32 → Option (Unit × x_M)) (n : Nat) (M : x_M) (v1 : Int32) (v3 : Int32) (v4 : Int32) (v5 : Int32) (v6 : Int32) : f_X12_findWays_69 k48 k55 (n + 1) M v1 v3 v4 v5 v6 = (x_rd 5512 (M 1) (((nI 5488) + ((nI 3) * v3)) + (nI 2)) (fun r84 => if r84 < v6 then x_wr 27009 M 18 (((nI 3001) * v3) + v4) v5 (fun M => k55 M v1 v3 (v4 + (nI 1))) else x_bn (f_X12_wayBy M v3 v4 v6) (fun r96 M => x_bn (f_X12_less M v5 r96) (fun r99 M => (f_X12_findWays_69 k48 k55 n) M v1 v3 v4 r99 (v6 + (nI 1)))))) := rfl
def f_X12_findWays_55 (k48 : x_M → Int32 → Int32 → Option (Unit × x_M)) : Nat → x_M → Int32 → Int32 → Int32 → Option (Unit × x_M)
  | 0, _, _, _, _ => none
  | n + 1, M, v1, v3, v4 => if v1 < v4 then k48 M v1 (v3 + (-1)) else f_X12_findWays_69 k48 (f_X12_findWays_55 k48 n) x_FU M v1 v3 v4 (nI 1000000000) (nI 0)
theorem f_X12_findWays_55_0 (k48 : x_M → Int32 → Int32 → Option (Unit × x_M)) (M : x_M) (v1 : Int32) (v3 : Int32) (v4 : Int32) : f_X12_findWays_55 k48 0 M v1 v3 v4 = none := rfl
theorem f_X12_findWays_55_s (k48 : x_M → Int32 → Int32 → Option (Unit × x_M)) (n : Nat) (M : x_M) (v1 : Int32) (v3 : Int32) (v4 : Int32) : f_X12_findWays_55 k48 (n + 1) M v1 v3 v4 = (if v1 < v4 then k48 M v1 (v3 + (-1)) else f_X12_findWays_69 k48 (f_X12_findWays_55 k48 n) x_FU M v1 v3 v4 (nI 1000000000) (nI 0)) := rfl
def f_X12_findWays_48 : Nat → x_M → Int32 → Int32 → Option (Unit × x_M)
  | 0, _, _, _ => none
  | n + 1, M, v1, v3 => if v3 < 0 then some ((), M) else f_X12_findWays_55 (f_X12_findWays_48 n) x_FU M v1 v3 (nI 0)
theorem f_X12_findWays_48_0 (M : x_M) (v1 : Int32) (v3 : Int32) : f_X12_findWays_48 0 M v1 v3 = none := rfl
theorem f_X12_findWays_48_s (n : Nat) (M : x_M) (v1 : Int32) (v3 : Int32) : f_X12_findWays_48 (n + 1) M v1 v3 = (if v3 < 0 then some ((), M) else f_X12_findWays_55 (f_X12_findWays_48 n) x_FU M v1 v3 (nI 0)) := rfl
def f_X12_findWays_10 : Nat → x_M → Int32 → Int32 → Int32 → Option (Unit × x_M)
  | 0, _, _, _, _ => none
  | n + 1, M, v1, v2, v3 => if v1 < v3 then f_X12_findWays_48 x_FU M v1 (v2 - (nI 1)) else if v3 = 0 then f_X12_findWays_37 (f_X12_findWays_10 n) M v1 v2 v3 (((nI 3001) * v2) + v3) (nI 0) else f_X12_findWays_37 (f_X12_findWays_10 n) M v1 v2 v3 (((nI 3001) * v2) + v3) (nI 1000000000)
theorem f_X12_findWays_10_0 (M : x_M) (v1 : Int32) (v2 : Int32) (v3 : Int32) : f_X12_findWays_10 0 M v1 v2 v3 = none := rfl
theorem f_X12_findWays_10_s (n : Nat) (M : x_M) (v1 : Int32) (v2 : Int32) (v3 : Int32) : f_X12_findWays_10 (n + 1) M v1 v2 v3 = (if v1 < v3 then f_X12_findWays_48 x_FU M v1 (v2 - (nI 1)) else if v3 = 0 then f_X12_findWays_37 (f_X12_findWays_10 n) M v1 v2 v3 (((nI 3001) * v2) + v3) (nI 0) else f_X12_findWays_37 (f_X12_findWays_10 n) M v1 v2 v3 (((nI 3001) * v2) + v3) (nI 1000000000)) := rfl
def f_X12_findWays (M : x_M) (a1 : Int32) : Option (Unit × x_M) := x_rd 5512 (M 1) (nI 9) (fun r6 => f_X12_findWays_10 x_FU M a1 r6 (nI 0))
abbrev rm_X12_findWays : Room := { frames := 2, cells := 0, slots := 0, locals := 46 }
set_option maxHeartbeats 4000000 in
set_option maxRecDepth 100000 in
theorem c_X12_findWays {l : Launch} {D : va_G} {cy : Nat → ClassId} {q ad : Nat → Nat} {s0 : State} (hq : x_Q q 24 s0.heap.size) {M : x_M} {a1 : Int32} {z : Unit × x_M} (h : f_X12_findWays M a1 = some z) : x_Cv l D cy q ad x_spM 24 s0 yX12_findWays (x_uw yX12_findWays cX12_findWays 7 none) rm_X12_findWays [.ref (q 0), .int a1] M z.2 := by
  have hN : 24 ≤ 24 := Nat.le_refl _
  refine x_metv hq (by decide) (Nat.le_of_ble_eq_true rfl) ?_
  intro p e s m args below meth c ls Q C hret hl hw
  have hx := C.1.1
  have hb := C.1.2.1
  have ho := C.1.2.2.2.1
  have hL := C.1.2.2.2.2
  have hl : lv_has ls 7 [(0, .ref (q 0)), (1, .int a1)] := hl
  have w10 : ∀ (n : Nat) (M : x_M) (v1 : Int32) (v2 : Int32) (v3 : Int32) (H : Heap) (locs : List Loc) (ls : Array Slot), x_B D cy q ad x_spM 24 s H locs M → lv_has ls 7 [(0, .ref (q 0)), (1, .int v1), (2, .int v2), (3, .int v3)] → f_X12_findWays_10 n M v1 v2 v3 = some z → W p l e rm_X12_findWays s m args below meth c H locs 0 0 Q (F0 m 10 ls []) := by
    intro n
    induction n with
    | zero =>
      intro M v1 v2 v3 H locs ls hw hl h
      rw [f_X12_findWays_10_0] at h
      cases h
    | succ n10 ih10 =>
      have w37 : ∀ (M : x_M) (v1 : Int32) (v2 : Int32) (v3 : Int32) (t1 : Int32) (t2 : Int32) (H : Heap) (locs : List Loc) (ls : Array Slot), x_B D cy q ad x_spM 24 s H locs M → lv_has ls 7 [(0, .ref (q 0)), (1, .int v1), (2, .int v2), (3, .int v3)] → f_X12_findWays_37 (f_X12_findWays_10 n10) M v1 v2 v3 t1 t2 = some z → W p l e rm_X12_findWays s m args below meth c H locs 0 0 Q (F0 m 37 ls [.int t2, .int t1, .ref (q 18)]) := by
        intro M v1 v2 v3 t1 t2 H locs ls hw hl h
        unfold f_X12_findWays_37 at h
        refine xh_iast C hw 18 27009 h sM_18 (x_lt hN rfl) dX12_findWays_37 (fun H locs M hw h => ?_)
        refine lv_iinc (lv' := [(3, .int _), (0, .ref (q 0)), (1, .int _), (2, .int _)]) hx hb dX12_findWays_38 hl (k := 3) rfl (x_inc (show Int32.ofInt 1 = (nI 1) by decide) _) (by decide) rfl (fun ls hl => ?_)
        refine lv_goto (tgt := 10) hx hb dX12_findWays_41 (by decide) ?_
        exact ih10 _ _ _ _ _ _ _ hw (lv_sub hl [1, 2, 3, 0] rfl) h
      have w48 : ∀ (n : Nat) (M : x_M) (v1 : Int32) (v3 : Int32) (H : Heap) (locs : List Loc) (ls : Array Slot), x_B D cy q ad x_spM 24 s H locs M → lv_has ls 7 [(0, .ref (q 0)), (1, .int v1), (3, .int v3)] → f_X12_findWays_48 n M v1 v3 = some z → W p l e rm_X12_findWays s m args below meth c H locs 0 0 Q (F0 m 48 ls []) := by
        intro n
        induction n with
        | zero =>
          intro M v1 v3 H locs ls hw hl h
          rw [f_X12_findWays_48_0] at h
          cases h
        | succ n48 ih48 =>
          have w55 : ∀ (n : Nat) (M : x_M) (v1 : Int32) (v3 : Int32) (v4 : Int32) (H : Heap) (locs : List Loc) (ls : Array Slot), x_B D cy q ad x_spM 24 s H locs M → lv_has ls 7 [(0, .ref (q 0)), (1, .int v1), (3, .int v3), (4, .int v4)] → f_X12_findWays_55 (f_X12_findWays_48 n48) n M v1 v3 v4 = some z → W p l e rm_X12_findWays s m args below meth c H locs 0 0 Q (F0 m 55 ls []) := by
            intro n
            induction n with
            | zero =>
              intro M v1 v3 v4 H locs ls hw hl h
              rw [f_X12_findWays_55_0] at h
              cases h
            | succ n55 ih55 =>
              have w69 : ∀ (n : Nat) (M : x_M) (v1 : Int32) (v3 : Int32) (v4 : Int32) (v5 : Int32) (v6 : Int32) (H : Heap) (locs : List Loc) (ls : Array Slot), x_B D cy q ad x_spM 24 s H locs M → lv_has ls 7 [(0, .ref (q 0)), (1, .int v1), (3, .int v3), (4, .int v4), (5, .int v5), (6, .int v6)] → f_X12_findWays_69 (f_X12_findWays_48 n48) (f_X12_findWays_55 (f_X12_findWays_48 n48) n55) n M v1 v3 v4 v5 v6 = some z → W p l e rm_X12_findWays s m args below meth c H locs 0 0 Q (F0 m 69 ls []) := by
                intro n
                induction n with
                | zero =>
                  intro M v1 v3 v4 v5 v6 H locs ls hw hl h
                  rw [f_X12_findWays_69_0] at h
                  cases h
                | succ n69 ih69 =>
                  intro M v1 v3 v4 v5 v6 H locs ls hw hl h
                  rw [f_X12_findWays_69_s] at h
                  refine lv_iload hx hb dX12_findWays_69 (lv_at hl 5 rfl) ?_
                  refine lv_aload_n hx hb dX12_findWays_71 rfl (lv_at hl 0 rfl) ?_
                  refine xh_getr C hw 0 0 sM_0 (x_lt hN rfl) rfl rfl rfl lk_RX12_7 dX12_findWays_72 ?_
                  refine lv_sipush (v := (nI 5488)) hx hb dX12_findWays_75 (by decide) ?_
                  refine lv_iconst (v := (nI 3)) hx hb dX12_findWays_78 (by decide) ?_
                  refine lv_iload_n hx hb dX12_findWays_79 rfl (lv_at hl 2 rfl) ?_
                  refine lv_imul hx hb dX12_findWays_80 ?_
                  refine lv_iadd hx hb dX12_findWays_81 ?_
                  refine lv_iconst (v := (nI 2)) hx hb dX12_findWays_82 (by decide) ?_
                  refine lv_iadd hx hb dX12_findWays_83 ?_
                  refine xh_iald C hw 1 5512 h sM_1 (x_lt hN rfl) dX12_findWays_84 (fun r84 h => ?_)
                  refine x_icmp_gt (tgt := 110) hx hb h dX12_findWays_85 (by decide) (fun h => ?_) (fun h => ?_)
                  · refine lv_aload_n hx hb dX12_findWays_110 rfl (lv_at hl 0 rfl) ?_
                    refine xh_getr C hw 0 32 sM_0 (x_lt hN rfl) rfl rfl rfl lk_RX12_62 dX12_findWays_111 ?_
                    refine lv_sipush (v := (nI 3001)) hx hb dX12_findWays_114 (by decide) ?_
                    refine lv_iload_n hx hb dX12_findWays_117 rfl (lv_at hl 2 rfl) ?_
                    refine lv_imul hx hb dX12_findWays_118 ?_
                    refine lv_iload hx hb dX12_findWays_119 (lv_at hl 3 rfl) ?_
                    refine lv_iadd hx hb dX12_findWays_121 ?_
                    refine lv_iload hx hb dX12_findWays_122 (lv_at hl 4 rfl) ?_
                    refine xh_iast C hw 18 27009 h sM_18 (x_lt hN rfl) dX12_findWays_124 (fun H locs M hw h => ?_)
                    refine lv_iinc (lv' := [(4, .int _), (0, .ref (q 0)), (1, .int _), (3, .int _), (5, .int _), (6, .int _)]) hx hb dX12_findWays_125 hl (k := 3) rfl (x_inc (show Int32.ofInt 1 = (nI 1) by decide) _) (by decide) rfl (fun ls hl => ?_)
                    refine lv_goto (tgt := 55) hx hb dX12_findWays_128 (by decide) ?_
                    exact ih55 _ _ _ _ _ _ _ hw (lv_sub hl [1, 2, 3, 0] rfl) h
                  · refine lv_iload hx hb dX12_findWays_88 (lv_at hl 4 rfl) ?_
                    refine lv_aload_n hx hb dX12_findWays_90 rfl (lv_at hl 0 rfl) ?_
                    refine lv_iload_n hx hb dX12_findWays_91 rfl (lv_at hl 2 rfl) ?_
                    refine lv_iload hx hb dX12_findWays_92 (lv_at hl 3 rfl) ?_
                    refine lv_iload hx hb dX12_findWays_94 (lv_at hl 5 rfl) ?_
                    refine xh_cVi C hw (rest := [_]) h (fun _ hy => c_X12_wayBy hq hy) ml_RX12_270 mv_X12_wayBy sM_0 (x_lt hN rfl) rfl ⟨rfl, rfl, by decide, by decide⟩ rfl hl.1 rfl (Nat.le_of_ble_eq_true rfl) dX12_findWays_96 (fun H locs r96 M hw h => ?_)
                    refine xh_cSi C hw (rest := []) h (fun _ hy => c_X12_less hq hy) ml_RX12_96 st_X12_less ⟨rfl, rfl, by decide, by decide⟩ rfl hl.1 rfl (Nat.le_of_ble_eq_true rfl) dX12_findWays_99 (fun H locs r99 M hw h => ?_)
                    refine lv_istore (lv' := [(5, .int _), (0, .ref (q 0)), (1, .int _), (3, .int _), (4, .int _), (6, .int _)]) hx hb dX12_findWays_102 hl (by decide) rfl (fun ls hl => ?_)
                    refine lv_iinc (lv' := [(6, .int _), (5, .int _), (0, .ref (q 0)), (1, .int _), (3, .int _), (4, .int _)]) hx hb dX12_findWays_104 hl (k := 5) rfl (x_inc (show Int32.ofInt 1 = (nI 1) by decide) _) (by decide) rfl (fun ls hl => ?_)
                    refine lv_goto (tgt := 69) hx hb dX12_findWays_107 (by decide) ?_
                    exact ih69 _ _ _ _ _ _ _ _ _ hw (lv_sub hl [2, 3, 4, 5, 1, 0] rfl) h
              intro M v1 v3 v4 H locs ls hw hl h
              rw [f_X12_findWays_55_s] at h
              refine lv_iload hx hb dX12_findWays_55 (lv_at hl 3 rfl) ?_
              refine lv_iload_n hx hb dX12_findWays_57 rfl (lv_at hl 1 rfl) ?_
              refine x_icmp_gt (tgt := 131) hx hb h dX12_findWays_58 (by decide) (fun h => ?_) (fun h => ?_)
              · refine lv_iinc (lv' := [(3, .int _), (0, .ref (q 0)), (1, .int _), (4, .int _)]) hx hb dX12_findWays_131 hl (k := 2) rfl (x_inc (show Int32.ofInt (-1) = (-1) by decide) _) (by decide) rfl (fun ls hl => ?_)
                refine lv_goto (tgt := 48) hx hb dX12_findWays_134 (by decide) ?_
                exact ih48 _ _ _ _ _ _ hw (lv_sub hl [1, 2, 0] rfl) h
              · refine lv_ldcw hx hb ho (hL _ kc_RX12_269) dX12_findWays_61 ?_
                refine lv_istore (lv' := [(5, .int _), (0, .ref (q 0)), (1, .int _), (3, .int _), (4, .int _)]) hx hb dX12_findWays_64 hl (by decide) rfl (fun ls hl => ?_)
                refine lv_iconst (v := (nI 0)) hx hb dX12_findWays_66 (by decide) ?_
                refine lv_istore (lv' := [(6, .int _), (5, .int _), (0, .ref (q 0)), (1, .int _), (3, .int _), (4, .int _)]) hx hb dX12_findWays_67 hl (by decide) rfl (fun ls hl => ?_)
                exact w69 _ _ _ _ _ _ _ _ _ _ hw (lv_sub hl [2, 3, 4, 5, 1, 0] rfl) h
          intro M v1 v3 H locs ls hw hl h
          rw [f_X12_findWays_48_s] at h
          refine lv_iload_n hx hb dX12_findWays_48 rfl (lv_at hl 2 rfl) ?_
          refine x_if_lt (tgt := 137) hx hb h dX12_findWays_49 (by decide) (fun h => ?_) (fun h => ?_)
          · exact hret dX12_findWays_137 hw h
          · refine lv_iconst (v := (nI 0)) hx hb dX12_findWays_52 (by decide) ?_
            refine lv_istore (lv' := [(4, .int _), (0, .ref (q 0)), (1, .int _), (3, .int _)]) hx hb dX12_findWays_53 hl (by decide) rfl (fun ls hl => ?_)
            exact w55 _ _ _ _ _ _ _ _ hw (lv_sub hl [1, 2, 3, 0] rfl) h
      intro M v1 v2 v3 H locs ls hw hl h
      rw [f_X12_findWays_10_s] at h
      refine lv_iload_n hx hb dX12_findWays_10 rfl (lv_at hl 3 rfl) ?_
      refine lv_iload_n hx hb dX12_findWays_11 rfl (lv_at hl 1 rfl) ?_
      refine x_icmp_gt (tgt := 44) hx hb h dX12_findWays_12 (by decide) (fun h => ?_) (fun h => ?_)
      · refine lv_iload_n hx hb dX12_findWays_44 rfl (lv_at hl 2 rfl) ?_
        refine lv_iconst (v := (nI 1)) hx hb dX12_findWays_45 (by decide) ?_
        refine lv_isub hx hb dX12_findWays_46 ?_
        refine lv_istore_n (lv' := [(3, .int _), (0, .ref (q 0)), (1, .int _), (2, .int _)]) hx hb dX12_findWays_47 rfl hl (by decide) rfl (fun ls hl => ?_)
        exact w48 _ _ _ _ _ _ _ hw (lv_sub hl [1, 2, 0] rfl) h
      · refine lv_aload_n hx hb dX12_findWays_15 rfl (lv_at hl 0 rfl) ?_
        refine xh_getr C hw 0 32 sM_0 (x_lt hN rfl) rfl rfl rfl lk_RX12_62 dX12_findWays_16 ?_
        refine lv_sipush (v := (nI 3001)) hx hb dX12_findWays_19 (by decide) ?_
        refine lv_iload_n hx hb dX12_findWays_22 rfl (lv_at hl 2 rfl) ?_
        refine lv_imul hx hb dX12_findWays_23 ?_
        refine lv_iload_n hx hb dX12_findWays_24 rfl (lv_at hl 3 rfl) ?_
        refine lv_iadd hx hb dX12_findWays_25 ?_
        refine lv_iload_n hx hb dX12_findWays_26 rfl (lv_at hl 3 rfl) ?_
        refine x_if_ne (tgt := 34) hx hb h dX12_findWays_27 (by decide) (fun h => ?_) (fun h => ?_)
        · refine lv_iconst (v := (nI 0)) hx hb dX12_findWays_30 (by decide) ?_
          refine lv_goto (tgt := 37) hx hb dX12_findWays_31 (by decide) ?_
          exact w37 _ _ _ _ _ _ _ _ _ hw (lv_sub hl [0, 1, 2, 3] rfl) h
        · refine lv_ldcw hx hb ho (hL _ kc_RX12_269) dX12_findWays_34 ?_
          exact w37 _ _ _ _ _ _ _ _ _ hw (lv_sub hl [0, 1, 2, 3] rfl) h
  unfold f_X12_findWays at h
  refine lv_aload_n hx hb dX12_findWays_0 rfl (lv_at hl 0 rfl) ?_
  refine xh_getr C hw 0 0 sM_0 (x_lt hN rfl) rfl rfl rfl lk_RX12_7 dX12_findWays_1 ?_
  refine lv_bipush (v := (nI 9)) hx hb dX12_findWays_4 (by decide) ?_
  refine xh_iald C hw 1 5512 h sM_1 (x_lt hN rfl) dX12_findWays_6 (fun r6 h => ?_)
  refine lv_istore_n (lv' := [(2, .int _), (0, .ref (q 0)), (1, .int _)]) hx hb dX12_findWays_7 rfl hl (by decide) rfl (fun ls hl => ?_)
  refine lv_iconst (v := (nI 0)) hx hb dX12_findWays_8 (by decide) ?_
  refine lv_istore_n (lv' := [(3, .int _), (2, .int _), (0, .ref (q 0)), (1, .int _)]) hx hb dX12_findWays_9 rfl hl (by decide) rfl (fun ls hl => ?_)
  exact w10 _ _ _ _ _ _ _ _ hw (lv_sub hl [2, 3, 1, 0] rfl) h
def f_X12_findWay_53 (k17 : x_M → Int32 → Int32 → Int32 → Option (Int32 × x_M)) : Nat → x_M → Int32 → Int32 → Int32 → Int32 → Option (Int32 × x_M)
  | 0, _, _, _, _, _ => none
  | n + 1, M, v2, v3, v4, v5 => x_bn (f_X12_wayBy M v4 v3 v5) (fun r59 M => x_rd 27009 (M 18) (((nI 3001) * v4) + v3) (fun r74 => if r59 = r74 then x_wr 8 M 19 v4 v5 (fun M => x_rd 5512 (M 1) (((nI 5488) + ((nI 3) * v4)) + (nI 1)) (fun r111 => x_bn (f_X12_more M (nI 0) (v3 - (v5 * r111))) (fun r114 M => k17 M v2 r114 (v4 + (nI 1))))) else (f_X12_findWay_53 k17 n) M v2 v3 v4 (v5 + (-1))))
theorem f_X12_findWay_53_0 (k17 : x_M → Int32 → Int32 → Int32 → Option (Int32 × x_M)) (M : x_M) (v2 : Int32) (v3 : Int32) (v4 : Int32) (v5 : Int32) : f_X12_findWay_53 k17 0 M v2 v3 v4 v5 = none := rfl
theorem f_X12_findWay_53_s (k17 : x_M → Int32 → Int32 → Int32 → Option (Int32 × x_M)) (n : Nat) (M : x_M) (v2 : Int32) (v3 : Int32) (v4 : Int32) (v5 : Int32) : f_X12_findWay_53 k17 (n + 1) M v2 v3 v4 v5 = (x_bn (f_X12_wayBy M v4 v3 v5) (fun r59 M => x_rd 27009 (M 18) (((nI 3001) * v4) + v3) (fun r74 => if r59 = r74 then x_wr 8 M 19 v4 v5 (fun M => x_rd 5512 (M 1) (((nI 5488) + ((nI 3) * v4)) + (nI 1)) (fun r111 => x_bn (f_X12_more M (nI 0) (v3 - (v5 * r111))) (fun r114 M => k17 M v2 r114 (v4 + (nI 1))))) else (f_X12_findWay_53 k17 n) M v2 v3 v4 (v5 + (-1))))) := rfl
def f_X12_findWay_124 (M : x_M) (v2 : Int32) : Option (Int32 × x_M) := some (v2, M)
def f_X12_findWay_17 : Nat → x_M → Int32 → Int32 → Int32 → Option (Int32 × x_M)
  | 0, _, _, _, _ => none
  | n + 1, M, v2, v3, v4 => x_rd 5512 (M 1) (nI 9) (fun r25 => if r25 ≤ v4 then f_X12_findWay_124 M v2 else if v2 = (nI 1000000000) then f_X12_findWay_124 M v2 else x_rd 5512 (M 1) (((nI 5488) + ((nI 3) * v4)) + (nI 2)) (fun r50 => f_X12_findWay_53 (f_X12_findWay_17 n) x_FU M v2 v3 v4 r50))
theorem f_X12_findWay_17_0 (M : x_M) (v2 : Int32) (v3 : Int32) (v4 : Int32) : f_X12_findWay_17 0 M v2 v3 v4 = none := rfl
theorem f_X12_findWay_17_s (n : Nat) (M : x_M) (v2 : Int32) (v3 : Int32) (v4 : Int32) : f_X12_findWay_17 (n + 1) M v2 v3 v4 = (x_rd 5512 (M 1) (nI 9) (fun r25 => if r25 ≤ v4 then f_X12_findWay_124 M v2 else if v2 = (nI 1000000000) then f_X12_findWay_124 M v2 else x_rd 5512 (M 1) (((nI 5488) + ((nI 3) * v4)) + (nI 2)) (fun r50 => f_X12_findWay_53 (f_X12_findWay_17 n) x_FU M v2 v3 v4 r50))) := rfl
def f_X12_findWay (M : x_M) (a1 : Int32) : Option (Int32 × x_M) := x_bn (f_X12_findWays M a1) (fun _ M => x_rd 27009 (M 18) a1 (fun r10 => f_X12_findWay_17 x_FU M r10 a1 (nI 0)))
abbrev rm_X12_findWay : Room := { frames := 3, cells := 0, slots := 0, locals := 72 }
set_option maxHeartbeats 4000000 in
set_option maxRecDepth 100000 in
theorem c_X12_findWay {l : Launch} {D : va_G} {cy : Nat → ClassId} {q ad : Nat → Nat} {s0 : State} (hq : x_Q q 24 s0.heap.size) {M : x_M} {a1 : Int32} {z : Int32 × x_M} (h : f_X12_findWay M a1 = some z) : x_Ci l D cy q ad x_spM 24 s0 yX12_findWay (x_uw yX12_findWay cX12_findWay 6 (some .int)) rm_X12_findWay [.ref (q 0), .int a1] M z.1 z.2 := by
  have hN : 24 ≤ 24 := Nat.le_refl _
  refine x_meti hq (by decide) (Nat.le_of_ble_eq_true rfl) ?_
  intro p e s m args below meth c ls Q C hret hl hw
  have hx := C.1.1
  have hb := C.1.2.1
  have ho := C.1.2.2.2.1
  have hL := C.1.2.2.2.2
  have hl : lv_has ls 6 [(0, .ref (q 0)), (1, .int a1)] := hl
  have w17 : ∀ (n : Nat) (M : x_M) (v2 : Int32) (v3 : Int32) (v4 : Int32) (H : Heap) (locs : List Loc) (ls : Array Slot), x_B D cy q ad x_spM 24 s H locs M → lv_has ls 6 [(0, .ref (q 0)), (2, .int v2), (3, .int v3), (4, .int v4)] → f_X12_findWay_17 n M v2 v3 v4 = some z → W p l e rm_X12_findWay s m args below meth c H locs 0 0 Q (F0 m 17 ls []) := by
    intro n
    induction n with
    | zero =>
      intro M v2 v3 v4 H locs ls hw hl h
      rw [f_X12_findWay_17_0] at h
      cases h
    | succ n17 ih17 =>
      have w53 : ∀ (n : Nat) (M : x_M) (v2 : Int32) (v3 : Int32) (v4 : Int32) (v5 : Int32) (H : Heap) (locs : List Loc) (ls : Array Slot), x_B D cy q ad x_spM 24 s H locs M → lv_has ls 6 [(0, .ref (q 0)), (2, .int v2), (3, .int v3), (4, .int v4), (5, .int v5)] → f_X12_findWay_53 (f_X12_findWay_17 n17) n M v2 v3 v4 v5 = some z → W p l e rm_X12_findWay s m args below meth c H locs 0 0 Q (F0 m 53 ls []) := by
        intro n
        induction n with
        | zero =>
          intro M v2 v3 v4 v5 H locs ls hw hl h
          rw [f_X12_findWay_53_0] at h
          cases h
        | succ n53 ih53 =>
          intro M v2 v3 v4 v5 H locs ls hw hl h
          rw [f_X12_findWay_53_s] at h
          refine lv_aload_n hx hb dX12_findWay_53 rfl (lv_at hl 0 rfl) ?_
          refine lv_iload hx hb dX12_findWay_54 (lv_at hl 3 rfl) ?_
          refine lv_iload_n hx hb dX12_findWay_56 rfl (lv_at hl 2 rfl) ?_
          refine lv_iload hx hb dX12_findWay_57 (lv_at hl 4 rfl) ?_
          refine xh_cVi C hw (rest := []) h (fun _ hy => c_X12_wayBy hq hy) ml_RX12_270 mv_X12_wayBy sM_0 (x_lt hN rfl) rfl ⟨rfl, rfl, by decide, by decide⟩ rfl hl.1 rfl (Nat.le_of_ble_eq_true rfl) dX12_findWay_59 (fun H locs r59 M hw h => ?_)
          refine lv_aload_n hx hb dX12_findWay_62 rfl (lv_at hl 0 rfl) ?_
          refine xh_getr C hw 0 32 sM_0 (x_lt hN rfl) rfl rfl rfl lk_RX12_62 dX12_findWay_63 ?_
          refine lv_sipush (v := (nI 3001)) hx hb dX12_findWay_66 (by decide) ?_
          refine lv_iload hx hb dX12_findWay_69 (lv_at hl 3 rfl) ?_
          refine lv_imul hx hb dX12_findWay_71 ?_
          refine lv_iload_n hx hb dX12_findWay_72 rfl (lv_at hl 2 rfl) ?_
          refine lv_iadd hx hb dX12_findWay_73 ?_
          refine xh_iald C hw 18 27009 h sM_18 (x_lt hN rfl) dX12_findWay_74 (fun r74 h => ?_)
          refine x_icmp_eq (tgt := 84) hx hb h dX12_findWay_75 (by decide) (fun h => ?_) (fun h => ?_)
          · refine lv_aload_n hx hb dX12_findWay_84 rfl (lv_at hl 0 rfl) ?_
            refine xh_getr C hw 0 33 sM_0 (x_lt hN rfl) rfl rfl rfl lk_RX12_65 dX12_findWay_85 ?_
            refine lv_iload hx hb dX12_findWay_88 (lv_at hl 3 rfl) ?_
            refine lv_iload hx hb dX12_findWay_90 (lv_at hl 4 rfl) ?_
            refine xh_iast C hw 19 8 h sM_19 (x_lt hN rfl) dX12_findWay_92 (fun H locs M hw h => ?_)
            refine lv_iconst (v := (nI 0)) hx hb dX12_findWay_93 (by decide) ?_
            refine lv_iload_n hx hb dX12_findWay_94 rfl (lv_at hl 2 rfl) ?_
            refine lv_iload hx hb dX12_findWay_95 (lv_at hl 4 rfl) ?_
            refine lv_aload_n hx hb dX12_findWay_97 rfl (lv_at hl 0 rfl) ?_
            refine xh_getr C hw 0 0 sM_0 (x_lt hN rfl) rfl rfl rfl lk_RX12_7 dX12_findWay_98 ?_
            refine lv_sipush (v := (nI 5488)) hx hb dX12_findWay_101 (by decide) ?_
            refine lv_iconst (v := (nI 3)) hx hb dX12_findWay_104 (by decide) ?_
            refine lv_iload hx hb dX12_findWay_105 (lv_at hl 3 rfl) ?_
            refine lv_imul hx hb dX12_findWay_107 ?_
            refine lv_iadd hx hb dX12_findWay_108 ?_
            refine lv_iconst (v := (nI 1)) hx hb dX12_findWay_109 (by decide) ?_
            refine lv_iadd hx hb dX12_findWay_110 ?_
            refine xh_iald C hw 1 5512 h sM_1 (x_lt hN rfl) dX12_findWay_111 (fun r111 h => ?_)
            refine lv_imul hx hb dX12_findWay_112 ?_
            refine lv_isub hx hb dX12_findWay_113 ?_
            refine xh_cSi C hw (rest := []) h (fun _ hy => c_X12_more hq hy) ml_RX12_209 st_X12_more ⟨rfl, rfl, by decide, by decide⟩ rfl hl.1 rfl (Nat.le_of_ble_eq_true rfl) dX12_findWay_114 (fun H locs r114 M hw h => ?_)
            refine lv_istore_n (lv' := [(3, .int _), (0, .ref (q 0)), (2, .int _), (4, .int _), (5, .int _)]) hx hb dX12_findWay_117 rfl hl (by decide) rfl (fun ls hl => ?_)
            refine lv_iinc (lv' := [(4, .int _), (3, .int _), (0, .ref (q 0)), (2, .int _), (5, .int _)]) hx hb dX12_findWay_118 hl (k := 3) rfl (x_inc (show Int32.ofInt 1 = (nI 1) by decide) _) (by decide) rfl (fun ls hl => ?_)
            refine lv_goto (tgt := 17) hx hb dX12_findWay_121 (by decide) ?_
            exact ih17 _ _ _ _ _ _ _ hw (lv_sub hl [2, 3, 1, 0] rfl) h
          · refine lv_iinc (lv' := [(5, .int _), (0, .ref (q 0)), (2, .int _), (3, .int _), (4, .int _)]) hx hb dX12_findWay_78 hl (k := 4) rfl (x_inc (show Int32.ofInt (-1) = (-1) by decide) _) (by decide) rfl (fun ls hl => ?_)
            refine lv_goto (tgt := 53) hx hb dX12_findWay_81 (by decide) ?_
            exact ih53 _ _ _ _ _ _ _ _ hw (lv_sub hl [1, 2, 3, 4, 0] rfl) h
      have w124 : ∀ (M : x_M) (v2 : Int32) (H : Heap) (locs : List Loc) (ls : Array Slot), x_B D cy q ad x_spM 24 s H locs M → lv_has ls 6 [(2, .int v2)] → f_X12_findWay_124 M v2 = some z → W p l e rm_X12_findWay s m args below meth c H locs 0 0 Q (F0 m 124 ls []) := by
        intro M v2 H locs ls hw hl h
        unfold f_X12_findWay_124 at h
        refine lv_iload_n hx hb dX12_findWay_124 rfl (lv_at hl 0 rfl) ?_
        exact hret dX12_findWay_125 rfl hw h
      intro M v2 v3 v4 H locs ls hw hl h
      rw [f_X12_findWay_17_s] at h
      refine lv_iload hx hb dX12_findWay_17 (lv_at hl 3 rfl) ?_
      refine lv_aload_n hx hb dX12_findWay_19 rfl (lv_at hl 0 rfl) ?_
      refine xh_getr C hw 0 0 sM_0 (x_lt hN rfl) rfl rfl rfl lk_RX12_7 dX12_findWay_20 ?_
      refine lv_bipush (v := (nI 9)) hx hb dX12_findWay_23 (by decide) ?_
      refine xh_iald C hw 1 5512 h sM_1 (x_lt hN rfl) dX12_findWay_25 (fun r25 h => ?_)
      refine x_icmp_ge (tgt := 124) hx hb h dX12_findWay_26 (by decide) (fun h => ?_) (fun h => ?_)
      · exact w124 _ _ _ _ _ hw (lv_sub hl [1] rfl) h
      · refine lv_iload_n hx hb dX12_findWay_29 rfl (lv_at hl 1 rfl) ?_
        refine lv_ldcw hx hb ho (hL _ kc_RX12_269) dX12_findWay_30 ?_
        refine x_icmp_eq (tgt := 124) hx hb h dX12_findWay_33 (by decide) (fun h => ?_) (fun h => ?_)
        · exact w124 _ _ _ _ _ hw (lv_sub hl [1] rfl) h
        · refine lv_aload_n hx hb dX12_findWay_36 rfl (lv_at hl 0 rfl) ?_
          refine xh_getr C hw 0 0 sM_0 (x_lt hN rfl) rfl rfl rfl lk_RX12_7 dX12_findWay_37 ?_
          refine lv_sipush (v := (nI 5488)) hx hb dX12_findWay_40 (by decide) ?_
          refine lv_iconst (v := (nI 3)) hx hb dX12_findWay_43 (by decide) ?_
          refine lv_iload hx hb dX12_findWay_44 (lv_at hl 3 rfl) ?_
          refine lv_imul hx hb dX12_findWay_46 ?_
          refine lv_iadd hx hb dX12_findWay_47 ?_
          refine lv_iconst (v := (nI 2)) hx hb dX12_findWay_48 (by decide) ?_
          refine lv_iadd hx hb dX12_findWay_49 ?_
          refine xh_iald C hw 1 5512 h sM_1 (x_lt hN rfl) dX12_findWay_50 (fun r50 h => ?_)
          refine lv_istore (lv' := [(5, .int _), (0, .ref (q 0)), (2, .int _), (3, .int _), (4, .int _)]) hx hb dX12_findWay_51 hl (by decide) rfl (fun ls hl => ?_)
          exact w53 _ _ _ _ _ _ _ _ _ hw (lv_sub hl [1, 2, 3, 4, 0] rfl) h
  unfold f_X12_findWay at h
  refine lv_aload_n hx hb dX12_findWay_0 rfl (lv_at hl 0 rfl) ?_
  refine lv_iload_n hx hb dX12_findWay_1 rfl (lv_at hl 1 rfl) ?_
  refine xh_cVv C hw (rest := []) h (fun _ hy => c_X12_findWays hq hy) ml_RX12_273 mv_X12_findWays sM_0 (x_lt hN rfl) rfl ⟨rfl, rfl, by decide, by decide⟩ rfl hl.1 rfl (Nat.le_of_ble_eq_true rfl) dX12_findWay_2 (fun H locs _ M hw h => ?_)
  refine lv_aload_n hx hb dX12_findWay_5 rfl (lv_at hl 0 rfl) ?_
  refine xh_getr C hw 0 32 sM_0 (x_lt hN rfl) rfl rfl rfl lk_RX12_62 dX12_findWay_6 ?_
  refine lv_iload_n hx hb dX12_findWay_9 rfl (lv_at hl 1 rfl) ?_
  refine xh_iald C hw 18 27009 h sM_18 (x_lt hN rfl) dX12_findWay_10 (fun r10 h => ?_)
  refine lv_istore_n (lv' := [(2, .int _), (0, .ref (q 0)), (1, .int _)]) hx hb dX12_findWay_11 rfl hl (by decide) rfl (fun ls hl => ?_)
  refine lv_iload_n hx hb dX12_findWay_12 rfl (lv_at hl 2 rfl) ?_
  refine lv_istore_n (lv' := [(3, .int _), (2, .int _), (0, .ref (q 0)), (1, .int _)]) hx hb dX12_findWay_13 rfl hl (by decide) rfl (fun ls hl => ?_)
  refine lv_iconst (v := (nI 0)) hx hb dX12_findWay_14 (by decide) ?_
  refine lv_istore (lv' := [(4, .int _), (3, .int _), (2, .int _), (0, .ref (q 0)), (1, .int _)]) hx hb dX12_findWay_15 hl (by decide) rfl (fun ls hl => ?_)
  exact w17 _ _ _ _ _ _ _ _ hw (lv_sub hl [3, 2, 1, 0] rfl) h
def f_X12_way (M : x_M) (a1 : Int32) : Option (Int32 × x_M) := x_bn (f_X12_in M a1 (nI 0) (nI 3000)) (fun r5 M => if r5 = 0 then some ((-1000000001), M) else x_bn (f_X12_findWay M a1) (fun r16 M => if r16 = (nI 1000000000) then some ((-1000000002), M) else x_dv (nI 100) (some ((r16 / (nI 100)), M))))
abbrev rm_X12_way : Room := { frames := 4, cells := 0, slots := 0, locals := 97 }
set_option maxHeartbeats 4000000 in
set_option maxRecDepth 100000 in
theorem c_X12_way {l : Launch} {D : va_G} {cy : Nat → ClassId} {q ad : Nat → Nat} {s0 : State} (hq : x_Q q 24 s0.heap.size) {M : x_M} {a1 : Int32} {z : Int32 × x_M} (h : f_X12_way M a1 = some z) : x_Ci l D cy q ad x_spM 24 s0 yX12_way (x_uw yX12_way cX12_way 3 (some .int)) rm_X12_way [.ref (q 0), .int a1] M z.1 z.2 := by
  have hN : 24 ≤ 24 := Nat.le_refl _
  refine x_meti hq (by decide) (Nat.le_of_ble_eq_true rfl) ?_
  intro p e s m args below meth c ls Q C hret hl hw
  have hx := C.1.1
  have hb := C.1.2.1
  have ho := C.1.2.2.2.1
  have hL := C.1.2.2.2.2
  have hl : lv_has ls 3 [(0, .ref (q 0)), (1, .int a1)] := hl
  unfold f_X12_way at h
  refine lv_iload_n hx hb dX12_way_0 rfl (lv_at hl 1 rfl) ?_
  refine lv_iconst (v := (nI 0)) hx hb dX12_way_1 (by decide) ?_
  refine lv_sipush (v := (nI 3000)) hx hb dX12_way_2 (by decide) ?_
  refine xh_cSi C hw (rest := []) h (fun _ hy => c_X12_in hq hy) ml_RX12_81 st_X12_in ⟨rfl, rfl, by decide, by decide⟩ rfl hl.1 rfl (Nat.le_of_ble_eq_true rfl) dX12_way_5 (fun H locs r5 M hw h => ?_)
  refine x_if_ne (tgt := 14) hx hb h dX12_way_8 (by decide) (fun h => ?_) (fun h => ?_)
  · refine lv_ldc hx hb ho (hL _ kc_RX12_85) dX12_way_11 ?_
    exact hret dX12_way_13 rfl hw h
  · refine lv_aload_n hx hb dX12_way_14 rfl (lv_at hl 0 rfl) ?_
    refine lv_iload_n hx hb dX12_way_15 rfl (lv_at hl 1 rfl) ?_
    refine xh_cVi C hw (rest := []) h (fun _ hy => c_X12_findWay hq hy) ml_RX12_276 mv_X12_findWay sM_0 (x_lt hN rfl) rfl ⟨rfl, rfl, by decide, by decide⟩ rfl hl.1 rfl (Nat.le_of_ble_eq_true rfl) dX12_way_16 (fun H locs r16 M hw h => ?_)
    refine lv_istore_n (lv' := [(2, .int _), (0, .ref (q 0)), (1, .int _)]) hx hb dX12_way_19 rfl hl (by decide) rfl (fun ls hl => ?_)
    refine lv_iload_n hx hb dX12_way_20 rfl (lv_at hl 0 rfl) ?_
    refine lv_ldcw hx hb ho (hL _ kc_RX12_269) dX12_way_21 ?_
    refine x_icmp_ne (tgt := 32) hx hb h dX12_way_24 (by decide) (fun h => ?_) (fun h => ?_)
    · refine lv_ldc hx hb ho (hL _ kc_RX12_111) dX12_way_27 ?_
      refine lv_goto (tgt := 36) hx hb dX12_way_29 (by decide) ?_
      exact hret dX12_way_36 rfl hw h
    · refine lv_iload_n hx hb dX12_way_32 rfl (lv_at hl 0 rfl) ?_
      refine lv_bipush (v := (nI 100)) hx hb dX12_way_33 (by decide) ?_
      refine xh_idiv hx hb h dX12_way_35 (fun h => ?_)
      exact hret dX12_way_36 rfl hw h
def f_X12_taken_28 (M : x_M) : Option (Int32 × x_M) := some ((-1000000001), M)
def f_X12_taken (M : x_M) (a1 : Int32) (a2 : Int32) : Option (Int32 × x_M) := x_bn (f_X12_in M a1 (nI 0) (nI 3000)) (fun r5 M => if r5 = 0 then f_X12_taken_28 M else x_rd 5512 (M 1) (nI 9) (fun r19 => x_bn (f_X12_in M a2 (nI 0) (r19 - (nI 1))) (fun r22 M => if r22 = 0 then f_X12_taken_28 M else x_bn (f_X12_findWay M a1) (fun r33 M => if r33 = (nI 1000000000) then some ((-1000000002), M) else x_rd 8 (M 19) a2 (fun r52 => some (r52, M))))))
abbrev rm_X12_taken : Room := { frames := 4, cells := 0, slots := 0, locals := 97 }
set_option maxHeartbeats 4000000 in
set_option maxRecDepth 100000 in
theorem c_X12_taken {l : Launch} {D : va_G} {cy : Nat → ClassId} {q ad : Nat → Nat} {s0 : State} (hq : x_Q q 24 s0.heap.size) {M : x_M} {a1 : Int32} {a2 : Int32} {z : Int32 × x_M} (h : f_X12_taken M a1 a2 = some z) : x_Ci l D cy q ad x_spM 24 s0 yX12_taken (x_uw yX12_taken cX12_taken 3 (some .int)) rm_X12_taken [.ref (q 0), .int a1, .int a2] M z.1 z.2 := by
  have hN : 24 ≤ 24 := Nat.le_refl _
  refine x_meti hq (by decide) (Nat.le_of_ble_eq_true rfl) ?_
  intro p e s m args below meth c ls Q C hret hl hw
  have hx := C.1.1
  have hb := C.1.2.1
  have ho := C.1.2.2.2.1
  have hL := C.1.2.2.2.2
  have hl : lv_has ls 3 [(0, .ref (q 0)), (1, .int a1), (2, .int a2)] := hl
  have w28 : ∀ (M : x_M) (H : Heap) (locs : List Loc) (ls : Array Slot), x_B D cy q ad x_spM 24 s H locs M → lv_has ls 3 [] → f_X12_taken_28 M = some z → W p l e rm_X12_taken s m args below meth c H locs 0 0 Q (F0 m 28 ls []) := by
    intro M H locs ls hw hl h
    unfold f_X12_taken_28 at h
    refine lv_ldc hx hb ho (hL _ kc_RX12_85) dX12_taken_28 ?_
    exact hret dX12_taken_30 rfl hw h
  unfold f_X12_taken at h
  refine lv_iload_n hx hb dX12_taken_0 rfl (lv_at hl 1 rfl) ?_
  refine lv_iconst (v := (nI 0)) hx hb dX12_taken_1 (by decide) ?_
  refine lv_sipush (v := (nI 3000)) hx hb dX12_taken_2 (by decide) ?_
  refine xh_cSi C hw (rest := []) h (fun _ hy => c_X12_in hq hy) ml_RX12_81 st_X12_in ⟨rfl, rfl, by decide, by decide⟩ rfl hl.1 rfl (Nat.le_of_ble_eq_true rfl) dX12_taken_5 (fun H locs r5 M hw h => ?_)
  refine x_if_eq (tgt := 28) hx hb h dX12_taken_8 (by decide) (fun h => ?_) (fun h => ?_)
  · exact w28 _ _ _ _ hw (lv_sub hl [] rfl) h
  · refine lv_iload_n hx hb dX12_taken_11 rfl (lv_at hl 2 rfl) ?_
    refine lv_iconst (v := (nI 0)) hx hb dX12_taken_12 (by decide) ?_
    refine lv_aload_n hx hb dX12_taken_13 rfl (lv_at hl 0 rfl) ?_
    refine xh_getr C hw 0 0 sM_0 (x_lt hN rfl) rfl rfl rfl lk_RX12_7 dX12_taken_14 ?_
    refine lv_bipush (v := (nI 9)) hx hb dX12_taken_17 (by decide) ?_
    refine xh_iald C hw 1 5512 h sM_1 (x_lt hN rfl) dX12_taken_19 (fun r19 h => ?_)
    refine lv_iconst (v := (nI 1)) hx hb dX12_taken_20 (by decide) ?_
    refine lv_isub hx hb dX12_taken_21 ?_
    refine xh_cSi C hw (rest := []) h (fun _ hy => c_X12_in hq hy) ml_RX12_81 st_X12_in ⟨rfl, rfl, by decide, by decide⟩ rfl hl.1 rfl (Nat.le_of_ble_eq_true rfl) dX12_taken_22 (fun H locs r22 M hw h => ?_)
    refine x_if_ne (tgt := 31) hx hb h dX12_taken_25 (by decide) (fun h => ?_) (fun h => ?_)
    · exact w28 _ _ _ _ hw (lv_sub hl [] rfl) h
    · refine lv_aload_n hx hb dX12_taken_31 rfl (lv_at hl 0 rfl) ?_
      refine lv_iload_n hx hb dX12_taken_32 rfl (lv_at hl 1 rfl) ?_
      refine xh_cVi C hw (rest := []) h (fun _ hy => c_X12_findWay hq hy) ml_RX12_276 mv_X12_findWay sM_0 (x_lt hN rfl) rfl ⟨rfl, rfl, by decide, by decide⟩ rfl hl.1 rfl (Nat.le_of_ble_eq_true rfl) dX12_taken_33 (fun H locs r33 M hw h => ?_)
      refine lv_ldcw hx hb ho (hL _ kc_RX12_269) dX12_taken_36 ?_
      refine x_icmp_ne (tgt := 47) hx hb h dX12_taken_39 (by decide) (fun h => ?_) (fun h => ?_)
      · refine lv_ldc hx hb ho (hL _ kc_RX12_111) dX12_taken_42 ?_
        refine lv_goto (tgt := 53) hx hb dX12_taken_44 (by decide) ?_
        exact hret dX12_taken_53 rfl hw h
      · refine lv_aload_n hx hb dX12_taken_47 rfl (lv_at hl 0 rfl) ?_
        refine xh_getr C hw 0 33 sM_0 (x_lt hN rfl) rfl rfl rfl lk_RX12_65 dX12_taken_48 ?_
        refine lv_iload_n hx hb dX12_taken_51 rfl (lv_at hl 2 rfl) ?_
        refine xh_iald C hw 19 8 h sM_19 (x_lt hN rfl) dX12_taken_52 (fun r52 h => ?_)
        exact hret dX12_taken_53 rfl hw h
def f_X12_tell (M : x_M) (a1 : Int32) : Option (Int32 × x_M) := x_gf M 0 35 (fun r1 => if r1 = (nI 16) then some ((-1000000003), M) else x_gf M 0 35 (fun r17 => x_wr 16 M 20 r17 a1 (fun M => x_gf M 0 35 (fun r24 => x_pf M 0 35 (r24 + (nI 1)) (fun M => x_gf M 0 35 (fun r33 => some (r33, M)))))))
abbrev rm_X12_tell : Room := { frames := 0, cells := 0, slots := 0, locals := 0 }
set_option maxHeartbeats 4000000 in
set_option maxRecDepth 100000 in
theorem c_X12_tell {l : Launch} {D : va_G} {cy : Nat → ClassId} {q ad : Nat → Nat} {s0 : State} (hq : x_Q q 24 s0.heap.size) {M : x_M} {a1 : Int32} {z : Int32 × x_M} (h : f_X12_tell M a1 = some z) : x_Ci l D cy q ad x_spM 24 s0 yX12_tell (x_uw yX12_tell cX12_tell 2 (some .int)) rm_X12_tell [.ref (q 0), .int a1] M z.1 z.2 := by
  have hN : 24 ≤ 24 := Nat.le_refl _
  refine x_meti hq (by decide) (Nat.le_of_ble_eq_true rfl) ?_
  intro p e s m args below meth c ls Q C hret hl hw
  have hx := C.1.1
  have hb := C.1.2.1
  have ho := C.1.2.2.2.1
  have hL := C.1.2.2.2.2
  have hl : lv_has ls 2 [(0, .ref (q 0)), (1, .int a1)] := hl
  unfold f_X12_tell at h
  refine lv_aload_n hx hb dX12_tell_0 rfl (lv_at hl 0 rfl) ?_
  refine xh_geti C hw 0 35 h sM_0 (x_lt hN rfl) rfl rfl rfl lk_RX12_279 dX12_tell_1 (fun r1 h => ?_)
  refine lv_bipush (v := (nI 16)) hx hb dX12_tell_4 (by decide) ?_
  refine x_icmp_ne (tgt := 12) hx hb h dX12_tell_6 (by decide) (fun h => ?_) (fun h => ?_)
  · refine lv_ldc hx hb ho (hL _ kc_RX12_86) dX12_tell_9 ?_
    exact hret dX12_tell_11 rfl hw h
  · refine lv_aload_n hx hb dX12_tell_12 rfl (lv_at hl 0 rfl) ?_
    refine xh_getr C hw 0 34 sM_0 (x_lt hN rfl) rfl rfl rfl lk_RX12_68 dX12_tell_13 ?_
    refine lv_aload_n hx hb dX12_tell_16 rfl (lv_at hl 0 rfl) ?_
    refine xh_geti C hw 0 35 h sM_0 (x_lt hN rfl) rfl rfl rfl lk_RX12_279 dX12_tell_17 (fun r17 h => ?_)
    refine lv_iload_n hx hb dX12_tell_20 rfl (lv_at hl 1 rfl) ?_
    refine xh_iast C hw 20 16 h sM_20 (x_lt hN rfl) dX12_tell_21 (fun H locs M hw h => ?_)
    refine lv_aload_n hx hb dX12_tell_22 rfl (lv_at hl 0 rfl) ?_
    refine lv_dup hx hb dX12_tell_23 rfl ?_
    refine xh_geti C hw 0 35 h sM_0 (x_lt hN rfl) rfl rfl rfl lk_RX12_279 dX12_tell_24 (fun r24 h => ?_)
    refine lv_iconst (v := (nI 1)) hx hb dX12_tell_27 (by decide) ?_
    refine lv_iadd hx hb dX12_tell_28 ?_
    refine xh_puti C hw 0 35 h sM_0 (x_lt hN rfl) rfl rfl rfl lk_RX12_279 rfl rfl dX12_tell_29 (fun H locs M hw h => ?_)
    refine lv_aload_n hx hb dX12_tell_32 rfl (lv_at hl 0 rfl) ?_
    refine xh_geti C hw 0 35 h sM_0 (x_lt hN rfl) rfl rfl rfl lk_RX12_279 dX12_tell_33 (fun r33 h => ?_)
    exact hret dX12_tell_36 rfl hw h
def f_X12_check_71 (M : x_M) (v3 : Int32) : Option (Int32 × x_M) := some (((nI 1) + v3), M)
def f_X12_check_40 : Nat → x_M → Int32 → Int32 → Option (Int32 × x_M)
  | 0, _, _, _ => none
  | n + 1, M, v2, v3 => if v2 ≤ v3 then x_rd 5512 (M 1) (nI 9) (fun r88 => if r88 ≤ v2 then some ((nI 0), M) else some (((nI 1) + v2), M)) else x_rd 5512 (M 1) (nI 9) (fun r52 => if r52 ≤ v3 then f_X12_check_71 M v3 else x_rd 16 (M 20) v3 (fun r61 => x_rd 8 (M 19) v3 (fun r67 => if r61 = r67 then (f_X12_check_40 n) M v2 (v3 + (nI 1)) else f_X12_check_71 M v3)))
theorem f_X12_check_40_0 (M : x_M) (v2 : Int32) (v3 : Int32) : f_X12_check_40 0 M v2 v3 = none := rfl
theorem f_X12_check_40_s (n : Nat) (M : x_M) (v2 : Int32) (v3 : Int32) : f_X12_check_40 (n + 1) M v2 v3 = (if v2 ≤ v3 then x_rd 5512 (M 1) (nI 9) (fun r88 => if r88 ≤ v2 then some ((nI 0), M) else some (((nI 1) + v2), M)) else x_rd 5512 (M 1) (nI 9) (fun r52 => if r52 ≤ v3 then f_X12_check_71 M v3 else x_rd 16 (M 20) v3 (fun r61 => x_rd 8 (M 19) v3 (fun r67 => if r61 = r67 then (f_X12_check_40 n) M v2 (v3 + (nI 1)) else f_X12_check_71 M v3)))) := rfl
def f_X12_check (M : x_M) (a1 : Int32) : Option (Int32 × x_M) := x_gf M 0 35 (fun r1 => x_pf M 0 35 (nI 0) (fun M => x_bn (f_X12_in M a1 (nI 0) (nI 3000)) (fun r15 M => if r15 = 0 then some ((-1000000001), M) else x_bn (f_X12_findWay M a1) (fun r26 M => if r26 = (nI 1000000000) then some ((-1000000002), M) else f_X12_check_40 x_FU M r1 (nI 0)))))
abbrev rm_X12_check : Room := { frames := 4, cells := 0, slots := 0, locals := 97 }
set_option maxHeartbeats 4000000 in
set_option maxRecDepth 100000 in
theorem c_X12_check {l : Launch} {D : va_G} {cy : Nat → ClassId} {q ad : Nat → Nat} {s0 : State} (hq : x_Q q 24 s0.heap.size) {M : x_M} {a1 : Int32} {z : Int32 × x_M} (h : f_X12_check M a1 = some z) : x_Ci l D cy q ad x_spM 24 s0 yX12_check (x_uw yX12_check cX12_check 4 (some .int)) rm_X12_check [.ref (q 0), .int a1] M z.1 z.2 := by
  have hN : 24 ≤ 24 := Nat.le_refl _
  refine x_meti hq (by decide) (Nat.le_of_ble_eq_true rfl) ?_
  intro p e s m args below meth c ls Q C hret hl hw
  have hx := C.1.1
  have hb := C.1.2.1
  have ho := C.1.2.2.2.1
  have hL := C.1.2.2.2.2
  have hl : lv_has ls 4 [(0, .ref (q 0)), (1, .int a1)] := hl
  have w40 : ∀ (n : Nat) (M : x_M) (v2 : Int32) (v3 : Int32) (H : Heap) (locs : List Loc) (ls : Array Slot), x_B D cy q ad x_spM 24 s H locs M → lv_has ls 4 [(0, .ref (q 0)), (2, .int v2), (3, .int v3)] → f_X12_check_40 n M v2 v3 = some z → W p l e rm_X12_check s m args below meth c H locs 0 0 Q (F0 m 40 ls []) := by
    intro n
    induction n with
    | zero =>
      intro M v2 v3 H locs ls hw hl h
      rw [f_X12_check_40_0] at h
      cases h
    | succ n40 ih40 =>
      have w71 : ∀ (M : x_M) (v3 : Int32) (H : Heap) (locs : List Loc) (ls : Array Slot), x_B D cy q ad x_spM 24 s H locs M → lv_has ls 4 [(3, .int v3)] → f_X12_check_71 M v3 = some z → W p l e rm_X12_check s m args below meth c H locs 0 0 Q (F0 m 71 ls []) := by
        intro M v3 H locs ls hw hl h
        unfold f_X12_check_71 at h
        refine lv_iconst (v := (nI 1)) hx hb dX12_check_71 (by decide) ?_
        refine lv_iload_n hx hb dX12_check_72 rfl (lv_at hl 0 rfl) ?_
        refine lv_iadd hx hb dX12_check_73 ?_
        exact hret dX12_check_74 rfl hw h
      intro M v2 v3 H locs ls hw hl h
      rw [f_X12_check_40_s] at h
      refine lv_iload_n hx hb dX12_check_40 rfl (lv_at hl 2 rfl) ?_
      refine lv_iload_n hx hb dX12_check_41 rfl (lv_at hl 1 rfl) ?_
      refine x_icmp_ge (tgt := 81) hx hb h dX12_check_42 (by decide) (fun h => ?_) (fun h => ?_)
      · refine lv_iload_n hx hb dX12_check_81 rfl (lv_at hl 1 rfl) ?_
        refine lv_aload_n hx hb dX12_check_82 rfl (lv_at hl 0 rfl) ?_
        refine xh_getr C hw 0 0 sM_0 (x_lt hN rfl) rfl rfl rfl lk_RX12_7 dX12_check_83 ?_
        refine lv_bipush (v := (nI 9)) hx hb dX12_check_86 (by decide) ?_
        refine xh_iald C hw 1 5512 h sM_1 (x_lt hN rfl) dX12_check_88 (fun r88 h => ?_)
        refine x_icmp_ge (tgt := 98) hx hb h dX12_check_89 (by decide) (fun h => ?_) (fun h => ?_)
        · refine lv_iconst (v := (nI 0)) hx hb dX12_check_98 (by decide) ?_
          exact hret dX12_check_99 rfl hw h
        · refine lv_iconst (v := (nI 1)) hx hb dX12_check_92 (by decide) ?_
          refine lv_iload_n hx hb dX12_check_93 rfl (lv_at hl 1 rfl) ?_
          refine lv_iadd hx hb dX12_check_94 ?_
          refine lv_goto (tgt := 99) hx hb dX12_check_95 (by decide) ?_
          exact hret dX12_check_99 rfl hw h
      · refine lv_iload_n hx hb dX12_check_45 rfl (lv_at hl 2 rfl) ?_
        refine lv_aload_n hx hb dX12_check_46 rfl (lv_at hl 0 rfl) ?_
        refine xh_getr C hw 0 0 sM_0 (x_lt hN rfl) rfl rfl rfl lk_RX12_7 dX12_check_47 ?_
        refine lv_bipush (v := (nI 9)) hx hb dX12_check_50 (by decide) ?_
        refine xh_iald C hw 1 5512 h sM_1 (x_lt hN rfl) dX12_check_52 (fun r52 h => ?_)
        refine x_icmp_ge (tgt := 71) hx hb h dX12_check_53 (by decide) (fun h => ?_) (fun h => ?_)
        · exact w71 _ _ _ _ _ hw (lv_sub hl [2] rfl) h
        · refine lv_aload_n hx hb dX12_check_56 rfl (lv_at hl 0 rfl) ?_
          refine xh_getr C hw 0 34 sM_0 (x_lt hN rfl) rfl rfl rfl lk_RX12_68 dX12_check_57 ?_
          refine lv_iload_n hx hb dX12_check_60 rfl (lv_at hl 2 rfl) ?_
          refine xh_iald C hw 20 16 h sM_20 (x_lt hN rfl) dX12_check_61 (fun r61 h => ?_)
          refine lv_aload_n hx hb dX12_check_62 rfl (lv_at hl 0 rfl) ?_
          refine xh_getr C hw 0 33 sM_0 (x_lt hN rfl) rfl rfl rfl lk_RX12_65 dX12_check_63 ?_
          refine lv_iload_n hx hb dX12_check_66 rfl (lv_at hl 2 rfl) ?_
          refine xh_iald C hw 19 8 h sM_19 (x_lt hN rfl) dX12_check_67 (fun r67 h => ?_)
          refine x_icmp_eq (tgt := 75) hx hb h dX12_check_68 (by decide) (fun h => ?_) (fun h => ?_)
          · refine lv_iinc (lv' := [(3, .int _), (0, .ref (q 0)), (2, .int _)]) hx hb dX12_check_75 hl (k := 2) rfl (x_inc (show Int32.ofInt 1 = (nI 1) by decide) _) (by decide) rfl (fun ls hl => ?_)
            refine lv_goto (tgt := 40) hx hb dX12_check_78 (by decide) ?_
            exact ih40 _ _ _ _ _ _ hw (lv_sub hl [1, 2, 0] rfl) h
          · exact w71 _ _ _ _ _ hw (lv_sub hl [2] rfl) h
  unfold f_X12_check at h
  refine lv_aload_n hx hb dX12_check_0 rfl (lv_at hl 0 rfl) ?_
  refine xh_geti C hw 0 35 h sM_0 (x_lt hN rfl) rfl rfl rfl lk_RX12_279 dX12_check_1 (fun r1 h => ?_)
  refine lv_istore_n (lv' := [(2, .int _), (0, .ref (q 0)), (1, .int _)]) hx hb dX12_check_4 rfl hl (by decide) rfl (fun ls hl => ?_)
  refine lv_aload_n hx hb dX12_check_5 rfl (lv_at hl 1 rfl) ?_
  refine lv_iconst (v := (nI 0)) hx hb dX12_check_6 (by decide) ?_
  refine xh_puti C hw 0 35 h sM_0 (x_lt hN rfl) rfl rfl rfl lk_RX12_279 rfl rfl dX12_check_7 (fun H locs M hw h => ?_)
  refine lv_iload_n hx hb dX12_check_10 rfl (lv_at hl 2 rfl) ?_
  refine lv_iconst (v := (nI 0)) hx hb dX12_check_11 (by decide) ?_
  refine lv_sipush (v := (nI 3000)) hx hb dX12_check_12 (by decide) ?_
  refine xh_cSi C hw (rest := []) h (fun _ hy => c_X12_in hq hy) ml_RX12_81 st_X12_in ⟨rfl, rfl, by decide, by decide⟩ rfl hl.1 rfl (Nat.le_of_ble_eq_true rfl) dX12_check_15 (fun H locs r15 M hw h => ?_)
  refine x_if_ne (tgt := 24) hx hb h dX12_check_18 (by decide) (fun h => ?_) (fun h => ?_)
  · refine lv_ldc hx hb ho (hL _ kc_RX12_85) dX12_check_21 ?_
    exact hret dX12_check_23 rfl hw h
  · refine lv_aload_n hx hb dX12_check_24 rfl (lv_at hl 1 rfl) ?_
    refine lv_iload_n hx hb dX12_check_25 rfl (lv_at hl 2 rfl) ?_
    refine xh_cVi C hw (rest := []) h (fun _ hy => c_X12_findWay hq hy) ml_RX12_276 mv_X12_findWay sM_0 (x_lt hN rfl) rfl ⟨rfl, rfl, by decide, by decide⟩ rfl hl.1 rfl (Nat.le_of_ble_eq_true rfl) dX12_check_26 (fun H locs r26 M hw h => ?_)
    refine lv_ldcw hx hb ho (hL _ kc_RX12_269) dX12_check_29 ?_
    refine x_icmp_ne (tgt := 38) hx hb h dX12_check_32 (by decide) (fun h => ?_) (fun h => ?_)
    · refine lv_ldc hx hb ho (hL _ kc_RX12_111) dX12_check_35 ?_
      exact hret dX12_check_37 rfl hw h
    · refine lv_iconst (v := (nI 0)) hx hb dX12_check_38 (by decide) ?_
      refine lv_istore_n (lv' := [(3, .int _), (2, .int _), (0, .ref (q 0)), (1, .int _)]) hx hb dX12_check_39 rfl hl (by decide) rfl (fun ls hl => ?_)
      exact w40 _ _ _ _ _ _ _ hw (lv_sub hl [2, 1, 0] rfl) h
def f_X12_ringOf_60 (k6 : x_M → Int32 → Int32 → Option (Int32 × x_M)) (k19 : x_M → Int32 → Int32 → Int32 → Int32 → Option (Int32 × x_M)) (M : x_M) (v2 : Int32) (v3 : Int32) (v5 : Int32) (t0 : Int32) (t1 : Int32) : Option (Int32 × x_M) := k19 M v2 v3 (t0 ||| t1) (v5 + (nI 1))
def f_X12_ringOf_112 (k6 : x_M → Int32 → Int32 → Option (Int32 × x_M)) (k72 : x_M → Int32 → Int32 → Int32 → Int32 → Option (Int32 × x_M)) (M : x_M) (v3 : Int32) (v4 : Int32) (v5 : Int32) (t0 : Int32) (t1 : Int32) : Option (Int32 × x_M) := k72 M (t0 ||| t1) v3 v4 (v5 + (nI 1))
def f_X12_ringOf_72 (k6 : x_M → Int32 → Int32 → Option (Int32 × x_M)) : Nat → x_M → Int32 → Int32 → Int32 → Int32 → Option (Int32 × x_M)
  | 0, _, _, _, _, _ => none
  | n + 1, M, v2, v3, v4, v5 => x_rd 5512 (M 1) (nI 4) (fun r79 => if r79 ≤ v5 then k6 M v2 v3 else x_rd 5512 (M 1) (((nI 20) + ((nI 3) * v5)) + (nI 1)) (fun r97 => if (r97 &&& v4) = 0 then f_X12_ringOf_112 k6 (f_X12_ringOf_72 k6 n) M v3 v4 v5 v2 (nI 0) else f_X12_ringOf_112 k6 (f_X12_ringOf_72 k6 n) M v3 v4 v5 v2 ((nI 1) <<< (v5 &&& 31))))
theorem f_X12_ringOf_72_0 (k6 : x_M → Int32 → Int32 → Option (Int32 × x_M)) (M : x_M) (v2 : Int32) (v3 : Int32) (v4 : Int32) (v5 : Int32) : f_X12_ringOf_72 k6 0 M v2 v3 v4 v5 = none := rfl
theorem f_X12_ringOf_72_s (k6 : x_M → Int32 → Int32 → Option (Int32 × x_M)) (n : Nat) (M : x_M) (v2 : Int32) (v3 : Int32) (v4 : Int32) (v5 : Int32) : f_X12_ringOf_72 k6 (n + 1) M v2 v3 v4 v5 = (x_rd 5512 (M 1) (nI 4) (fun r79 => if r79 ≤ v5 then k6 M v2 v3 else x_rd 5512 (M 1) (((nI 20) + ((nI 3) * v5)) + (nI 1)) (fun r97 => if (r97 &&& v4) = 0 then f_X12_ringOf_112 k6 (f_X12_ringOf_72 k6 n) M v3 v4 v5 v2 (nI 0) else f_X12_ringOf_112 k6 (f_X12_ringOf_72 k6 n) M v3 v4 v5 v2 ((nI 1) <<< (v5 &&& 31))))) := rfl
def f_X12_ringOf_19 (k6 : x_M → Int32 → Int32 → Option (Int32 × x_M)) : Nat → x_M → Int32 → Int32 → Int32 → Int32 → Option (Int32 × x_M)
  | 0, _, _, _, _, _ => none
  | n + 1, M, v2, v3, v4, v5 => x_rd 5512 (M 1) (nI 4) (fun r26 => if r26 ≤ v5 then f_X12_ringOf_72 k6 x_FU M v2 v3 v4 (nI 0) else if ((v2 >>> (v5 &&& 31)) &&& (nI 1)) = (nI 1) then x_rd 5512 (M 1) (((nI 20) + ((nI 3) * v5)) + (nI 1)) (fun r55 => f_X12_ringOf_60 k6 (f_X12_ringOf_19 k6 n) M v2 v3 v5 v4 r55) else f_X12_ringOf_60 k6 (f_X12_ringOf_19 k6 n) M v2 v3 v5 v4 (nI 0))
theorem f_X12_ringOf_19_0 (k6 : x_M → Int32 → Int32 → Option (Int32 × x_M)) (M : x_M) (v2 : Int32) (v3 : Int32) (v4 : Int32) (v5 : Int32) : f_X12_ringOf_19 k6 0 M v2 v3 v4 v5 = none := rfl
theorem f_X12_ringOf_19_s (k6 : x_M → Int32 → Int32 → Option (Int32 × x_M)) (n : Nat) (M : x_M) (v2 : Int32) (v3 : Int32) (v4 : Int32) (v5 : Int32) : f_X12_ringOf_19 k6 (n + 1) M v2 v3 v4 v5 = (x_rd 5512 (M 1) (nI 4) (fun r26 => if r26 ≤ v5 then f_X12_ringOf_72 k6 x_FU M v2 v3 v4 (nI 0) else if ((v2 >>> (v5 &&& 31)) &&& (nI 1)) = (nI 1) then x_rd 5512 (M 1) (((nI 20) + ((nI 3) * v5)) + (nI 1)) (fun r55 => f_X12_ringOf_60 k6 (f_X12_ringOf_19 k6 n) M v2 v3 v5 v4 r55) else f_X12_ringOf_60 k6 (f_X12_ringOf_19 k6 n) M v2 v3 v5 v4 (nI 0))) := rfl
def f_X12_ringOf_6 : Nat → x_M → Int32 → Int32 → Option (Int32 × x_M)
  | 0, _, _, _ => none
  | n + 1, M, v2, v3 => if v3 = v2 then some (v2, M) else f_X12_ringOf_19 (f_X12_ringOf_6 n) x_FU M v2 v2 (nI 0) (nI 0)
theorem f_X12_ringOf_6_0 (M : x_M) (v2 : Int32) (v3 : Int32) : f_X12_ringOf_6 0 M v2 v3 = none := rfl
theorem f_X12_ringOf_6_s (n : Nat) (M : x_M) (v2 : Int32) (v3 : Int32) : f_X12_ringOf_6 (n + 1) M v2 v3 = (if v3 = v2 then some (v2, M) else f_X12_ringOf_19 (f_X12_ringOf_6 n) x_FU M v2 v2 (nI 0) (nI 0)) := rfl
def f_X12_ringOf (M : x_M) (a1 : Int32) : Option (Int32 × x_M) := f_X12_ringOf_6 x_FU M ((nI 1) <<< (a1 &&& 31)) (nI 0)
abbrev rm_X12_ringOf : Room := { frames := 0, cells := 0, slots := 0, locals := 0 }
set_option maxHeartbeats 4000000 in
set_option maxRecDepth 100000 in
theorem c_X12_ringOf {l : Launch} {D : va_G} {cy : Nat → ClassId} {q ad : Nat → Nat} {s0 : State} (hq : x_Q q 24 s0.heap.size) {M : x_M} {a1 : Int32} {z : Int32 × x_M} (h : f_X12_ringOf M a1 = some z) : x_Ci l D cy q ad x_spM 24 s0 yX12_ringOf (x_uw yX12_ringOf cX12_ringOf 6 (some .int)) rm_X12_ringOf [.ref (q 0), .int a1] M z.1 z.2 := by
  have hN : 24 ≤ 24 := Nat.le_refl _
  refine x_meti hq (by decide) (Nat.le_of_ble_eq_true rfl) ?_
  intro p e s m args below meth c ls Q C hret hl hw
  have hx := C.1.1
  have hb := C.1.2.1
  have ho := C.1.2.2.2.1
  have hL := C.1.2.2.2.2
  have hl : lv_has ls 6 [(0, .ref (q 0)), (1, .int a1)] := hl
  have w6 : ∀ (n : Nat) (M : x_M) (v2 : Int32) (v3 : Int32) (H : Heap) (locs : List Loc) (ls : Array Slot), x_B D cy q ad x_spM 24 s H locs M → lv_has ls 6 [(0, .ref (q 0)), (2, .int v2), (3, .int v3)] → f_X12_ringOf_6 n M v2 v3 = some z → W p l e rm_X12_ringOf s m args below meth c H locs 0 0 Q (F0 m 6 ls []) := by
    intro n
    induction n with
    | zero =>
      intro M v2 v3 H locs ls hw hl h
      rw [f_X12_ringOf_6_0] at h
      cases h
    | succ n6 ih6 =>
      have w19 : ∀ (n : Nat) (M : x_M) (v2 : Int32) (v3 : Int32) (v4 : Int32) (v5 : Int32) (H : Heap) (locs : List Loc) (ls : Array Slot), x_B D cy q ad x_spM 24 s H locs M → lv_has ls 6 [(0, .ref (q 0)), (2, .int v2), (3, .int v3), (4, .int v4), (5, .int v5)] → f_X12_ringOf_19 (f_X12_ringOf_6 n6) n M v2 v3 v4 v5 = some z → W p l e rm_X12_ringOf s m args below meth c H locs 0 0 Q (F0 m 19 ls []) := by
        intro n
        induction n with
        | zero =>
          intro M v2 v3 v4 v5 H locs ls hw hl h
          rw [f_X12_ringOf_19_0] at h
          cases h
        | succ n19 ih19 =>
          have w60 : ∀ (M : x_M) (v2 : Int32) (v3 : Int32) (v5 : Int32) (t0 : Int32) (t1 : Int32) (H : Heap) (locs : List Loc) (ls : Array Slot), x_B D cy q ad x_spM 24 s H locs M → lv_has ls 6 [(0, .ref (q 0)), (2, .int v2), (3, .int v3), (5, .int v5)] → f_X12_ringOf_60 (f_X12_ringOf_6 n6) (f_X12_ringOf_19 (f_X12_ringOf_6 n6) n19) M v2 v3 v5 t0 t1 = some z → W p l e rm_X12_ringOf s m args below meth c H locs 0 0 Q (F0 m 60 ls [.int t1, .int t0]) := by
            intro M v2 v3 v5 t0 t1 H locs ls hw hl h
            unfold f_X12_ringOf_60 at h
            refine lv_ior hx hb dX12_ringOf_60 ?_
            refine lv_istore (lv' := [(4, .int _), (0, .ref (q 0)), (2, .int _), (3, .int _), (5, .int _)]) hx hb dX12_ringOf_61 hl (by decide) rfl (fun ls hl => ?_)
            refine lv_iinc (lv' := [(5, .int _), (4, .int _), (0, .ref (q 0)), (2, .int _), (3, .int _)]) hx hb dX12_ringOf_63 hl (k := 4) rfl (x_inc (show Int32.ofInt 1 = (nI 1) by decide) _) (by decide) rfl (fun ls hl => ?_)
            refine lv_goto (tgt := 19) hx hb dX12_ringOf_66 (by decide) ?_
            exact ih19 _ _ _ _ _ _ _ _ hw (lv_sub hl [2, 3, 4, 1, 0] rfl) h
          have w72 : ∀ (n : Nat) (M : x_M) (v2 : Int32) (v3 : Int32) (v4 : Int32) (v5 : Int32) (H : Heap) (locs : List Loc) (ls : Array Slot), x_B D cy q ad x_spM 24 s H locs M → lv_has ls 6 [(0, .ref (q 0)), (2, .int v2), (3, .int v3), (4, .int v4), (5, .int v5)] → f_X12_ringOf_72 (f_X12_ringOf_6 n6) n M v2 v3 v4 v5 = some z → W p l e rm_X12_ringOf s m args below meth c H locs 0 0 Q (F0 m 72 ls []) := by
            intro n
            induction n with
            | zero =>
              intro M v2 v3 v4 v5 H locs ls hw hl h
              rw [f_X12_ringOf_72_0] at h
              cases h
            | succ n72 ih72 =>
              have w112 : ∀ (M : x_M) (v3 : Int32) (v4 : Int32) (v5 : Int32) (t0 : Int32) (t1 : Int32) (H : Heap) (locs : List Loc) (ls : Array Slot), x_B D cy q ad x_spM 24 s H locs M → lv_has ls 6 [(0, .ref (q 0)), (3, .int v3), (4, .int v4), (5, .int v5)] → f_X12_ringOf_112 (f_X12_ringOf_6 n6) (f_X12_ringOf_72 (f_X12_ringOf_6 n6) n72) M v3 v4 v5 t0 t1 = some z → W p l e rm_X12_ringOf s m args below meth c H locs 0 0 Q (F0 m 112 ls [.int t1, .int t0]) := by
                intro M v3 v4 v5 t0 t1 H locs ls hw hl h
                unfold f_X12_ringOf_112 at h
                refine lv_ior hx hb dX12_ringOf_112 ?_
                refine lv_istore_n (lv' := [(2, .int _), (0, .ref (q 0)), (3, .int _), (4, .int _), (5, .int _)]) hx hb dX12_ringOf_113 rfl hl (by decide) rfl (fun ls hl => ?_)
                refine lv_iinc (lv' := [(5, .int _), (2, .int _), (0, .ref (q 0)), (3, .int _), (4, .int _)]) hx hb dX12_ringOf_114 hl (k := 4) rfl (x_inc (show Int32.ofInt 1 = (nI 1) by decide) _) (by decide) rfl (fun ls hl => ?_)
                refine lv_goto (tgt := 72) hx hb dX12_ringOf_117 (by decide) ?_
                exact ih72 _ _ _ _ _ _ _ _ hw (lv_sub hl [2, 1, 3, 4, 0] rfl) h
              intro M v2 v3 v4 v5 H locs ls hw hl h
              rw [f_X12_ringOf_72_s] at h
              refine lv_iload hx hb dX12_ringOf_72 (lv_at hl 4 rfl) ?_
              refine lv_aload_n hx hb dX12_ringOf_74 rfl (lv_at hl 0 rfl) ?_
              refine xh_getr C hw 0 0 sM_0 (x_lt hN rfl) rfl rfl rfl lk_RX12_7 dX12_ringOf_75 ?_
              refine lv_iconst (v := (nI 4)) hx hb dX12_ringOf_78 (by decide) ?_
              refine xh_iald C hw 1 5512 h sM_1 (x_lt hN rfl) dX12_ringOf_79 (fun r79 h => ?_)
              refine x_icmp_ge (tgt := 120) hx hb h dX12_ringOf_80 (by decide) (fun h => ?_) (fun h => ?_)
              · refine lv_goto (tgt := 6) hx hb dX12_ringOf_120 (by decide) ?_
                exact ih6 _ _ _ _ _ _ hw (lv_sub hl [0, 1, 2] rfl) h
              · refine lv_iload_n hx hb dX12_ringOf_83 rfl (lv_at hl 1 rfl) ?_
                refine lv_aload_n hx hb dX12_ringOf_84 rfl (lv_at hl 0 rfl) ?_
                refine xh_getr C hw 0 0 sM_0 (x_lt hN rfl) rfl rfl rfl lk_RX12_7 dX12_ringOf_85 ?_
                refine lv_bipush (v := (nI 20)) hx hb dX12_ringOf_88 (by decide) ?_
                refine lv_iconst (v := (nI 3)) hx hb dX12_ringOf_90 (by decide) ?_
                refine lv_iload hx hb dX12_ringOf_91 (lv_at hl 4 rfl) ?_
                refine lv_imul hx hb dX12_ringOf_93 ?_
                refine lv_iadd hx hb dX12_ringOf_94 ?_
                refine lv_iconst (v := (nI 1)) hx hb dX12_ringOf_95 (by decide) ?_
                refine lv_iadd hx hb dX12_ringOf_96 ?_
                refine xh_iald C hw 1 5512 h sM_1 (x_lt hN rfl) dX12_ringOf_97 (fun r97 h => ?_)
                refine lv_iload hx hb dX12_ringOf_98 (lv_at hl 3 rfl) ?_
                refine lv_iand hx hb dX12_ringOf_100 ?_
                refine x_if_eq (tgt := 111) hx hb h dX12_ringOf_101 (by decide) (fun h => ?_) (fun h => ?_)
                · refine lv_iconst (v := (nI 0)) hx hb dX12_ringOf_111 (by decide) ?_
                  exact w112 _ _ _ _ _ _ _ _ _ hw (lv_sub hl [0, 2, 3, 4] rfl) h
                · refine lv_iconst (v := (nI 1)) hx hb dX12_ringOf_104 (by decide) ?_
                  refine lv_iload hx hb dX12_ringOf_105 (lv_at hl 4 rfl) ?_
                  refine lv_ishl hx hb dX12_ringOf_107 ?_
                  refine lv_goto (tgt := 112) hx hb dX12_ringOf_108 (by decide) ?_
                  exact w112 _ _ _ _ _ _ _ _ _ hw (lv_sub hl [0, 2, 3, 4] rfl) h
          intro M v2 v3 v4 v5 H locs ls hw hl h
          rw [f_X12_ringOf_19_s] at h
          refine lv_iload hx hb dX12_ringOf_19 (lv_at hl 4 rfl) ?_
          refine lv_aload_n hx hb dX12_ringOf_21 rfl (lv_at hl 0 rfl) ?_
          refine xh_getr C hw 0 0 sM_0 (x_lt hN rfl) rfl rfl rfl lk_RX12_7 dX12_ringOf_22 ?_
          refine lv_iconst (v := (nI 4)) hx hb dX12_ringOf_25 (by decide) ?_
          refine xh_iald C hw 1 5512 h sM_1 (x_lt hN rfl) dX12_ringOf_26 (fun r26 h => ?_)
          refine x_icmp_ge (tgt := 69) hx hb h dX12_ringOf_27 (by decide) (fun h => ?_) (fun h => ?_)
          · refine lv_iconst (v := (nI 0)) hx hb dX12_ringOf_69 (by decide) ?_
            refine lv_istore (lv' := [(5, .int _), (0, .ref (q 0)), (2, .int _), (3, .int _), (4, .int _)]) hx hb dX12_ringOf_70 hl (by decide) rfl (fun ls hl => ?_)
            exact w72 _ _ _ _ _ _ _ _ _ hw (lv_sub hl [1, 2, 3, 4, 0] rfl) h
          · refine lv_iload hx hb dX12_ringOf_30 (lv_at hl 3 rfl) ?_
            refine lv_iload_n hx hb dX12_ringOf_32 rfl (lv_at hl 1 rfl) ?_
            refine lv_iload hx hb dX12_ringOf_33 (lv_at hl 4 rfl) ?_
            refine lv_ishr hx hb dX12_ringOf_35 ?_
            refine lv_iconst (v := (nI 1)) hx hb dX12_ringOf_36 (by decide) ?_
            refine lv_iand hx hb dX12_ringOf_37 ?_
            refine lv_iconst (v := (nI 1)) hx hb dX12_ringOf_38 (by decide) ?_
            refine x_icmp_ne (tgt := 59) hx hb h dX12_ringOf_39 (by decide) (fun h => ?_) (fun h => ?_)
            · refine lv_aload_n hx hb dX12_ringOf_42 rfl (lv_at hl 0 rfl) ?_
              refine xh_getr C hw 0 0 sM_0 (x_lt hN rfl) rfl rfl rfl lk_RX12_7 dX12_ringOf_43 ?_
              refine lv_bipush (v := (nI 20)) hx hb dX12_ringOf_46 (by decide) ?_
              refine lv_iconst (v := (nI 3)) hx hb dX12_ringOf_48 (by decide) ?_
              refine lv_iload hx hb dX12_ringOf_49 (lv_at hl 4 rfl) ?_
              refine lv_imul hx hb dX12_ringOf_51 ?_
              refine lv_iadd hx hb dX12_ringOf_52 ?_
              refine lv_iconst (v := (nI 1)) hx hb dX12_ringOf_53 (by decide) ?_
              refine lv_iadd hx hb dX12_ringOf_54 ?_
              refine xh_iald C hw 1 5512 h sM_1 (x_lt hN rfl) dX12_ringOf_55 (fun r55 h => ?_)
              refine lv_goto (tgt := 60) hx hb dX12_ringOf_56 (by decide) ?_
              exact w60 _ _ _ _ _ _ _ _ _ hw (lv_sub hl [0, 1, 2, 4] rfl) h
            · refine lv_iconst (v := (nI 0)) hx hb dX12_ringOf_59 (by decide) ?_
              exact w60 _ _ _ _ _ _ _ _ _ hw (lv_sub hl [0, 1, 2, 4] rfl) h
      intro M v2 v3 H locs ls hw hl h
      rw [f_X12_ringOf_6_s] at h
      refine lv_iload_n hx hb dX12_ringOf_6 rfl (lv_at hl 2 rfl) ?_
      refine lv_iload_n hx hb dX12_ringOf_7 rfl (lv_at hl 1 rfl) ?_
      refine x_icmp_eq (tgt := 123) hx hb h dX12_ringOf_8 (by decide) (fun h => ?_) (fun h => ?_)
      · refine lv_iload_n hx hb dX12_ringOf_123 rfl (lv_at hl 1 rfl) ?_
        exact hret dX12_ringOf_124 rfl hw h
      · refine lv_iload_n hx hb dX12_ringOf_11 rfl (lv_at hl 1 rfl) ?_
        refine lv_istore_n (lv' := [(3, .int _), (0, .ref (q 0)), (2, .int _)]) hx hb dX12_ringOf_12 rfl hl (by decide) rfl (fun ls hl => ?_)
        refine lv_iconst (v := (nI 0)) hx hb dX12_ringOf_13 (by decide) ?_
        refine lv_istore (lv' := [(4, .int _), (3, .int _), (0, .ref (q 0)), (2, .int _)]) hx hb dX12_ringOf_14 hl (by decide) rfl (fun ls hl => ?_)
        refine lv_iconst (v := (nI 0)) hx hb dX12_ringOf_16 (by decide) ?_
        refine lv_istore (lv' := [(5, .int _), (4, .int _), (3, .int _), (0, .ref (q 0)), (2, .int _)]) hx hb dX12_ringOf_17 hl (by decide) rfl (fun ls hl => ?_)
        exact w19 _ _ _ _ _ _ _ _ _ hw (lv_sub hl [3, 4, 2, 1, 0] rfl) h
  unfold f_X12_ringOf at h
  refine lv_iconst (v := (nI 1)) hx hb dX12_ringOf_0 (by decide) ?_
  refine lv_iload_n hx hb dX12_ringOf_1 rfl (lv_at hl 1 rfl) ?_
  refine lv_ishl hx hb dX12_ringOf_2 ?_
  refine lv_istore_n (lv' := [(2, .int _), (0, .ref (q 0)), (1, .int _)]) hx hb dX12_ringOf_3 rfl hl (by decide) rfl (fun ls hl => ?_)
  refine lv_iconst (v := (nI 0)) hx hb dX12_ringOf_4 (by decide) ?_
  refine lv_istore_n (lv' := [(3, .int _), (2, .int _), (0, .ref (q 0)), (1, .int _)]) hx hb dX12_ringOf_5 rfl hl (by decide) rfl (fun ls hl => ?_)
  exact w6 _ _ _ _ _ _ _ hw (lv_sub hl [2, 1, 0] rfl) h
def f_X12_ring_89 (k11 : x_M → Int32 → Int32 → Option (Int32 × x_M)) (M : x_M) (v2 : Int32) (v3 : Int32) : Option (Int32 × x_M) := k11 M v2 (v3 + (nI 1))
def f_X12_ring_34 (k11 : x_M → Int32 → Int32 → Option (Int32 × x_M)) : Nat → x_M → Int32 → Int32 → Int32 → Int32 → Int32 → Option (Int32 × x_M)
  | 0, _, _, _, _, _, _ => none
  | n + 1, M, v2, v3, v4, v5, v6 => if (nI 10) ≤ v6 then if v5 < (nI 3) then f_X12_ring_89 k11 M v2 v3 else if (v4 &&& (((nI 1) <<< (v3 &&& 31)) - (nI 1))) = 0 then if v2 = 0 then some (v4, M) else f_X12_ring_89 k11 M (v2 + (-1)) v3 else f_X12_ring_89 k11 M v2 v3 else (f_X12_ring_34 k11 n) M v2 v3 v4 (v5 + ((v4 >>> (v6 &&& 31)) &&& (nI 1))) (v6 + (nI 1))
theorem f_X12_ring_34_0 (k11 : x_M → Int32 → Int32 → Option (Int32 × x_M)) (M : x_M) (v2 : Int32) (v3 : Int32) (v4 : Int32) (v5 : Int32) (v6 : Int32) : f_X12_ring_34 k11 0 M v2 v3 v4 v5 v6 = none := rfl
theorem f_X12_ring_34_s (k11 : x_M → Int32 → Int32 → Option (Int32 × x_M)) (n : Nat) (M : x_M) (v2 : Int32) (v3 : Int32) (v4 : Int32) (v5 : Int32) (v6 : Int32) : f_X12_ring_34 k11 (n + 1) M v2 v3 v4 v5 v6 = (if (nI 10) ≤ v6 then if v5 < (nI 3) then f_X12_ring_89 k11 M v2 v3 else if (v4 &&& (((nI 1) <<< (v3 &&& 31)) - (nI 1))) = 0 then if v2 = 0 then some (v4, M) else f_X12_ring_89 k11 M (v2 + (-1)) v3 else f_X12_ring_89 k11 M v2 v3 else (f_X12_ring_34 k11 n) M v2 v3 v4 (v5 + ((v4 >>> (v6 &&& 31)) &&& (nI 1))) (v6 + (nI 1))) := rfl
def f_X12_ring_11 : Nat → x_M → Int32 → Int32 → Option (Int32 × x_M)
  | 0, _, _, _ => none
  | n + 1, M, v2, v3 => x_rd 5512 (M 1) (nI 4) (fun r17 => if r17 ≤ v3 then some ((-1000000005), M) else x_bn (f_X12_ringOf M v3) (fun r23 M => f_X12_ring_34 (f_X12_ring_11 n) x_FU M v2 v3 r23 (nI 0) (nI 0)))
theorem f_X12_ring_11_0 (M : x_M) (v2 : Int32) (v3 : Int32) : f_X12_ring_11 0 M v2 v3 = none := rfl
theorem f_X12_ring_11_s (n : Nat) (M : x_M) (v2 : Int32) (v3 : Int32) : f_X12_ring_11 (n + 1) M v2 v3 = (x_rd 5512 (M 1) (nI 4) (fun r17 => if r17 ≤ v3 then some ((-1000000005), M) else x_bn (f_X12_ringOf M v3) (fun r23 M => f_X12_ring_34 (f_X12_ring_11 n) x_FU M v2 v3 r23 (nI 0) (nI 0)))) := rfl
def f_X12_ring (M : x_M) (a1 : Int32) : Option (Int32 × x_M) := if 0 ≤ a1 then f_X12_ring_11 x_FU M a1 (nI 0) else some ((-1000000001), M)
abbrev rm_X12_ring : Room := { frames := 1, cells := 0, slots := 0, locals := 25 }
set_option maxHeartbeats 4000000 in
set_option maxRecDepth 100000 in
theorem c_X12_ring {l : Launch} {D : va_G} {cy : Nat → ClassId} {q ad : Nat → Nat} {s0 : State} (hq : x_Q q 24 s0.heap.size) {M : x_M} {a1 : Int32} {z : Int32 × x_M} (h : f_X12_ring M a1 = some z) : x_Ci l D cy q ad x_spM 24 s0 yX12_ring (x_uw yX12_ring cX12_ring 7 (some .int)) rm_X12_ring [.ref (q 0), .int a1] M z.1 z.2 := by
  have hN : 24 ≤ 24 := Nat.le_refl _
  refine x_meti hq (by decide) (Nat.le_of_ble_eq_true rfl) ?_
  intro p e s m args below meth c ls Q C hret hl hw
  have hx := C.1.1
  have hb := C.1.2.1
  have ho := C.1.2.2.2.1
  have hL := C.1.2.2.2.2
  have hl : lv_has ls 7 [(0, .ref (q 0)), (1, .int a1)] := hl
  have w11 : ∀ (n : Nat) (M : x_M) (v2 : Int32) (v3 : Int32) (H : Heap) (locs : List Loc) (ls : Array Slot), x_B D cy q ad x_spM 24 s H locs M → lv_has ls 7 [(0, .ref (q 0)), (2, .int v2), (3, .int v3)] → f_X12_ring_11 n M v2 v3 = some z → W p l e rm_X12_ring s m args below meth c H locs 0 0 Q (F0 m 11 ls []) := by
    intro n
    induction n with
    | zero =>
      intro M v2 v3 H locs ls hw hl h
      rw [f_X12_ring_11_0] at h
      cases h
    | succ n11 ih11 =>
      have w34 : ∀ (n : Nat) (M : x_M) (v2 : Int32) (v3 : Int32) (v4 : Int32) (v5 : Int32) (v6 : Int32) (H : Heap) (locs : List Loc) (ls : Array Slot), x_B D cy q ad x_spM 24 s H locs M → lv_has ls 7 [(0, .ref (q 0)), (2, .int v2), (3, .int v3), (4, .int v4), (5, .int v5), (6, .int v6)] → f_X12_ring_34 (f_X12_ring_11 n11) n M v2 v3 v4 v5 v6 = some z → W p l e rm_X12_ring s m args below meth c H locs 0 0 Q (F0 m 34 ls []) := by
        intro n
        induction n with
        | zero =>
          intro M v2 v3 v4 v5 v6 H locs ls hw hl h
          rw [f_X12_ring_34_0] at h
          cases h
        | succ n34 ih34 =>
          have w89 : ∀ (M : x_M) (v2 : Int32) (v3 : Int32) (H : Heap) (locs : List Loc) (ls : Array Slot), x_B D cy q ad x_spM 24 s H locs M → lv_has ls 7 [(0, .ref (q 0)), (2, .int v2), (3, .int v3)] → f_X12_ring_89 (f_X12_ring_11 n11) M v2 v3 = some z → W p l e rm_X12_ring s m args below meth c H locs 0 0 Q (F0 m 89 ls []) := by
            intro M v2 v3 H locs ls hw hl h
            unfold f_X12_ring_89 at h
            refine lv_iinc (lv' := [(3, .int _), (0, .ref (q 0)), (2, .int _)]) hx hb dX12_ring_89 hl (k := 2) rfl (x_inc (show Int32.ofInt 1 = (nI 1) by decide) _) (by decide) rfl (fun ls hl => ?_)
            refine lv_goto (tgt := 11) hx hb dX12_ring_92 (by decide) ?_
            exact ih11 _ _ _ _ _ _ hw (lv_sub hl [1, 2, 0] rfl) h
          intro M v2 v3 v4 v5 v6 H locs ls hw hl h
          rw [f_X12_ring_34_s] at h
          refine lv_iload hx hb dX12_ring_34 (lv_at hl 5 rfl) ?_
          refine lv_bipush (v := (nI 10)) hx hb dX12_ring_36 (by decide) ?_
          refine x_icmp_ge (tgt := 59) hx hb h dX12_ring_38 (by decide) (fun h => ?_) (fun h => ?_)
          · refine lv_iload hx hb dX12_ring_59 (lv_at hl 4 rfl) ?_
            refine lv_iconst (v := (nI 3)) hx hb dX12_ring_61 (by decide) ?_
            refine x_icmp_lt (tgt := 89) hx hb h dX12_ring_62 (by decide) (fun h => ?_) (fun h => ?_)
            · exact w89 _ _ _ _ _ _ hw (lv_sub hl [0, 1, 2] rfl) h
            · refine lv_iload hx hb dX12_ring_65 (lv_at hl 3 rfl) ?_
              refine lv_iconst (v := (nI 1)) hx hb dX12_ring_67 (by decide) ?_
              refine lv_iload_n hx hb dX12_ring_68 rfl (lv_at hl 2 rfl) ?_
              refine lv_ishl hx hb dX12_ring_69 ?_
              refine lv_iconst (v := (nI 1)) hx hb dX12_ring_70 (by decide) ?_
              refine lv_isub hx hb dX12_ring_71 ?_
              refine lv_iand hx hb dX12_ring_72 ?_
              refine x_if_eq (tgt := 79) hx hb h dX12_ring_73 (by decide) (fun h => ?_) (fun h => ?_)
              · refine lv_iload_n hx hb dX12_ring_79 rfl (lv_at hl 1 rfl) ?_
                refine x_if_ne (tgt := 86) hx hb h dX12_ring_80 (by decide) (fun h => ?_) (fun h => ?_)
                · refine lv_iload hx hb dX12_ring_83 (lv_at hl 3 rfl) ?_
                  exact hret dX12_ring_85 rfl hw h
                · refine lv_iinc (lv' := [(2, .int _), (0, .ref (q 0)), (3, .int _), (4, .int _), (5, .int _), (6, .int _)]) hx hb dX12_ring_86 hl (k := 1) rfl (x_inc (show Int32.ofInt (-1) = (-1) by decide) _) (by decide) rfl (fun ls hl => ?_)
                  exact w89 _ _ _ _ _ _ hw (lv_sub hl [1, 0, 2] rfl) h
              · refine lv_goto (tgt := 89) hx hb dX12_ring_76 (by decide) ?_
                exact w89 _ _ _ _ _ _ hw (lv_sub hl [0, 1, 2] rfl) h
          · refine lv_iload hx hb dX12_ring_41 (lv_at hl 4 rfl) ?_
            refine lv_iload hx hb dX12_ring_43 (lv_at hl 3 rfl) ?_
            refine lv_iload hx hb dX12_ring_45 (lv_at hl 5 rfl) ?_
            refine lv_ishr hx hb dX12_ring_47 ?_
            refine lv_iconst (v := (nI 1)) hx hb dX12_ring_48 (by decide) ?_
            refine lv_iand hx hb dX12_ring_49 ?_
            refine lv_iadd hx hb dX12_ring_50 ?_
            refine lv_istore (lv' := [(5, .int _), (0, .ref (q 0)), (2, .int _), (3, .int _), (4, .int _), (6, .int _)]) hx hb dX12_ring_51 hl (by decide) rfl (fun ls hl => ?_)
            refine lv_iinc (lv' := [(6, .int _), (5, .int _), (0, .ref (q 0)), (2, .int _), (3, .int _), (4, .int _)]) hx hb dX12_ring_53 hl (k := 5) rfl (x_inc (show Int32.ofInt 1 = (nI 1) by decide) _) (by decide) rfl (fun ls hl => ?_)
            refine lv_goto (tgt := 34) hx hb dX12_ring_56 (by decide) ?_
            exact ih34 _ _ _ _ _ _ _ _ _ hw (lv_sub hl [2, 3, 4, 5, 1, 0] rfl) h
      intro M v2 v3 H locs ls hw hl h
      rw [f_X12_ring_11_s] at h
      refine lv_iload_n hx hb dX12_ring_11 rfl (lv_at hl 2 rfl) ?_
      refine lv_aload_n hx hb dX12_ring_12 rfl (lv_at hl 0 rfl) ?_
      refine xh_getr C hw 0 0 sM_0 (x_lt hN rfl) rfl rfl rfl lk_RX12_7 dX12_ring_13 ?_
      refine lv_iconst (v := (nI 4)) hx hb dX12_ring_16 (by decide) ?_
      refine xh_iald C hw 1 5512 h sM_1 (x_lt hN rfl) dX12_ring_17 (fun r17 h => ?_)
      refine x_icmp_ge (tgt := 95) hx hb h dX12_ring_18 (by decide) (fun h => ?_) (fun h => ?_)
      · refine lv_ldc hx hb ho (hL _ kc_RX12_80) dX12_ring_95 ?_
        exact hret dX12_ring_97 rfl hw h
      · refine lv_aload_n hx hb dX12_ring_21 rfl (lv_at hl 0 rfl) ?_
        refine lv_iload_n hx hb dX12_ring_22 rfl (lv_at hl 2 rfl) ?_
        refine xh_cVi C hw (rest := []) h (fun _ hy => c_X12_ringOf hq hy) ml_RX12_282 mv_X12_ringOf sM_0 (x_lt hN rfl) rfl ⟨rfl, rfl, by decide, by decide⟩ rfl hl.1 rfl (Nat.le_of_ble_eq_true rfl) dX12_ring_23 (fun H locs r23 M hw h => ?_)
        refine lv_istore (lv' := [(4, .int _), (0, .ref (q 0)), (2, .int _), (3, .int _)]) hx hb dX12_ring_26 hl (by decide) rfl (fun ls hl => ?_)
        refine lv_iconst (v := (nI 0)) hx hb dX12_ring_28 (by decide) ?_
        refine lv_istore (lv' := [(5, .int _), (4, .int _), (0, .ref (q 0)), (2, .int _), (3, .int _)]) hx hb dX12_ring_29 hl (by decide) rfl (fun ls hl => ?_)
        refine lv_iconst (v := (nI 0)) hx hb dX12_ring_31 (by decide) ?_
        refine lv_istore (lv' := [(6, .int _), (5, .int _), (4, .int _), (0, .ref (q 0)), (2, .int _), (3, .int _)]) hx hb dX12_ring_32 hl (by decide) rfl (fun ls hl => ?_)
        exact w34 _ _ _ _ _ _ _ _ _ _ hw (lv_sub hl [3, 4, 5, 2, 1, 0] rfl) h
  unfold f_X12_ring at h
  refine lv_iload_n hx hb dX12_ring_0 rfl (lv_at hl 1 rfl) ?_
  refine x_if_ge (tgt := 7) hx hb h dX12_ring_1 (by decide) (fun h => ?_) (fun h => ?_)
  · refine lv_iload_n hx hb dX12_ring_7 rfl (lv_at hl 1 rfl) ?_
    refine lv_istore_n (lv' := [(2, .int _), (0, .ref (q 0)), (1, .int _)]) hx hb dX12_ring_8 rfl hl (by decide) rfl (fun ls hl => ?_)
    refine lv_iconst (v := (nI 0)) hx hb dX12_ring_9 (by decide) ?_
    refine lv_istore_n (lv' := [(3, .int _), (2, .int _), (0, .ref (q 0)), (1, .int _)]) hx hb dX12_ring_10 rfl hl (by decide) rfl (fun ls hl => ?_)
    exact w11 _ _ _ _ _ _ _ hw (lv_sub hl [2, 1, 0] rfl) h
  · refine lv_ldc hx hb ho (hL _ kc_RX12_85) dX12_ring_4 ?_
    exact hret dX12_ring_6 rfl hw h
def f_X12_keep_2 : Nat → x_M → Int32 → Option (Int32 × x_M)
  | 0, _, _ => none
  | n + 1, M, v1 => if (nI 5512) ≤ v1 then x_cz (nI 1) (x_pf M 0 2 (nI 1) (fun M => x_rd 5512 (M 1) (nI 0) (fun r37 => some (r37, M)))) else x_rd 5512 (M 1) v1 (fun r19 => x_wr 5512 M 2 v1 r19 (fun M => (f_X12_keep_2 n) M (v1 + (nI 1))))
theorem f_X12_keep_2_0 (M : x_M) (v1 : Int32) : f_X12_keep_2 0 M v1 = none := rfl
theorem f_X12_keep_2_s (n : Nat) (M : x_M) (v1 : Int32) : f_X12_keep_2 (n + 1) M v1 = (if (nI 5512) ≤ v1 then x_cz (nI 1) (x_pf M 0 2 (nI 1) (fun M => x_rd 5512 (M 1) (nI 0) (fun r37 => some (r37, M)))) else x_rd 5512 (M 1) v1 (fun r19 => x_wr 5512 M 2 v1 r19 (fun M => (f_X12_keep_2 n) M (v1 + (nI 1))))) := rfl
def f_X12_keep (M : x_M) : Option (Int32 × x_M) := f_X12_keep_2 x_FU M (nI 0)
abbrev rm_X12_keep : Room := { frames := 0, cells := 0, slots := 0, locals := 0 }
set_option maxHeartbeats 4000000 in
set_option maxRecDepth 100000 in
theorem c_X12_keep {l : Launch} {D : va_G} {cy : Nat → ClassId} {q ad : Nat → Nat} {s0 : State} (hq : x_Q q 24 s0.heap.size) {M : x_M} {z : Int32 × x_M} (h : f_X12_keep M = some z) : x_Ci l D cy q ad x_spM 24 s0 yX12_keep (x_uw yX12_keep cX12_keep 2 (some .int)) rm_X12_keep [.ref (q 0)] M z.1 z.2 := by
  have hN : 24 ≤ 24 := Nat.le_refl _
  refine x_meti hq (by decide) (Nat.le_of_ble_eq_true rfl) ?_
  intro p e s m args below meth c ls Q C hret hl hw
  have hx := C.1.1
  have hb := C.1.2.1
  have ho := C.1.2.2.2.1
  have hL := C.1.2.2.2.2
  have hl : lv_has ls 2 [(0, .ref (q 0))] := hl
  have w2 : ∀ (n : Nat) (M : x_M) (v1 : Int32) (H : Heap) (locs : List Loc) (ls : Array Slot), x_B D cy q ad x_spM 24 s H locs M → lv_has ls 2 [(0, .ref (q 0)), (1, .int v1)] → f_X12_keep_2 n M v1 = some z → W p l e rm_X12_keep s m args below meth c H locs 0 0 Q (F0 m 2 ls []) := by
    intro n
    induction n with
    | zero =>
      intro M v1 H locs ls hw hl h
      rw [f_X12_keep_2_0] at h
      cases h
    | succ n2 ih2 =>
      intro M v1 H locs ls hw hl h
      rw [f_X12_keep_2_s] at h
      refine lv_iload_n hx hb dX12_keep_2 rfl (lv_at hl 1 rfl) ?_
      refine lv_sipush (v := (nI 5512)) hx hb dX12_keep_3 (by decide) ?_
      refine x_icmp_ge (tgt := 27) hx hb h dX12_keep_6 (by decide) (fun h => ?_) (fun h => ?_)
      · refine lv_aload_n hx hb dX12_keep_27 rfl (lv_at hl 0 rfl) ?_
        refine lv_iconst (v := (nI 1)) hx hb dX12_keep_28 (by decide) ?_
        refine xh_putz C hw 0 2 h sM_0 (x_lt hN rfl) rfl rfl rfl lk_RX12_285 rfl rfl dX12_keep_29 (fun H locs M hw h => ?_)
        refine lv_aload_n hx hb dX12_keep_32 rfl (lv_at hl 0 rfl) ?_
        refine xh_getr C hw 0 0 sM_0 (x_lt hN rfl) rfl rfl rfl lk_RX12_7 dX12_keep_33 ?_
        refine lv_iconst (v := (nI 0)) hx hb dX12_keep_36 (by decide) ?_
        refine xh_iald C hw 1 5512 h sM_1 (x_lt hN rfl) dX12_keep_37 (fun r37 h => ?_)
        exact hret dX12_keep_38 rfl hw h
      · refine lv_aload_n hx hb dX12_keep_9 rfl (lv_at hl 0 rfl) ?_
        refine xh_getr C hw 0 1 sM_0 (x_lt hN rfl) rfl rfl rfl lk_RX12_13 dX12_keep_10 ?_
        refine lv_iload_n hx hb dX12_keep_13 rfl (lv_at hl 1 rfl) ?_
        refine lv_aload_n hx hb dX12_keep_14 rfl (lv_at hl 0 rfl) ?_
        refine xh_getr C hw 0 0 sM_0 (x_lt hN rfl) rfl rfl rfl lk_RX12_7 dX12_keep_15 ?_
        refine lv_iload_n hx hb dX12_keep_18 rfl (lv_at hl 1 rfl) ?_
        refine xh_iald C hw 1 5512 h sM_1 (x_lt hN rfl) dX12_keep_19 (fun r19 h => ?_)
        refine xh_iast C hw 2 5512 h sM_2 (x_lt hN rfl) dX12_keep_20 (fun H locs M hw h => ?_)
        refine lv_iinc (lv' := [(1, .int _), (0, .ref (q 0))]) hx hb dX12_keep_21 hl (k := 1) rfl (x_inc (show Int32.ofInt 1 = (nI 1) by decide) _) (by decide) rfl (fun ls hl => ?_)
        refine lv_goto (tgt := 2) hx hb dX12_keep_24 (by decide) ?_
        exact ih2 _ _ _ _ _ hw (lv_sub hl [1, 0] rfl) h
  unfold f_X12_keep at h
  refine lv_iconst (v := (nI 0)) hx hb dX12_keep_0 (by decide) ?_
  refine lv_istore_n (lv' := [(1, .int _), (0, .ref (q 0))]) hx hb dX12_keep_1 rfl hl (by decide) rfl (fun ls hl => ?_)
  exact w2 _ _ _ _ _ _ hw (lv_sub hl [1, 0] rfl) h
def f_X12_again_12 : Nat → x_M → Int32 → Option (Int32 × x_M)
  | 0, _, _ => none
  | n + 1, M, v1 => if (nI 5512) ≤ v1 then x_rd 5512 (M 1) (nI 0) (fun r42 => some (r42, M)) else x_rd 5512 (M 2) v1 (fun r29 => x_wr 5512 M 1 v1 r29 (fun M => (f_X12_again_12 n) M (v1 + (nI 1))))
theorem f_X12_again_12_0 (M : x_M) (v1 : Int32) : f_X12_again_12 0 M v1 = none := rfl
theorem f_X12_again_12_s (n : Nat) (M : x_M) (v1 : Int32) : f_X12_again_12 (n + 1) M v1 = (if (nI 5512) ≤ v1 then x_rd 5512 (M 1) (nI 0) (fun r42 => some (r42, M)) else x_rd 5512 (M 2) v1 (fun r29 => x_wr 5512 M 1 v1 r29 (fun M => (f_X12_again_12 n) M (v1 + (nI 1))))) := rfl
def f_X12_again (M : x_M) : Option (Int32 × x_M) := x_gf M 0 2 (fun r1 => if r1 = 0 then some ((-1000000002), M) else f_X12_again_12 x_FU M (nI 0))
abbrev rm_X12_again : Room := { frames := 0, cells := 0, slots := 0, locals := 0 }
set_option maxHeartbeats 4000000 in
set_option maxRecDepth 100000 in
theorem c_X12_again {l : Launch} {D : va_G} {cy : Nat → ClassId} {q ad : Nat → Nat} {s0 : State} (hq : x_Q q 24 s0.heap.size) {M : x_M} {z : Int32 × x_M} (h : f_X12_again M = some z) : x_Ci l D cy q ad x_spM 24 s0 yX12_again (x_uw yX12_again cX12_again 2 (some .int)) rm_X12_again [.ref (q 0)] M z.1 z.2 := by
  have hN : 24 ≤ 24 := Nat.le_refl _
  refine x_meti hq (by decide) (Nat.le_of_ble_eq_true rfl) ?_
  intro p e s m args below meth c ls Q C hret hl hw
  have hx := C.1.1
  have hb := C.1.2.1
  have ho := C.1.2.2.2.1
  have hL := C.1.2.2.2.2
  have hl : lv_has ls 2 [(0, .ref (q 0))] := hl
  have w12 : ∀ (n : Nat) (M : x_M) (v1 : Int32) (H : Heap) (locs : List Loc) (ls : Array Slot), x_B D cy q ad x_spM 24 s H locs M → lv_has ls 2 [(0, .ref (q 0)), (1, .int v1)] → f_X12_again_12 n M v1 = some z → W p l e rm_X12_again s m args below meth c H locs 0 0 Q (F0 m 12 ls []) := by
    intro n
    induction n with
    | zero =>
      intro M v1 H locs ls hw hl h
      rw [f_X12_again_12_0] at h
      cases h
    | succ n12 ih12 =>
      intro M v1 H locs ls hw hl h
      rw [f_X12_again_12_s] at h
      refine lv_iload_n hx hb dX12_again_12 rfl (lv_at hl 1 rfl) ?_
      refine lv_sipush (v := (nI 5512)) hx hb dX12_again_13 (by decide) ?_
      refine x_icmp_ge (tgt := 37) hx hb h dX12_again_16 (by decide) (fun h => ?_) (fun h => ?_)
      · refine lv_aload_n hx hb dX12_again_37 rfl (lv_at hl 0 rfl) ?_
        refine xh_getr C hw 0 0 sM_0 (x_lt hN rfl) rfl rfl rfl lk_RX12_7 dX12_again_38 ?_
        refine lv_iconst (v := (nI 0)) hx hb dX12_again_41 (by decide) ?_
        refine xh_iald C hw 1 5512 h sM_1 (x_lt hN rfl) dX12_again_42 (fun r42 h => ?_)
        exact hret dX12_again_43 rfl hw h
      · refine lv_aload_n hx hb dX12_again_19 rfl (lv_at hl 0 rfl) ?_
        refine xh_getr C hw 0 0 sM_0 (x_lt hN rfl) rfl rfl rfl lk_RX12_7 dX12_again_20 ?_
        refine lv_iload_n hx hb dX12_again_23 rfl (lv_at hl 1 rfl) ?_
        refine lv_aload_n hx hb dX12_again_24 rfl (lv_at hl 0 rfl) ?_
        refine xh_getr C hw 0 1 sM_0 (x_lt hN rfl) rfl rfl rfl lk_RX12_13 dX12_again_25 ?_
        refine lv_iload_n hx hb dX12_again_28 rfl (lv_at hl 1 rfl) ?_
        refine xh_iald C hw 2 5512 h sM_2 (x_lt hN rfl) dX12_again_29 (fun r29 h => ?_)
        refine xh_iast C hw 1 5512 h sM_1 (x_lt hN rfl) dX12_again_30 (fun H locs M hw h => ?_)
        refine lv_iinc (lv' := [(1, .int _), (0, .ref (q 0))]) hx hb dX12_again_31 hl (k := 1) rfl (x_inc (show Int32.ofInt 1 = (nI 1) by decide) _) (by decide) rfl (fun ls hl => ?_)
        refine lv_goto (tgt := 12) hx hb dX12_again_34 (by decide) ?_
        exact ih12 _ _ _ _ _ hw (lv_sub hl [1, 0] rfl) h
  unfold f_X12_again at h
  refine lv_aload_n hx hb dX12_again_0 rfl (lv_at hl 0 rfl) ?_
  refine xh_geti C hw 0 2 h sM_0 (x_lt hN rfl) rfl rfl rfl lk_RX12_285 dX12_again_1 (fun r1 h => ?_)
  refine x_if_ne (tgt := 10) hx hb h dX12_again_4 (by decide) (fun h => ?_) (fun h => ?_)
  · refine lv_ldc hx hb ho (hL _ kc_RX12_111) dX12_again_7 ?_
    exact hret dX12_again_9 rfl hw h
  · refine lv_iconst (v := (nI 0)) hx hb dX12_again_10 (by decide) ?_
    refine lv_istore_n (lv' := [(1, .int _), (0, .ref (q 0))]) hx hb dX12_again_11 rfl hl (by decide) rfl (fun ls hl => ?_)
    exact w12 _ _ _ _ _ _ hw (lv_sub hl [1, 0] rfl) h
def f_X12_sheet_15 (M : x_M) : Option (Int32 × x_M) := some ((-1000000001), M)
def f_X12_sheet_35 : Nat → x_M → Int32 → Int32 → Int32 → Option (Int32 × x_M)
  | 0, _, _, _, _ => none
  | n + 1, M, v1, v2, v3 => if v2 ≤ v3 then some (v2, M) else x_wr 32 M 21 (((nI 16) * v1) + v3) (nI 0) (fun M => (f_X12_sheet_35 n) M v1 v2 (v3 + (nI 1)))
theorem f_X12_sheet_35_0 (M : x_M) (v1 : Int32) (v2 : Int32) (v3 : Int32) : f_X12_sheet_35 0 M v1 v2 v3 = none := rfl
theorem f_X12_sheet_35_s (n : Nat) (M : x_M) (v1 : Int32) (v2 : Int32) (v3 : Int32) : f_X12_sheet_35 (n + 1) M v1 v2 v3 = (if v2 ≤ v3 then some (v2, M) else x_wr 32 M 21 (((nI 16) * v1) + v3) (nI 0) (fun M => (f_X12_sheet_35 n) M v1 v2 (v3 + (nI 1)))) := rfl
def f_X12_sheet (M : x_M) (a1 : Int32) (a2 : Int32) : Option (Int32 × x_M) := x_bn (f_X12_in M a1 (nI 0) (nI 1)) (fun r3 M => if r3 = 0 then f_X12_sheet_15 M else if a2 ≤ (nI 16) then if 0 ≤ a2 then x_wr 2 M 22 a1 a2 (fun M => f_X12_sheet_35 x_FU M a1 a2 (nI 0)) else some ((-1000000014), M) else f_X12_sheet_15 M)
abbrev rm_X12_sheet : Room := { frames := 1, cells := 0, slots := 0, locals := 22 }
set_option maxHeartbeats 4000000 in
set_option maxRecDepth 100000 in
theorem c_X12_sheet {l : Launch} {D : va_G} {cy : Nat → ClassId} {q ad : Nat → Nat} {s0 : State} (hq : x_Q q 24 s0.heap.size) {M : x_M} {a1 : Int32} {a2 : Int32} {z : Int32 × x_M} (h : f_X12_sheet M a1 a2 = some z) : x_Ci l D cy q ad x_spM 24 s0 yX12_sheet (x_uw yX12_sheet cX12_sheet 4 (some .int)) rm_X12_sheet [.ref (q 0), .int a1, .int a2] M z.1 z.2 := by
  have hN : 24 ≤ 24 := Nat.le_refl _
  refine x_meti hq (by decide) (Nat.le_of_ble_eq_true rfl) ?_
  intro p e s m args below meth c ls Q C hret hl hw
  have hx := C.1.1
  have hb := C.1.2.1
  have ho := C.1.2.2.2.1
  have hL := C.1.2.2.2.2
  have hl : lv_has ls 4 [(0, .ref (q 0)), (1, .int a1), (2, .int a2)] := hl
  have w15 : ∀ (M : x_M) (H : Heap) (locs : List Loc) (ls : Array Slot), x_B D cy q ad x_spM 24 s H locs M → lv_has ls 4 [] → f_X12_sheet_15 M = some z → W p l e rm_X12_sheet s m args below meth c H locs 0 0 Q (F0 m 15 ls []) := by
    intro M H locs ls hw hl h
    unfold f_X12_sheet_15 at h
    refine lv_ldc hx hb ho (hL _ kc_RX12_85) dX12_sheet_15 ?_
    exact hret dX12_sheet_17 rfl hw h
  have w35 : ∀ (n : Nat) (M : x_M) (v1 : Int32) (v2 : Int32) (v3 : Int32) (H : Heap) (locs : List Loc) (ls : Array Slot), x_B D cy q ad x_spM 24 s H locs M → lv_has ls 4 [(0, .ref (q 0)), (1, .int v1), (2, .int v2), (3, .int v3)] → f_X12_sheet_35 n M v1 v2 v3 = some z → W p l e rm_X12_sheet s m args below meth c H locs 0 0 Q (F0 m 35 ls []) := by
    intro n
    induction n with
    | zero =>
      intro M v1 v2 v3 H locs ls hw hl h
      rw [f_X12_sheet_35_0] at h
      cases h
    | succ n35 ih35 =>
      intro M v1 v2 v3 H locs ls hw hl h
      rw [f_X12_sheet_35_s] at h
      refine lv_iload_n hx hb dX12_sheet_35 rfl (lv_at hl 3 rfl) ?_
      refine lv_iload_n hx hb dX12_sheet_36 rfl (lv_at hl 2 rfl) ?_
      refine x_icmp_ge (tgt := 58) hx hb h dX12_sheet_37 (by decide) (fun h => ?_) (fun h => ?_)
      · refine lv_iload_n hx hb dX12_sheet_58 rfl (lv_at hl 2 rfl) ?_
        exact hret dX12_sheet_59 rfl hw h
      · refine lv_aload_n hx hb dX12_sheet_40 rfl (lv_at hl 0 rfl) ?_
        refine xh_getr C hw 0 36 sM_0 (x_lt hN rfl) rfl rfl rfl lk_RX12_71 dX12_sheet_41 ?_
        refine lv_bipush (v := (nI 16)) hx hb dX12_sheet_44 (by decide) ?_
        refine lv_iload_n hx hb dX12_sheet_46 rfl (lv_at hl 1 rfl) ?_
        refine lv_imul hx hb dX12_sheet_47 ?_
        refine lv_iload_n hx hb dX12_sheet_48 rfl (lv_at hl 3 rfl) ?_
        refine lv_iadd hx hb dX12_sheet_49 ?_
        refine lv_iconst (v := (nI 0)) hx hb dX12_sheet_50 (by decide) ?_
        refine xh_iast C hw 21 32 h sM_21 (x_lt hN rfl) dX12_sheet_51 (fun H locs M hw h => ?_)
        refine lv_iinc (lv' := [(3, .int _), (0, .ref (q 0)), (1, .int _), (2, .int _)]) hx hb dX12_sheet_52 hl (k := 3) rfl (x_inc (show Int32.ofInt 1 = (nI 1) by decide) _) (by decide) rfl (fun ls hl => ?_)
        refine lv_goto (tgt := 35) hx hb dX12_sheet_55 (by decide) ?_
        exact ih35 _ _ _ _ _ _ _ hw (lv_sub hl [1, 2, 3, 0] rfl) h
  unfold f_X12_sheet at h
  refine lv_iload_n hx hb dX12_sheet_0 rfl (lv_at hl 1 rfl) ?_
  refine lv_iconst (v := (nI 0)) hx hb dX12_sheet_1 (by decide) ?_
  refine lv_iconst (v := (nI 1)) hx hb dX12_sheet_2 (by decide) ?_
  refine xh_cSi C hw (rest := []) h (fun _ hy => c_X12_in hq hy) ml_RX12_81 st_X12_in ⟨rfl, rfl, by decide, by decide⟩ rfl hl.1 rfl (Nat.le_of_ble_eq_true rfl) dX12_sheet_3 (fun H locs r3 M hw h => ?_)
  refine x_if_eq (tgt := 15) hx hb h dX12_sheet_6 (by decide) (fun h => ?_) (fun h => ?_)
  · exact w15 _ _ _ _ hw (lv_sub hl [] rfl) h
  · refine lv_iload_n hx hb dX12_sheet_9 rfl (lv_at hl 2 rfl) ?_
    refine lv_bipush (v := (nI 16)) hx hb dX12_sheet_10 (by decide) ?_
    refine x_icmp_le (tgt := 18) hx hb h dX12_sheet_12 (by decide) (fun h => ?_) (fun h => ?_)
    · refine lv_iload_n hx hb dX12_sheet_18 rfl (lv_at hl 2 rfl) ?_
      refine x_if_ge (tgt := 26) hx hb h dX12_sheet_19 (by decide) (fun h => ?_) (fun h => ?_)
      · refine lv_aload_n hx hb dX12_sheet_26 rfl (lv_at hl 0 rfl) ?_
        refine xh_getr C hw 0 37 sM_0 (x_lt hN rfl) rfl rfl rfl lk_RX12_74 dX12_sheet_27 ?_
        refine lv_iload_n hx hb dX12_sheet_30 rfl (lv_at hl 1 rfl) ?_
        refine lv_iload_n hx hb dX12_sheet_31 rfl (lv_at hl 2 rfl) ?_
        refine xh_iast C hw 22 2 h sM_22 (x_lt hN rfl) dX12_sheet_32 (fun H locs M hw h => ?_)
        refine lv_iconst (v := (nI 0)) hx hb dX12_sheet_33 (by decide) ?_
        refine lv_istore_n (lv' := [(3, .int _), (0, .ref (q 0)), (1, .int _), (2, .int _)]) hx hb dX12_sheet_34 rfl hl (by decide) rfl (fun ls hl => ?_)
        exact w35 _ _ _ _ _ _ _ _ hw (lv_sub hl [1, 2, 3, 0] rfl) h
      · refine lv_ldcw hx hb ho (hL _ kc_RX12_288) dX12_sheet_22 ?_
        exact hret dX12_sheet_25 rfl hw h
    · exact w15 _ _ _ _ hw (lv_sub hl [] rfl) h
def f_X12_mark (M : x_M) (a1 : Int32) (a2 : Int32) (a3 : Int32) : Option (Int32 × x_M) := x_bn (f_X12_in M a1 (nI 0) (nI 1)) (fun r3 M => if r3 = 0 then some ((-1000000001), M) else x_rd 2 (M 22) a1 (fun r17 => if r17 = (-1) then some ((-1000000011), M) else x_rd 2 (M 22) a1 (fun r32 => x_bn (f_X12_in M a2 (nI 0) (r32 - (nI 1))) (fun r35 M => if r35 = 0 then some ((-1000000013), M) else x_rd 32 (M 21) (((nI 16) * a1) + a2) (fun r55 => x_wr 32 M 21 (((nI 16) * a1) + a2) ((a3).toInt16.toInt32) (fun M => some (r55, M)))))))
abbrev rm_X12_mark : Room := { frames := 1, cells := 0, slots := 0, locals := 22 }
set_option maxHeartbeats 4000000 in
set_option maxRecDepth 100000 in
theorem c_X12_mark {l : Launch} {D : va_G} {cy : Nat → ClassId} {q ad : Nat → Nat} {s0 : State} (hq : x_Q q 24 s0.heap.size) {M : x_M} {a1 : Int32} {a2 : Int32} {a3 : Int32} {z : Int32 × x_M} (h : f_X12_mark M a1 a2 a3 = some z) : x_Ci l D cy q ad x_spM 24 s0 yX12_mark (x_uw yX12_mark cX12_mark 5 (some .int)) rm_X12_mark [.ref (q 0), .int a1, .int a2, .int a3] M z.1 z.2 := by
  have hN : 24 ≤ 24 := Nat.le_refl _
  refine x_meti hq (by decide) (Nat.le_of_ble_eq_true rfl) ?_
  intro p e s m args below meth c ls Q C hret hl hw
  have hx := C.1.1
  have hb := C.1.2.1
  have ho := C.1.2.2.2.1
  have hL := C.1.2.2.2.2
  have hl : lv_has ls 5 [(0, .ref (q 0)), (1, .int a1), (2, .int a2), (3, .int a3)] := hl
  unfold f_X12_mark at h
  refine lv_iload_n hx hb dX12_mark_0 rfl (lv_at hl 1 rfl) ?_
  refine lv_iconst (v := (nI 0)) hx hb dX12_mark_1 (by decide) ?_
  refine lv_iconst (v := (nI 1)) hx hb dX12_mark_2 (by decide) ?_
  refine xh_cSi C hw (rest := []) h (fun _ hy => c_X12_in hq hy) ml_RX12_81 st_X12_in ⟨rfl, rfl, by decide, by decide⟩ rfl hl.1 rfl (Nat.le_of_ble_eq_true rfl) dX12_mark_3 (fun H locs r3 M hw h => ?_)
  refine x_if_ne (tgt := 12) hx hb h dX12_mark_6 (by decide) (fun h => ?_) (fun h => ?_)
  · refine lv_ldc hx hb ho (hL _ kc_RX12_85) dX12_mark_9 ?_
    exact hret dX12_mark_11 rfl hw h
  · refine lv_aload_n hx hb dX12_mark_12 rfl (lv_at hl 0 rfl) ?_
    refine xh_getr C hw 0 37 sM_0 (x_lt hN rfl) rfl rfl rfl lk_RX12_74 dX12_mark_13 ?_
    refine lv_iload_n hx hb dX12_mark_16 rfl (lv_at hl 1 rfl) ?_
    refine xh_iald C hw 22 2 h sM_22 (x_lt hN rfl) dX12_mark_17 (fun r17 h => ?_)
    refine lv_iconst (v := (-1)) hx hb dX12_mark_18 (by decide) ?_
    refine x_icmp_ne (tgt := 25) hx hb h dX12_mark_19 (by decide) (fun h => ?_) (fun h => ?_)
    · refine lv_ldc hx hb ho (hL _ kc_RX12_95) dX12_mark_22 ?_
      exact hret dX12_mark_24 rfl hw h
    · refine lv_iload_n hx hb dX12_mark_25 rfl (lv_at hl 2 rfl) ?_
      refine lv_iconst (v := (nI 0)) hx hb dX12_mark_26 (by decide) ?_
      refine lv_aload_n hx hb dX12_mark_27 rfl (lv_at hl 0 rfl) ?_
      refine xh_getr C hw 0 37 sM_0 (x_lt hN rfl) rfl rfl rfl lk_RX12_74 dX12_mark_28 ?_
      refine lv_iload_n hx hb dX12_mark_31 rfl (lv_at hl 1 rfl) ?_
      refine xh_iald C hw 22 2 h sM_22 (x_lt hN rfl) dX12_mark_32 (fun r32 h => ?_)
      refine lv_iconst (v := (nI 1)) hx hb dX12_mark_33 (by decide) ?_
      refine lv_isub hx hb dX12_mark_34 ?_
      refine xh_cSi C hw (rest := []) h (fun _ hy => c_X12_in hq hy) ml_RX12_81 st_X12_in ⟨rfl, rfl, by decide, by decide⟩ rfl hl.1 rfl (Nat.le_of_ble_eq_true rfl) dX12_mark_35 (fun H locs r35 M hw h => ?_)
      refine x_if_ne (tgt := 45) hx hb h dX12_mark_38 (by decide) (fun h => ?_) (fun h => ?_)
      · refine lv_ldcw hx hb ho (hL _ kc_RX12_289) dX12_mark_41 ?_
        exact hret dX12_mark_44 rfl hw h
      · refine lv_aload_n hx hb dX12_mark_45 rfl (lv_at hl 0 rfl) ?_
        refine xh_getr C hw 0 36 sM_0 (x_lt hN rfl) rfl rfl rfl lk_RX12_71 dX12_mark_46 ?_
        refine lv_bipush (v := (nI 16)) hx hb dX12_mark_49 (by decide) ?_
        refine lv_iload_n hx hb dX12_mark_51 rfl (lv_at hl 1 rfl) ?_
        refine lv_imul hx hb dX12_mark_52 ?_
        refine lv_iload_n hx hb dX12_mark_53 rfl (lv_at hl 2 rfl) ?_
        refine lv_iadd hx hb dX12_mark_54 ?_
        refine xh_iald C hw 21 32 h sM_21 (x_lt hN rfl) dX12_mark_55 (fun r55 h => ?_)
        refine lv_istore (lv' := [(4, .int _), (0, .ref (q 0)), (1, .int _), (2, .int _), (3, .int _)]) hx hb dX12_mark_56 hl (by decide) rfl (fun ls hl => ?_)
        refine lv_aload_n hx hb dX12_mark_58 rfl (lv_at hl 1 rfl) ?_
        refine xh_getr C hw 0 36 sM_0 (x_lt hN rfl) rfl rfl rfl lk_RX12_71 dX12_mark_59 ?_
        refine lv_bipush (v := (nI 16)) hx hb dX12_mark_62 (by decide) ?_
        refine lv_iload_n hx hb dX12_mark_64 rfl (lv_at hl 2 rfl) ?_
        refine lv_imul hx hb dX12_mark_65 ?_
        refine lv_iload_n hx hb dX12_mark_66 rfl (lv_at hl 3 rfl) ?_
        refine lv_iadd hx hb dX12_mark_67 ?_
        refine lv_iload_n hx hb dX12_mark_68 rfl (lv_at hl 4 rfl) ?_
        refine lv_i2s hx hb dX12_mark_69 rfl ?_
        refine xh_iast C hw 21 32 h sM_21 (x_lt hN rfl) dX12_mark_70 (fun H locs M hw h => ?_)
        refine lv_iload hx hb dX12_mark_71 (lv_at hl 0 rfl) ?_
        exact hret dX12_mark_73 rfl hw h
def f_X12_copy_18 (M : x_M) : Option (Int32 × x_M) := some ((-1000000001), M)
def f_X12_copy_41 (M : x_M) : Option (Int32 × x_M) := some ((-1000000011), M)
def f_X12_copy_85 (M : x_M) : Option (Int32 × x_M) := some ((-1000000013), M)
def f_X12_copy_129 : Nat → x_M → Int32 → Int32 → Int32 → Int32 → Option (Int32 × x_M)
  | 0, _, _, _, _, _ => none
  | n + 1, M, v3, v4, v5, v6 => if v5 ≤ v6 then some (v5, M) else x_rd 16 (M 23) v6 (fun r156 => x_wr 32 M 21 ((((nI 16) * v3) + v4) + v6) r156 (fun M => (f_X12_copy_129 n) M v3 v4 v5 (v6 + (nI 1))))
theorem f_X12_copy_129_0 (M : x_M) (v3 : Int32) (v4 : Int32) (v5 : Int32) (v6 : Int32) : f_X12_copy_129 0 M v3 v4 v5 v6 = none := rfl
theorem f_X12_copy_129_s (n : Nat) (M : x_M) (v3 : Int32) (v4 : Int32) (v5 : Int32) (v6 : Int32) : f_X12_copy_129 (n + 1) M v3 v4 v5 v6 = (if v5 ≤ v6 then some (v5, M) else x_rd 16 (M 23) v6 (fun r156 => x_wr 32 M 21 ((((nI 16) * v3) + v4) + v6) r156 (fun M => (f_X12_copy_129 n) M v3 v4 v5 (v6 + (nI 1))))) := rfl
def f_X12_copy_92 : Nat → x_M → Int32 → Int32 → Int32 → Int32 → Int32 → Int32 → Option (Int32 × x_M)
  | 0, _, _, _, _, _, _, _ => none
  | n + 1, M, v1, v2, v3, v4, v5, v6 => if v5 ≤ v6 then f_X12_copy_129 x_FU M v3 v4 v5 (nI 0) else x_rd 32 (M 21) ((((nI 16) * v1) + v2) + v6) (fun r118 => x_wr 16 M 23 v6 r118 (fun M => (f_X12_copy_92 n) M v1 v2 v3 v4 v5 (v6 + (nI 1))))
theorem f_X12_copy_92_0 (M : x_M) (v1 : Int32) (v2 : Int32) (v3 : Int32) (v4 : Int32) (v5 : Int32) (v6 : Int32) : f_X12_copy_92 0 M v1 v2 v3 v4 v5 v6 = none := rfl
theorem f_X12_copy_92_s (n : Nat) (M : x_M) (v1 : Int32) (v2 : Int32) (v3 : Int32) (v4 : Int32) (v5 : Int32) (v6 : Int32) : f_X12_copy_92 (n + 1) M v1 v2 v3 v4 v5 v6 = (if v5 ≤ v6 then f_X12_copy_129 x_FU M v3 v4 v5 (nI 0) else x_rd 32 (M 21) ((((nI 16) * v1) + v2) + v6) (fun r118 => x_wr 16 M 23 v6 r118 (fun M => (f_X12_copy_92 n) M v1 v2 v3 v4 v5 (v6 + (nI 1))))) := rfl
def f_X12_copy (M : x_M) (a1 : Int32) (a2 : Int32) (a3 : Int32) (a4 : Int32) (a5 : Int32) : Option (Int32 × x_M) := x_bn (f_X12_in M a1 (nI 0) (nI 1)) (fun r3 M => if r3 = 0 then f_X12_copy_18 M else x_bn (f_X12_in M a3 (nI 0) (nI 1)) (fun r12 M => if r12 = 0 then f_X12_copy_18 M else x_rd 2 (M 22) a1 (fun r26 => if r26 = (-1) then f_X12_copy_41 M else x_rd 2 (M 22) a3 (fun r36 => if r36 = (-1) then f_X12_copy_41 M else if a2 < 0 then f_X12_copy_85 M else if a4 < 0 then f_X12_copy_85 M else if a5 < 0 then f_X12_copy_85 M else x_rd 2 (M 22) a1 (fun r64 => if (r64 - a5) < a2 then f_X12_copy_85 M else x_rd 2 (M 22) a3 (fun r78 => if a4 ≤ (r78 - a5) then f_X12_copy_92 x_FU M a1 a2 a3 a4 a5 (nI 0) else f_X12_copy_85 M))))))
abbrev rm_X12_copy : Room := { frames := 1, cells := 0, slots := 0, locals := 22 }
set_option maxHeartbeats 4000000 in
set_option maxRecDepth 100000 in
theorem c_X12_copy {l : Launch} {D : va_G} {cy : Nat → ClassId} {q ad : Nat → Nat} {s0 : State} (hq : x_Q q 24 s0.heap.size) {M : x_M} {a1 : Int32} {a2 : Int32} {a3 : Int32} {a4 : Int32} {a5 : Int32} {z : Int32 × x_M} (h : f_X12_copy M a1 a2 a3 a4 a5 = some z) : x_Ci l D cy q ad x_spM 24 s0 yX12_copy (x_uw yX12_copy cX12_copy 7 (some .int)) rm_X12_copy [.ref (q 0), .int a1, .int a2, .int a3, .int a4, .int a5] M z.1 z.2 := by
  have hN : 24 ≤ 24 := Nat.le_refl _
  refine x_meti hq (by decide) (Nat.le_of_ble_eq_true rfl) ?_
  intro p e s m args below meth c ls Q C hret hl hw
  have hx := C.1.1
  have hb := C.1.2.1
  have ho := C.1.2.2.2.1
  have hL := C.1.2.2.2.2
  have hl : lv_has ls 7 [(0, .ref (q 0)), (1, .int a1), (2, .int a2), (3, .int a3), (4, .int a4), (5, .int a5)] := hl
  have w18 : ∀ (M : x_M) (H : Heap) (locs : List Loc) (ls : Array Slot), x_B D cy q ad x_spM 24 s H locs M → lv_has ls 7 [] → f_X12_copy_18 M = some z → W p l e rm_X12_copy s m args below meth c H locs 0 0 Q (F0 m 18 ls []) := by
    intro M H locs ls hw hl h
    unfold f_X12_copy_18 at h
    refine lv_ldc hx hb ho (hL _ kc_RX12_85) dX12_copy_18 ?_
    exact hret dX12_copy_20 rfl hw h
  have w41 : ∀ (M : x_M) (H : Heap) (locs : List Loc) (ls : Array Slot), x_B D cy q ad x_spM 24 s H locs M → lv_has ls 7 [] → f_X12_copy_41 M = some z → W p l e rm_X12_copy s m args below meth c H locs 0 0 Q (F0 m 41 ls []) := by
    intro M H locs ls hw hl h
    unfold f_X12_copy_41 at h
    refine lv_ldc hx hb ho (hL _ kc_RX12_95) dX12_copy_41 ?_
    exact hret dX12_copy_43 rfl hw h
  have w85 : ∀ (M : x_M) (H : Heap) (locs : List Loc) (ls : Array Slot), x_B D cy q ad x_spM 24 s H locs M → lv_has ls 7 [] → f_X12_copy_85 M = some z → W p l e rm_X12_copy s m args below meth c H locs 0 0 Q (F0 m 85 ls []) := by
    intro M H locs ls hw hl h
    unfold f_X12_copy_85 at h
    refine lv_ldcw hx hb ho (hL _ kc_RX12_289) dX12_copy_85 ?_
    exact hret dX12_copy_88 rfl hw h
  have w92 : ∀ (n : Nat) (M : x_M) (v1 : Int32) (v2 : Int32) (v3 : Int32) (v4 : Int32) (v5 : Int32) (v6 : Int32) (H : Heap) (locs : List Loc) (ls : Array Slot), x_B D cy q ad x_spM 24 s H locs M → lv_has ls 7 [(0, .ref (q 0)), (1, .int v1), (2, .int v2), (3, .int v3), (4, .int v4), (5, .int v5), (6, .int v6)] → f_X12_copy_92 n M v1 v2 v3 v4 v5 v6 = some z → W p l e rm_X12_copy s m args below meth c H locs 0 0 Q (F0 m 92 ls []) := by
    intro n
    induction n with
    | zero =>
      intro M v1 v2 v3 v4 v5 v6 H locs ls hw hl h
      rw [f_X12_copy_92_0] at h
      cases h
    | succ n92 ih92 =>
      have w129 : ∀ (n : Nat) (M : x_M) (v3 : Int32) (v4 : Int32) (v5 : Int32) (v6 : Int32) (H : Heap) (locs : List Loc) (ls : Array Slot), x_B D cy q ad x_spM 24 s H locs M → lv_has ls 7 [(0, .ref (q 0)), (3, .int v3), (4, .int v4), (5, .int v5), (6, .int v6)] → f_X12_copy_129 n M v3 v4 v5 v6 = some z → W p l e rm_X12_copy s m args below meth c H locs 0 0 Q (F0 m 129 ls []) := by
        intro n
        induction n with
        | zero =>
          intro M v3 v4 v5 v6 H locs ls hw hl h
          rw [f_X12_copy_129_0] at h
          cases h
        | succ n129 ih129 =>
          intro M v3 v4 v5 v6 H locs ls hw hl h
          rw [f_X12_copy_129_s] at h
          refine lv_iload hx hb dX12_copy_129 (lv_at hl 4 rfl) ?_
          refine lv_iload hx hb dX12_copy_131 (lv_at hl 3 rfl) ?_
          refine x_icmp_ge (tgt := 164) hx hb h dX12_copy_133 (by decide) (fun h => ?_) (fun h => ?_)
          · refine lv_iload hx hb dX12_copy_164 (lv_at hl 3 rfl) ?_
            exact hret dX12_copy_166 rfl hw h
          · refine lv_aload_n hx hb dX12_copy_136 rfl (lv_at hl 0 rfl) ?_
            refine xh_getr C hw 0 36 sM_0 (x_lt hN rfl) rfl rfl rfl lk_RX12_71 dX12_copy_137 ?_
            refine lv_bipush (v := (nI 16)) hx hb dX12_copy_140 (by decide) ?_
            refine lv_iload_n hx hb dX12_copy_142 rfl (lv_at hl 1 rfl) ?_
            refine lv_imul hx hb dX12_copy_143 ?_
            refine lv_iload hx hb dX12_copy_144 (lv_at hl 2 rfl) ?_
            refine lv_iadd hx hb dX12_copy_146 ?_
            refine lv_iload hx hb dX12_copy_147 (lv_at hl 4 rfl) ?_
            refine lv_iadd hx hb dX12_copy_149 ?_
            refine lv_aload_n hx hb dX12_copy_150 rfl (lv_at hl 0 rfl) ?_
            refine xh_getr C hw 0 38 sM_0 (x_lt hN rfl) rfl rfl rfl lk_RX12_77 dX12_copy_151 ?_
            refine lv_iload hx hb dX12_copy_154 (lv_at hl 4 rfl) ?_
            refine xh_iald C hw 23 16 h sM_23 (x_lt hN rfl) dX12_copy_156 (fun r156 h => ?_)
            refine xh_iast C hw 21 32 h sM_21 (x_lt hN rfl) dX12_copy_157 (fun H locs M hw h => ?_)
            refine lv_iinc (lv' := [(6, .int _), (0, .ref (q 0)), (3, .int _), (4, .int _), (5, .int _)]) hx hb dX12_copy_158 hl (k := 4) rfl (x_inc (show Int32.ofInt 1 = (nI 1) by decide) _) (by decide) rfl (fun ls hl => ?_)
            refine lv_goto (tgt := 129) hx hb dX12_copy_161 (by decide) ?_
            exact ih129 _ _ _ _ _ _ _ _ hw (lv_sub hl [1, 2, 3, 4, 0] rfl) h
      intro M v1 v2 v3 v4 v5 v6 H locs ls hw hl h
      rw [f_X12_copy_92_s] at h
      refine lv_iload hx hb dX12_copy_92 (lv_at hl 6 rfl) ?_
      refine lv_iload hx hb dX12_copy_94 (lv_at hl 5 rfl) ?_
      refine x_icmp_ge (tgt := 126) hx hb h dX12_copy_96 (by decide) (fun h => ?_) (fun h => ?_)
      · refine lv_iconst (v := (nI 0)) hx hb dX12_copy_126 (by decide) ?_
        refine lv_istore (lv' := [(6, .int _), (0, .ref (q 0)), (1, .int _), (2, .int _), (3, .int _), (4, .int _), (5, .int _)]) hx hb dX12_copy_127 hl (by decide) rfl (fun ls hl => ?_)
        exact w129 _ _ _ _ _ _ _ _ _ hw (lv_sub hl [1, 4, 5, 6, 0] rfl) h
      · refine lv_aload_n hx hb dX12_copy_99 rfl (lv_at hl 0 rfl) ?_
        refine xh_getr C hw 0 38 sM_0 (x_lt hN rfl) rfl rfl rfl lk_RX12_77 dX12_copy_100 ?_
        refine lv_iload hx hb dX12_copy_103 (lv_at hl 6 rfl) ?_
        refine lv_aload_n hx hb dX12_copy_105 rfl (lv_at hl 0 rfl) ?_
        refine xh_getr C hw 0 36 sM_0 (x_lt hN rfl) rfl rfl rfl lk_RX12_71 dX12_copy_106 ?_
        refine lv_bipush (v := (nI 16)) hx hb dX12_copy_109 (by decide) ?_
        refine lv_iload_n hx hb dX12_copy_111 rfl (lv_at hl 1 rfl) ?_
        refine lv_imul hx hb dX12_copy_112 ?_
        refine lv_iload_n hx hb dX12_copy_113 rfl (lv_at hl 2 rfl) ?_
        refine lv_iadd hx hb dX12_copy_114 ?_
        refine lv_iload hx hb dX12_copy_115 (lv_at hl 6 rfl) ?_
        refine lv_iadd hx hb dX12_copy_117 ?_
        refine xh_iald C hw 21 32 h sM_21 (x_lt hN rfl) dX12_copy_118 (fun r118 h => ?_)
        refine xh_iast C hw 23 16 h sM_23 (x_lt hN rfl) dX12_copy_119 (fun H locs M hw h => ?_)
        refine lv_iinc (lv' := [(6, .int _), (0, .ref (q 0)), (1, .int _), (2, .int _), (3, .int _), (4, .int _), (5, .int _)]) hx hb dX12_copy_120 hl (k := 6) rfl (x_inc (show Int32.ofInt 1 = (nI 1) by decide) _) (by decide) rfl (fun ls hl => ?_)
        refine lv_goto (tgt := 92) hx hb dX12_copy_123 (by decide) ?_
        exact ih92 _ _ _ _ _ _ _ _ _ _ hw (lv_sub hl [1, 2, 3, 4, 5, 6, 0] rfl) h
  unfold f_X12_copy at h
  refine lv_iload_n hx hb dX12_copy_0 rfl (lv_at hl 1 rfl) ?_
  refine lv_iconst (v := (nI 0)) hx hb dX12_copy_1 (by decide) ?_
  refine lv_iconst (v := (nI 1)) hx hb dX12_copy_2 (by decide) ?_
  refine xh_cSi C hw (rest := []) h (fun _ hy => c_X12_in hq hy) ml_RX12_81 st_X12_in ⟨rfl, rfl, by decide, by decide⟩ rfl hl.1 rfl (Nat.le_of_ble_eq_true rfl) dX12_copy_3 (fun H locs r3 M hw h => ?_)
  refine x_if_eq (tgt := 18) hx hb h dX12_copy_6 (by decide) (fun h => ?_) (fun h => ?_)
  · exact w18 _ _ _ _ hw (lv_sub hl [] rfl) h
  · refine lv_iload_n hx hb dX12_copy_9 rfl (lv_at hl 3 rfl) ?_
    refine lv_iconst (v := (nI 0)) hx hb dX12_copy_10 (by decide) ?_
    refine lv_iconst (v := (nI 1)) hx hb dX12_copy_11 (by decide) ?_
    refine xh_cSi C hw (rest := []) h (fun _ hy => c_X12_in hq hy) ml_RX12_81 st_X12_in ⟨rfl, rfl, by decide, by decide⟩ rfl hl.1 rfl (Nat.le_of_ble_eq_true rfl) dX12_copy_12 (fun H locs r12 M hw h => ?_)
    refine x_if_ne (tgt := 21) hx hb h dX12_copy_15 (by decide) (fun h => ?_) (fun h => ?_)
    · exact w18 _ _ _ _ hw (lv_sub hl [] rfl) h
    · refine lv_aload_n hx hb dX12_copy_21 rfl (lv_at hl 0 rfl) ?_
      refine xh_getr C hw 0 37 sM_0 (x_lt hN rfl) rfl rfl rfl lk_RX12_74 dX12_copy_22 ?_
      refine lv_iload_n hx hb dX12_copy_25 rfl (lv_at hl 1 rfl) ?_
      refine xh_iald C hw 22 2 h sM_22 (x_lt hN rfl) dX12_copy_26 (fun r26 h => ?_)
      refine lv_iconst (v := (-1)) hx hb dX12_copy_27 (by decide) ?_
      refine x_icmp_eq (tgt := 41) hx hb h dX12_copy_28 (by decide) (fun h => ?_) (fun h => ?_)
      · exact w41 _ _ _ _ hw (lv_sub hl [] rfl) h
      · refine lv_aload_n hx hb dX12_copy_31 rfl (lv_at hl 0 rfl) ?_
        refine xh_getr C hw 0 37 sM_0 (x_lt hN rfl) rfl rfl rfl lk_RX12_74 dX12_copy_32 ?_
        refine lv_iload_n hx hb dX12_copy_35 rfl (lv_at hl 3 rfl) ?_
        refine xh_iald C hw 22 2 h sM_22 (x_lt hN rfl) dX12_copy_36 (fun r36 h => ?_)
        refine lv_iconst (v := (-1)) hx hb dX12_copy_37 (by decide) ?_
        refine x_icmp_ne (tgt := 44) hx hb h dX12_copy_38 (by decide) (fun h => ?_) (fun h => ?_)
        · exact w41 _ _ _ _ hw (lv_sub hl [] rfl) h
        · refine lv_iload_n hx hb dX12_copy_44 rfl (lv_at hl 2 rfl) ?_
          refine x_if_lt (tgt := 85) hx hb h dX12_copy_45 (by decide) (fun h => ?_) (fun h => ?_)
          · exact w85 _ _ _ _ hw (lv_sub hl [] rfl) h
          · refine lv_iload hx hb dX12_copy_48 (lv_at hl 4 rfl) ?_
            refine x_if_lt (tgt := 85) hx hb h dX12_copy_50 (by decide) (fun h => ?_) (fun h => ?_)
            · exact w85 _ _ _ _ hw (lv_sub hl [] rfl) h
            · refine lv_iload hx hb dX12_copy_53 (lv_at hl 5 rfl) ?_
              refine x_if_lt (tgt := 85) hx hb h dX12_copy_55 (by decide) (fun h => ?_) (fun h => ?_)
              · exact w85 _ _ _ _ hw (lv_sub hl [] rfl) h
              · refine lv_iload_n hx hb dX12_copy_58 rfl (lv_at hl 2 rfl) ?_
                refine lv_aload_n hx hb dX12_copy_59 rfl (lv_at hl 0 rfl) ?_
                refine xh_getr C hw 0 37 sM_0 (x_lt hN rfl) rfl rfl rfl lk_RX12_74 dX12_copy_60 ?_
                refine lv_iload_n hx hb dX12_copy_63 rfl (lv_at hl 1 rfl) ?_
                refine xh_iald C hw 22 2 h sM_22 (x_lt hN rfl) dX12_copy_64 (fun r64 h => ?_)
                refine lv_iload hx hb dX12_copy_65 (lv_at hl 5 rfl) ?_
                refine lv_isub hx hb dX12_copy_67 ?_
                refine x_icmp_gt (tgt := 85) hx hb h dX12_copy_68 (by decide) (fun h => ?_) (fun h => ?_)
                · exact w85 _ _ _ _ hw (lv_sub hl [] rfl) h
                · refine lv_iload hx hb dX12_copy_71 (lv_at hl 4 rfl) ?_
                  refine lv_aload_n hx hb dX12_copy_73 rfl (lv_at hl 0 rfl) ?_
                  refine xh_getr C hw 0 37 sM_0 (x_lt hN rfl) rfl rfl rfl lk_RX12_74 dX12_copy_74 ?_
                  refine lv_iload_n hx hb dX12_copy_77 rfl (lv_at hl 3 rfl) ?_
                  refine xh_iald C hw 22 2 h sM_22 (x_lt hN rfl) dX12_copy_78 (fun r78 h => ?_)
                  refine lv_iload hx hb dX12_copy_79 (lv_at hl 5 rfl) ?_
                  refine lv_isub hx hb dX12_copy_81 ?_
                  refine x_icmp_le (tgt := 89) hx hb h dX12_copy_82 (by decide) (fun h => ?_) (fun h => ?_)
                  · refine lv_iconst (v := (nI 0)) hx hb dX12_copy_89 (by decide) ?_
                    refine lv_istore (lv' := [(6, .int _), (0, .ref (q 0)), (1, .int _), (2, .int _), (3, .int _), (4, .int _), (5, .int _)]) hx hb dX12_copy_90 hl (by decide) rfl (fun ls hl => ?_)
                    exact w92 _ _ _ _ _ _ _ _ _ _ _ hw (lv_sub hl [1, 2, 3, 4, 5, 6, 0] rfl) h
                  · exact w85 _ _ _ _ hw (lv_sub hl [] rfl) h
def f_X12_count_110 (k76 : x_M → Int32 → Int32 → Option (Int32 × x_M)) (M : x_M) (v3 : Int32) (t0 : Int32) (t1 : Int32) : Option (Int32 × x_M) := k76 M (t0 + t1) (v3 + (nI 1))
def f_X12_count_76 : Nat → x_M → Int32 → Int32 → Option (Int32 × x_M)
  | 0, _, _, _ => none
  | n + 1, M, v2, v3 => x_rd 5512 (M 1) (nI 5) (fun r82 => if r82 ≤ v3 then some (v2, M) else x_rd 5512 (M 1) (((nI 50) + ((nI 10) * v3)) + (nI 4)) (fun r100 => if r100 = (-1) then f_X12_count_110 (f_X12_count_76 n) M v3 v2 (nI 0) else f_X12_count_110 (f_X12_count_76 n) M v3 v2 (nI 1)))
theorem f_X12_count_76_0 (M : x_M) (v2 : Int32) (v3 : Int32) : f_X12_count_76 0 M v2 v3 = none := rfl
theorem f_X12_count_76_s (n : Nat) (M : x_M) (v2 : Int32) (v3 : Int32) : f_X12_count_76 (n + 1) M v2 v3 = (x_rd 5512 (M 1) (nI 5) (fun r82 => if r82 ≤ v3 then some (v2, M) else x_rd 5512 (M 1) (((nI 50) + ((nI 10) * v3)) + (nI 4)) (fun r100 => if r100 = (-1) then f_X12_count_110 (f_X12_count_76 n) M v3 v2 (nI 0) else f_X12_count_110 (f_X12_count_76 n) M v3 v2 (nI 1)))) := rfl
def f_X12_count_180 (k146 : x_M → Int32 → Int32 → Option (Int32 × x_M)) (M : x_M) (v3 : Int32) (t0 : Int32) (t1 : Int32) : Option (Int32 × x_M) := k146 M (t0 + t1) (v3 + (nI 1))
def f_X12_count_146 : Nat → x_M → Int32 → Int32 → Option (Int32 × x_M)
  | 0, _, _, _ => none
  | n + 1, M, v2, v3 => x_rd 5512 (M 1) (nI 8) (fun r153 => if r153 ≤ v3 then some (v2, M) else x_rd 5512 (M 1) (((nI 5338) + ((nI 5) * v3)) + (nI 3)) (fun r171 => if r171 = 0 then f_X12_count_180 (f_X12_count_146 n) M v3 v2 (nI 1) else f_X12_count_180 (f_X12_count_146 n) M v3 v2 (nI 0)))
theorem f_X12_count_146_0 (M : x_M) (v2 : Int32) (v3 : Int32) : f_X12_count_146 0 M v2 v3 = none := rfl
theorem f_X12_count_146_s (n : Nat) (M : x_M) (v2 : Int32) (v3 : Int32) : f_X12_count_146 (n + 1) M v2 v3 = (x_rd 5512 (M 1) (nI 8) (fun r153 => if r153 ≤ v3 then some (v2, M) else x_rd 5512 (M 1) (((nI 5338) + ((nI 5) * v3)) + (nI 3)) (fun r171 => if r171 = 0 then f_X12_count_180 (f_X12_count_146 n) M v3 v2 (nI 1) else f_X12_count_180 (f_X12_count_146 n) M v3 v2 (nI 0)))) := rfl
def f_X12_count (M : x_M) (a1 : Int32) : Option (Int32 × x_M) := if a1 = (nI 0) then x_rd 5512 (M 1) (nI 4) (fun r65 => some (r65, M)) else if a1 = (nI 1) then x_rd 5512 (M 1) (nI 5) (fun r72 => some (r72, M)) else if a1 = (nI 2) then f_X12_count_76 x_FU M (nI 0) (nI 0) else if a1 = (nI 3) then x_rd 5512 (M 1) (nI 6) (fun r126 => some (r126, M)) else if a1 = (nI 4) then x_rd 5512 (M 1) (nI 7) (fun r134 => some (r134, M)) else if a1 = (nI 5) then x_rd 5512 (M 1) (nI 8) (fun r142 => some (r142, M)) else if a1 = (nI 6) then f_X12_count_146 x_FU M (nI 0) (nI 0) else if a1 = (nI 7) then x_rd 5512 (M 1) (nI 9) (fun r196 => some (r196, M)) else if a1 = (nI 8) then x_gf M 0 35 (fun r199 => some (r199, M)) else if a1 = (nI 9) then x_gf M 0 4 (fun r204 => some (r204, M)) else if a1 = (nI 10) then x_rd 5512 (M 1) (nI 0) (fun r213 => some (r213, M)) else some ((-1000000001), M)
abbrev rm_X12_count : Room := { frames := 0, cells := 0, slots := 0, locals := 0 }
set_option maxHeartbeats 4000000 in
set_option maxRecDepth 100000 in
theorem c_X12_count {l : Launch} {D : va_G} {cy : Nat → ClassId} {q ad : Nat → Nat} {s0 : State} (hq : x_Q q 24 s0.heap.size) {M : x_M} {a1 : Int32} {z : Int32 × x_M} (h : f_X12_count M a1 = some z) : x_Ci l D cy q ad x_spM 24 s0 yX12_count (x_uw yX12_count cX12_count 4 (some .int)) rm_X12_count [.ref (q 0), .int a1] M z.1 z.2 := by
  have hN : 24 ≤ 24 := Nat.le_refl _
  refine x_meti hq (by decide) (Nat.le_of_ble_eq_true rfl) ?_
  intro p e s m args below meth c ls Q C hret hl hw
  have hx := C.1.1
  have hb := C.1.2.1
  have ho := C.1.2.2.2.1
  have hL := C.1.2.2.2.2
  have hl : lv_has ls 4 [(0, .ref (q 0)), (1, .int a1)] := hl
  have w76 : ∀ (n : Nat) (M : x_M) (v2 : Int32) (v3 : Int32) (H : Heap) (locs : List Loc) (ls : Array Slot), x_B D cy q ad x_spM 24 s H locs M → lv_has ls 4 [(0, .ref (q 0)), (2, .int v2), (3, .int v3)] → f_X12_count_76 n M v2 v3 = some z → W p l e rm_X12_count s m args below meth c H locs 0 0 Q (F0 m 76 ls []) := by
    intro n
    induction n with
    | zero =>
      intro M v2 v3 H locs ls hw hl h
      rw [f_X12_count_76_0] at h
      cases h
    | succ n76 ih76 =>
      have w110 : ∀ (M : x_M) (v3 : Int32) (t0 : Int32) (t1 : Int32) (H : Heap) (locs : List Loc) (ls : Array Slot), x_B D cy q ad x_spM 24 s H locs M → lv_has ls 4 [(0, .ref (q 0)), (3, .int v3)] → f_X12_count_110 (f_X12_count_76 n76) M v3 t0 t1 = some z → W p l e rm_X12_count s m args below meth c H locs 0 0 Q (F0 m 110 ls [.int t1, .int t0]) := by
        intro M v3 t0 t1 H locs ls hw hl h
        unfold f_X12_count_110 at h
        refine lv_iadd hx hb dX12_count_110 ?_
        refine lv_istore_n (lv' := [(2, .int _), (0, .ref (q 0)), (3, .int _)]) hx hb dX12_count_111 rfl hl (by decide) rfl (fun ls hl => ?_)
        refine lv_iinc (lv' := [(3, .int _), (2, .int _), (0, .ref (q 0))]) hx hb dX12_count_112 hl (k := 2) rfl (x_inc (show Int32.ofInt 1 = (nI 1) by decide) _) (by decide) rfl (fun ls hl => ?_)
        refine lv_goto (tgt := 76) hx hb dX12_count_115 (by decide) ?_
        exact ih76 _ _ _ _ _ _ hw (lv_sub hl [2, 1, 0] rfl) h
      intro M v2 v3 H locs ls hw hl h
      rw [f_X12_count_76_s] at h
      refine lv_iload_n hx hb dX12_count_76 rfl (lv_at hl 2 rfl) ?_
      refine lv_aload_n hx hb dX12_count_77 rfl (lv_at hl 0 rfl) ?_
      refine xh_getr C hw 0 0 sM_0 (x_lt hN rfl) rfl rfl rfl lk_RX12_7 dX12_count_78 ?_
      refine lv_iconst (v := (nI 5)) hx hb dX12_count_81 (by decide) ?_
      refine xh_iald C hw 1 5512 h sM_1 (x_lt hN rfl) dX12_count_82 (fun r82 h => ?_)
      refine x_icmp_ge (tgt := 118) hx hb h dX12_count_83 (by decide) (fun h => ?_) (fun h => ?_)
      · refine lv_iload_n hx hb dX12_count_118 rfl (lv_at hl 1 rfl) ?_
        exact hret dX12_count_119 rfl hw h
      · refine lv_iload_n hx hb dX12_count_86 rfl (lv_at hl 1 rfl) ?_
        refine lv_aload_n hx hb dX12_count_87 rfl (lv_at hl 0 rfl) ?_
        refine xh_getr C hw 0 0 sM_0 (x_lt hN rfl) rfl rfl rfl lk_RX12_7 dX12_count_88 ?_
        refine lv_bipush (v := (nI 50)) hx hb dX12_count_91 (by decide) ?_
        refine lv_bipush (v := (nI 10)) hx hb dX12_count_93 (by decide) ?_
        refine lv_iload_n hx hb dX12_count_95 rfl (lv_at hl 2 rfl) ?_
        refine lv_imul hx hb dX12_count_96 ?_
        refine lv_iadd hx hb dX12_count_97 ?_
        refine lv_iconst (v := (nI 4)) hx hb dX12_count_98 (by decide) ?_
        refine lv_iadd hx hb dX12_count_99 ?_
        refine xh_iald C hw 1 5512 h sM_1 (x_lt hN rfl) dX12_count_100 (fun r100 h => ?_)
        refine lv_iconst (v := (-1)) hx hb dX12_count_101 (by decide) ?_
        refine x_icmp_ne (tgt := 109) hx hb h dX12_count_102 (by decide) (fun h => ?_) (fun h => ?_)
        · refine lv_iconst (v := (nI 0)) hx hb dX12_count_105 (by decide) ?_
          refine lv_goto (tgt := 110) hx hb dX12_count_106 (by decide) ?_
          exact w110 _ _ _ _ _ _ _ hw (lv_sub hl [0, 2] rfl) h
        · refine lv_iconst (v := (nI 1)) hx hb dX12_count_109 (by decide) ?_
          exact w110 _ _ _ _ _ _ _ hw (lv_sub hl [0, 2] rfl) h
  have w146 : ∀ (n : Nat) (M : x_M) (v2 : Int32) (v3 : Int32) (H : Heap) (locs : List Loc) (ls : Array Slot), x_B D cy q ad x_spM 24 s H locs M → lv_has ls 4 [(0, .ref (q 0)), (2, .int v2), (3, .int v3)] → f_X12_count_146 n M v2 v3 = some z → W p l e rm_X12_count s m args below meth c H locs 0 0 Q (F0 m 146 ls []) := by
    intro n
    induction n with
    | zero =>
      intro M v2 v3 H locs ls hw hl h
      rw [f_X12_count_146_0] at h
      cases h
    | succ n146 ih146 =>
      have w180 : ∀ (M : x_M) (v3 : Int32) (t0 : Int32) (t1 : Int32) (H : Heap) (locs : List Loc) (ls : Array Slot), x_B D cy q ad x_spM 24 s H locs M → lv_has ls 4 [(0, .ref (q 0)), (3, .int v3)] → f_X12_count_180 (f_X12_count_146 n146) M v3 t0 t1 = some z → W p l e rm_X12_count s m args below meth c H locs 0 0 Q (F0 m 180 ls [.int t1, .int t0]) := by
        intro M v3 t0 t1 H locs ls hw hl h
        unfold f_X12_count_180 at h
        refine lv_iadd hx hb dX12_count_180 ?_
        refine lv_istore_n (lv' := [(2, .int _), (0, .ref (q 0)), (3, .int _)]) hx hb dX12_count_181 rfl hl (by decide) rfl (fun ls hl => ?_)
        refine lv_iinc (lv' := [(3, .int _), (2, .int _), (0, .ref (q 0))]) hx hb dX12_count_182 hl (k := 2) rfl (x_inc (show Int32.ofInt 1 = (nI 1) by decide) _) (by decide) rfl (fun ls hl => ?_)
        refine lv_goto (tgt := 146) hx hb dX12_count_185 (by decide) ?_
        exact ih146 _ _ _ _ _ _ hw (lv_sub hl [2, 1, 0] rfl) h
      intro M v2 v3 H locs ls hw hl h
      rw [f_X12_count_146_s] at h
      refine lv_iload_n hx hb dX12_count_146 rfl (lv_at hl 2 rfl) ?_
      refine lv_aload_n hx hb dX12_count_147 rfl (lv_at hl 0 rfl) ?_
      refine xh_getr C hw 0 0 sM_0 (x_lt hN rfl) rfl rfl rfl lk_RX12_7 dX12_count_148 ?_
      refine lv_bipush (v := (nI 8)) hx hb dX12_count_151 (by decide) ?_
      refine xh_iald C hw 1 5512 h sM_1 (x_lt hN rfl) dX12_count_153 (fun r153 h => ?_)
      refine x_icmp_ge (tgt := 188) hx hb h dX12_count_154 (by decide) (fun h => ?_) (fun h => ?_)
      · refine lv_iload_n hx hb dX12_count_188 rfl (lv_at hl 1 rfl) ?_
        exact hret dX12_count_189 rfl hw h
      · refine lv_iload_n hx hb dX12_count_157 rfl (lv_at hl 1 rfl) ?_
        refine lv_aload_n hx hb dX12_count_158 rfl (lv_at hl 0 rfl) ?_
        refine xh_getr C hw 0 0 sM_0 (x_lt hN rfl) rfl rfl rfl lk_RX12_7 dX12_count_159 ?_
        refine lv_sipush (v := (nI 5338)) hx hb dX12_count_162 (by decide) ?_
        refine lv_iconst (v := (nI 5)) hx hb dX12_count_165 (by decide) ?_
        refine lv_iload_n hx hb dX12_count_166 rfl (lv_at hl 2 rfl) ?_
        refine lv_imul hx hb dX12_count_167 ?_
        refine lv_iadd hx hb dX12_count_168 ?_
        refine lv_iconst (v := (nI 3)) hx hb dX12_count_169 (by decide) ?_
        refine lv_iadd hx hb dX12_count_170 ?_
        refine xh_iald C hw 1 5512 h sM_1 (x_lt hN rfl) dX12_count_171 (fun r171 h => ?_)
        refine x_if_ne (tgt := 179) hx hb h dX12_count_172 (by decide) (fun h => ?_) (fun h => ?_)
        · refine lv_iconst (v := (nI 1)) hx hb dX12_count_175 (by decide) ?_
          refine lv_goto (tgt := 180) hx hb dX12_count_176 (by decide) ?_
          exact w180 _ _ _ _ _ _ _ hw (lv_sub hl [0, 2] rfl) h
        · refine lv_iconst (v := (nI 0)) hx hb dX12_count_179 (by decide) ?_
          exact w180 _ _ _ _ _ _ _ hw (lv_sub hl [0, 2] rfl) h
  unfold f_X12_count at h
  refine lv_iconst (v := (nI 0)) hx hb dX12_count_0 (by decide) ?_
  refine lv_istore_n (lv' := [(2, .int _), (0, .ref (q 0)), (1, .int _)]) hx hb dX12_count_1 rfl hl (by decide) rfl (fun ls hl => ?_)
  refine lv_iload_n hx hb dX12_count_2 rfl (lv_at hl 2 rfl) ?_
  refine (Decidable.em (a1 = (nI 0))).elim (fun c3_0 => ?_) (fun c3_0 => ?_)
  · rw [if_pos c3_0] at h
    rw [c3_0]
    refine lv_tableIn (off := 57) (tgt := 60) hx hb dX12_count_3 (by decide) (by decide) (by decide) (by decide) ?_
    refine lv_aload_n hx hb dX12_count_60 rfl (lv_at hl 1 rfl) ?_
    refine xh_getr C hw 0 0 sM_0 (x_lt hN rfl) rfl rfl rfl lk_RX12_7 dX12_count_61 ?_
    refine lv_iconst (v := (nI 4)) hx hb dX12_count_64 (by decide) ?_
    refine xh_iald C hw 1 5512 h sM_1 (x_lt hN rfl) dX12_count_65 (fun r65 h => ?_)
    exact hret dX12_count_66 rfl hw h
  rw [if_neg c3_0] at h
  refine (Decidable.em (a1 = (nI 1))).elim (fun c3_1 => ?_) (fun c3_1 => ?_)
  · rw [if_pos c3_1] at h
    rw [c3_1]
    refine lv_tableIn (off := 64) (tgt := 67) hx hb dX12_count_3 (by decide) (by decide) (by decide) (by decide) ?_
    refine lv_aload_n hx hb dX12_count_67 rfl (lv_at hl 1 rfl) ?_
    refine xh_getr C hw 0 0 sM_0 (x_lt hN rfl) rfl rfl rfl lk_RX12_7 dX12_count_68 ?_
    refine lv_iconst (v := (nI 5)) hx hb dX12_count_71 (by decide) ?_
    refine xh_iald C hw 1 5512 h sM_1 (x_lt hN rfl) dX12_count_72 (fun r72 h => ?_)
    exact hret dX12_count_73 rfl hw h
  rw [if_neg c3_1] at h
  refine (Decidable.em (a1 = (nI 2))).elim (fun c3_2 => ?_) (fun c3_2 => ?_)
  · rw [if_pos c3_2] at h
    rw [c3_2]
    refine lv_tableIn (off := 71) (tgt := 74) hx hb dX12_count_3 (by decide) (by decide) (by decide) (by decide) ?_
    refine lv_iconst (v := (nI 0)) hx hb dX12_count_74 (by decide) ?_
    refine lv_istore_n (lv' := [(3, .int _), (2, .int _), (0, .ref (q 0)), (1, .int _)]) hx hb dX12_count_75 rfl hl (by decide) rfl (fun ls hl => ?_)
    exact w76 _ _ _ _ _ _ _ hw (lv_sub hl [2, 1, 0] rfl) h
  rw [if_neg c3_2] at h
  refine (Decidable.em (a1 = (nI 3))).elim (fun c3_3 => ?_) (fun c3_3 => ?_)
  · rw [if_pos c3_3] at h
    rw [c3_3]
    refine lv_tableIn (off := 117) (tgt := 120) hx hb dX12_count_3 (by decide) (by decide) (by decide) (by decide) ?_
    refine lv_aload_n hx hb dX12_count_120 rfl (lv_at hl 1 rfl) ?_
    refine xh_getr C hw 0 0 sM_0 (x_lt hN rfl) rfl rfl rfl lk_RX12_7 dX12_count_121 ?_
    refine lv_bipush (v := (nI 6)) hx hb dX12_count_124 (by decide) ?_
    refine xh_iald C hw 1 5512 h sM_1 (x_lt hN rfl) dX12_count_126 (fun r126 h => ?_)
    exact hret dX12_count_127 rfl hw h
  rw [if_neg c3_3] at h
  refine (Decidable.em (a1 = (nI 4))).elim (fun c3_4 => ?_) (fun c3_4 => ?_)
  · rw [if_pos c3_4] at h
    rw [c3_4]
    refine lv_tableIn (off := 125) (tgt := 128) hx hb dX12_count_3 (by decide) (by decide) (by decide) (by decide) ?_
    refine lv_aload_n hx hb dX12_count_128 rfl (lv_at hl 1 rfl) ?_
    refine xh_getr C hw 0 0 sM_0 (x_lt hN rfl) rfl rfl rfl lk_RX12_7 dX12_count_129 ?_
    refine lv_bipush (v := (nI 7)) hx hb dX12_count_132 (by decide) ?_
    refine xh_iald C hw 1 5512 h sM_1 (x_lt hN rfl) dX12_count_134 (fun r134 h => ?_)
    exact hret dX12_count_135 rfl hw h
  rw [if_neg c3_4] at h
  refine (Decidable.em (a1 = (nI 5))).elim (fun c3_5 => ?_) (fun c3_5 => ?_)
  · rw [if_pos c3_5] at h
    rw [c3_5]
    refine lv_tableIn (off := 133) (tgt := 136) hx hb dX12_count_3 (by decide) (by decide) (by decide) (by decide) ?_
    refine lv_aload_n hx hb dX12_count_136 rfl (lv_at hl 1 rfl) ?_
    refine xh_getr C hw 0 0 sM_0 (x_lt hN rfl) rfl rfl rfl lk_RX12_7 dX12_count_137 ?_
    refine lv_bipush (v := (nI 8)) hx hb dX12_count_140 (by decide) ?_
    refine xh_iald C hw 1 5512 h sM_1 (x_lt hN rfl) dX12_count_142 (fun r142 h => ?_)
    exact hret dX12_count_143 rfl hw h
  rw [if_neg c3_5] at h
  refine (Decidable.em (a1 = (nI 6))).elim (fun c3_6 => ?_) (fun c3_6 => ?_)
  · rw [if_pos c3_6] at h
    rw [c3_6]
    refine lv_tableIn (off := 141) (tgt := 144) hx hb dX12_count_3 (by decide) (by decide) (by decide) (by decide) ?_
    refine lv_iconst (v := (nI 0)) hx hb dX12_count_144 (by decide) ?_
    refine lv_istore_n (lv' := [(3, .int _), (2, .int _), (0, .ref (q 0)), (1, .int _)]) hx hb dX12_count_145 rfl hl (by decide) rfl (fun ls hl => ?_)
    exact w146 _ _ _ _ _ _ _ hw (lv_sub hl [2, 1, 0] rfl) h
  rw [if_neg c3_6] at h
  refine (Decidable.em (a1 = (nI 7))).elim (fun c3_7 => ?_) (fun c3_7 => ?_)
  · rw [if_pos c3_7] at h
    rw [c3_7]
    refine lv_tableIn (off := 187) (tgt := 190) hx hb dX12_count_3 (by decide) (by decide) (by decide) (by decide) ?_
    refine lv_aload_n hx hb dX12_count_190 rfl (lv_at hl 1 rfl) ?_
    refine xh_getr C hw 0 0 sM_0 (x_lt hN rfl) rfl rfl rfl lk_RX12_7 dX12_count_191 ?_
    refine lv_bipush (v := (nI 9)) hx hb dX12_count_194 (by decide) ?_
    refine xh_iald C hw 1 5512 h sM_1 (x_lt hN rfl) dX12_count_196 (fun r196 h => ?_)
    exact hret dX12_count_197 rfl hw h
  rw [if_neg c3_7] at h
  refine (Decidable.em (a1 = (nI 8))).elim (fun c3_8 => ?_) (fun c3_8 => ?_)
  · rw [if_pos c3_8] at h
    rw [c3_8]
    refine lv_tableIn (off := 195) (tgt := 198) hx hb dX12_count_3 (by decide) (by decide) (by decide) (by decide) ?_
    refine lv_aload_n hx hb dX12_count_198 rfl (lv_at hl 1 rfl) ?_
    refine xh_geti C hw 0 35 h sM_0 (x_lt hN rfl) rfl rfl rfl lk_RX12_279 dX12_count_199 (fun r199 h => ?_)
    exact hret dX12_count_202 rfl hw h
  rw [if_neg c3_8] at h
  refine (Decidable.em (a1 = (nI 9))).elim (fun c3_9 => ?_) (fun c3_9 => ?_)
  · rw [if_pos c3_9] at h
    rw [c3_9]
    refine lv_tableIn (off := 200) (tgt := 203) hx hb dX12_count_3 (by decide) (by decide) (by decide) (by decide) ?_
    refine lv_aload_n hx hb dX12_count_203 rfl (lv_at hl 1 rfl) ?_
    refine xh_geti C hw 0 4 h sM_0 (x_lt hN rfl) rfl rfl rfl lk_RX12_112 dX12_count_204 (fun r204 h => ?_)
    exact hret dX12_count_207 rfl hw h
  rw [if_neg c3_9] at h
  refine (Decidable.em (a1 = (nI 10))).elim (fun c3_10 => ?_) (fun c3_10 => ?_)
  · rw [if_pos c3_10] at h
    rw [c3_10]
    refine lv_tableIn (off := 205) (tgt := 208) hx hb dX12_count_3 (by decide) (by decide) (by decide) (by decide) ?_
    refine lv_aload_n hx hb dX12_count_208 rfl (lv_at hl 1 rfl) ?_
    refine xh_getr C hw 0 0 sM_0 (x_lt hN rfl) rfl rfl rfl lk_RX12_7 dX12_count_209 ?_
    refine lv_iconst (v := (nI 0)) hx hb dX12_count_212 (by decide) ?_
    refine xh_iald C hw 1 5512 h sM_1 (x_lt hN rfl) dX12_count_213 (fun r213 h => ?_)
    exact hret dX12_count_214 rfl hw h
  rw [if_neg c3_10] at h
  refine lv_tableOut (tgt := 215) hx hb dX12_count_3 (by have e0 := lv_neT c3_0 (show ((nI 0) : Int32).toInt = 0 by decide); have e1 := lv_neT c3_1 (show ((nI 1) : Int32).toInt = 1 by decide); have e2 := lv_neT c3_2 (show ((nI 2) : Int32).toInt = 2 by decide); have e3 := lv_neT c3_3 (show ((nI 3) : Int32).toInt = 3 by decide); have e4 := lv_neT c3_4 (show ((nI 4) : Int32).toInt = 4 by decide); have e5 := lv_neT c3_5 (show ((nI 5) : Int32).toInt = 5 by decide); have e6 := lv_neT c3_6 (show ((nI 6) : Int32).toInt = 6 by decide); have e7 := lv_neT c3_7 (show ((nI 7) : Int32).toInt = 7 by decide); have e8 := lv_neT c3_8 (show ((nI 8) : Int32).toInt = 8 by decide); have e9 := lv_neT c3_9 (show ((nI 9) : Int32).toInt = 9 by decide); have e10 := lv_neT c3_10 (show ((nI 10) : Int32).toInt = 10 by decide); omega) (by decide) ?_
  refine lv_ldc hx hb ho (hL _ kc_RX12_85) dX12_count_215 ?_
  exact hret dX12_count_217 rfl hw h
