def f_X11_fly_39 (M : x_M) : Option (Int32 × x_M) := some ((-1000000001), M)
def f_X11_fly_71 (M : x_M) : Option (Int32 × x_M) := some ((-1000000001), M)
def f_X11_fly (M : x_M) (a1 : Int32) (a2 : Int32) (a3 : Int32) (a4 : Int32) (a5 : Int32) : Option (Int32 × x_M) := x_bn (f_X11_isMember M a1) (fun r2 M => if r2 = 0 then f_X11_fly_39 M else x_bn (f_X11_isPast M a2) (fun r10 M => if r10 = 0 then f_X11_fly_39 M else x_bn (f_X11_within M a3 (nI 1) (nI 9999)) (fun r21 M => if r21 = 0 then f_X11_fly_39 M else x_bn (f_X11_within M a5 (nI 0) (nI 9999)) (fun r33 M => if r33 = 0 then f_X11_fly_39 M else if a4 < 0 then f_X11_fly_71 M else x_dv (nI 10) (x_bn (f_X11_within M (a4 / (nI 10)) (nI 0) (nI 3)) (fun r54 M => if r54 = 0 then f_X11_fly_71 M else x_dv (nI 10) (x_bn (f_X11_isPartner M (a4 - a4 / (nI 10) * (nI 10))) (fun r65 M => if r65 = 0 then f_X11_fly_71 M else x_bn (f_X0_newLine M (nI 0) a1 a2 a3 a4 a5) (fun r86 M => some (r86, M))))))))))
abbrev rm_X11_fly : Room := { frames := 3, cells := 0, slots := 0, locals := 75 }
set_option maxHeartbeats 4000000 in
set_option maxRecDepth 100000 in
theorem c_X11_fly {l : Launch} {D : va_G} {cy : Nat → ClassId} {q ad : Nat → Nat} {NC : Nat} {s0 : State} (hq : x_Q q NC s0.heap.size) (hN : 88 ≤ NC) {M : x_M} {a1 : Int32} {a2 : Int32} {a3 : Int32} {a4 : Int32} {a5 : Int32} {z : Int32 × x_M} (h : f_X11_fly M a1 a2 a3 a4 a5 = some z) : x_Ci l D cy q ad x_spX NC s0 yX11_fly (x_uw yX11_fly cX11_fly 6 (some .int)) rm_X11_fly [.ref (q 0), .int a1, .int a2, .int a3, .int a4, .int a5] M z.1 z.2 := by
  refine x_meti hq (by decide) (Nat.le_of_ble_eq_true rfl) ?_
  intro p e s m args below meth c ls Q C hret hl hw
  have hx := C.1.1
  have hb := C.1.2.1
  have ho := C.1.2.2.2.1
  have hL := C.1.2.2.2.2
  have hl : lv_has ls 6 [(0, .ref (q 0)), (1, .int a1), (2, .int a2), (3, .int a3), (4, .int a4), (5, .int a5)] := hl
  have w39 : ∀ (M : x_M) (H : Heap) (locs : List Loc) (ls : Array Slot), x_B D cy q ad x_spX NC s H locs M → lv_has ls 6 [] → f_X11_fly_39 M = some z → W p l e rm_X11_fly s m args below meth c H locs 0 0 Q (F0 m 39 ls []) := by
    intro M H locs ls hw hl h
    unfold f_X11_fly_39 at h
    refine lv_ldc hx hb ho (hL _ kc_RX11_58) dX11_fly_39 ?_
    exact hret dX11_fly_41 rfl hw h
  have w71 : ∀ (M : x_M) (H : Heap) (locs : List Loc) (ls : Array Slot), x_B D cy q ad x_spX NC s H locs M → lv_has ls 6 [] → f_X11_fly_71 M = some z → W p l e rm_X11_fly s m args below meth c H locs 0 0 Q (F0 m 71 ls []) := by
    intro M H locs ls hw hl h
    unfold f_X11_fly_71 at h
    refine lv_ldc hx hb ho (hL _ kc_RX11_58) dX11_fly_71 ?_
    exact hret dX11_fly_73 rfl hw h
  unfold f_X11_fly at h
  refine lv_aload_n hx hb dX11_fly_0 rfl (lv_at hl 0 rfl) ?_
  refine lv_iload_n hx hb dX11_fly_1 rfl (lv_at hl 1 rfl) ?_
  refine xh_cVi C hw (rest := []) h (fun _ hy => c_X11_isMember hq hN hy) ml_RX11_69 mv_X11_isMember sX_0 (x_lt hN rfl) rfl ⟨rfl, rfl, by decide, by decide⟩ rfl hl.1 rfl (Nat.le_of_ble_eq_true rfl) dX11_fly_2 (fun H locs r2 M hw h => ?_)
  refine x_if_eq (tgt := 39) hx hb h dX11_fly_5 (by decide) (fun h => ?_) (fun h => ?_)
  · exact w39 _ _ _ _ hw (lv_sub hl [] rfl) h
  · refine lv_aload_n hx hb dX11_fly_8 rfl (lv_at hl 0 rfl) ?_
    refine lv_iload_n hx hb dX11_fly_9 rfl (lv_at hl 2 rfl) ?_
    refine xh_cVi C hw (rest := []) h (fun _ hy => c_X11_isPast hq hN hy) ml_RX11_109 mv_X11_isPast sX_0 (x_lt hN rfl) rfl ⟨rfl, rfl, by decide, by decide⟩ rfl hl.1 rfl (Nat.le_of_ble_eq_true rfl) dX11_fly_10 (fun H locs r10 M hw h => ?_)
    refine x_if_eq (tgt := 39) hx hb h dX11_fly_13 (by decide) (fun h => ?_) (fun h => ?_)
    · exact w39 _ _ _ _ hw (lv_sub hl [] rfl) h
    · refine lv_iload_n hx hb dX11_fly_16 rfl (lv_at hl 3 rfl) ?_
      refine lv_iconst (v := (nI 1)) hx hb dX11_fly_17 (by decide) ?_
      refine lv_sipush (v := (nI 9999)) hx hb dX11_fly_18 (by decide) ?_
      refine xh_cSi C hw (rest := []) h (fun _ hy => c_X11_within hq hN hy) ml_RX11_54 st_X11_within ⟨rfl, rfl, by decide, by decide⟩ rfl hl.1 rfl (Nat.le_of_ble_eq_true rfl) dX11_fly_21 (fun H locs r21 M hw h => ?_)
      refine x_if_eq (tgt := 39) hx hb h dX11_fly_24 (by decide) (fun h => ?_) (fun h => ?_)
      · exact w39 _ _ _ _ hw (lv_sub hl [] rfl) h
      · refine lv_iload hx hb dX11_fly_27 (lv_at hl 5 rfl) ?_
        refine lv_iconst (v := (nI 0)) hx hb dX11_fly_29 (by decide) ?_
        refine lv_sipush (v := (nI 9999)) hx hb dX11_fly_30 (by decide) ?_
        refine xh_cSi C hw (rest := []) h (fun _ hy => c_X11_within hq hN hy) ml_RX11_54 st_X11_within ⟨rfl, rfl, by decide, by decide⟩ rfl hl.1 rfl (Nat.le_of_ble_eq_true rfl) dX11_fly_33 (fun H locs r33 M hw h => ?_)
        refine x_if_ne (tgt := 42) hx hb h dX11_fly_36 (by decide) (fun h => ?_) (fun h => ?_)
        · exact w39 _ _ _ _ hw (lv_sub hl [] rfl) h
        · refine lv_iload hx hb dX11_fly_42 (lv_at hl 4 rfl) ?_
          refine x_if_lt (tgt := 71) hx hb h dX11_fly_44 (by decide) (fun h => ?_) (fun h => ?_)
          · exact w71 _ _ _ _ hw (lv_sub hl [] rfl) h
          · refine lv_iload hx hb dX11_fly_47 (lv_at hl 4 rfl) ?_
            refine lv_bipush (v := (nI 10)) hx hb dX11_fly_49 (by decide) ?_
            refine xh_idiv hx hb h dX11_fly_51 (fun h => ?_)
            refine lv_iconst (v := (nI 0)) hx hb dX11_fly_52 (by decide) ?_
            refine lv_iconst (v := (nI 3)) hx hb dX11_fly_53 (by decide) ?_
            refine xh_cSi C hw (rest := []) h (fun _ hy => c_X11_within hq hN hy) ml_RX11_54 st_X11_within ⟨rfl, rfl, by decide, by decide⟩ rfl hl.1 rfl (Nat.le_of_ble_eq_true rfl) dX11_fly_54 (fun H locs r54 M hw h => ?_)
            refine x_if_eq (tgt := 71) hx hb h dX11_fly_57 (by decide) (fun h => ?_) (fun h => ?_)
            · exact w71 _ _ _ _ hw (lv_sub hl [] rfl) h
            · refine lv_iload hx hb dX11_fly_60 (lv_at hl 4 rfl) ?_
              refine lv_bipush (v := (nI 10)) hx hb dX11_fly_62 (by decide) ?_
              refine xh_irem hx hb h dX11_fly_64 (fun h => ?_)
              refine xh_cSi C hw (rest := []) h (fun _ hy => c_X11_isPartner hq hN hy) ml_RX11_112 st_X11_isPartner ⟨rfl, rfl, by decide, by decide⟩ rfl hl.1 rfl (Nat.le_of_ble_eq_true rfl) dX11_fly_65 (fun H locs r65 M hw h => ?_)
              refine x_if_ne (tgt := 74) hx hb h dX11_fly_68 (by decide) (fun h => ?_) (fun h => ?_)
              · exact w71 _ _ _ _ hw (lv_sub hl [] rfl) h
              · refine lv_aload_n hx hb dX11_fly_74 rfl (lv_at hl 0 rfl) ?_
                refine xh_getr C hw 0 0 sX_0 (x_lt hN rfl) rfl rfl rfl lk_RX11_12 dX11_fly_75 ?_
                refine lv_iconst (v := (nI 0)) hx hb dX11_fly_78 (by decide) ?_
                refine lv_iload_n hx hb dX11_fly_79 rfl (lv_at hl 1 rfl) ?_
                refine lv_iload_n hx hb dX11_fly_80 rfl (lv_at hl 2 rfl) ?_
                refine lv_iload_n hx hb dX11_fly_81 rfl (lv_at hl 3 rfl) ?_
                refine lv_iload hx hb dX11_fly_82 (lv_at hl 4 rfl) ?_
                refine lv_iload hx hb dX11_fly_84 (lv_at hl 5 rfl) ?_
                refine xh_cVi C hw (rest := []) h (fun _ hy => c_X0_newLine hq hN hy) ml_RX11_115 mv_X0_newLine sX_1 (x_lt hN rfl) rfl ⟨rfl, rfl, by decide, by decide⟩ rfl hl.1 rfl (Nat.le_of_ble_eq_true rfl) dX11_fly_86 (fun H locs r86 M hw h => ?_)
                exact hret dX11_fly_89 rfl hw h
def f_X11_spend_34 (M : x_M) : Option (Int32 × x_M) := some ((-1000000001), M)
def f_X11_spend (M : x_M) (a1 : Int32) (a2 : Int32) (a3 : Int32) (a4 : Int32) : Option (Int32 × x_M) := x_bn (f_X11_isMember M a1) (fun r2 M => if r2 = 0 then f_X11_spend_34 M else x_bn (f_X11_isPast M a2) (fun r10 M => if r10 = 0 then f_X11_spend_34 M else x_bn (f_X11_within M a3 (nI 1) (nI 99999)) (fun r20 M => if r20 = 0 then f_X11_spend_34 M else x_bn (f_X11_isPartner M a4) (fun r28 M => if r28 = 0 then f_X11_spend_34 M else x_bn (f_X0_newLine M (nI 1) a1 a2 a3 a4 (nI 0)) (fun r48 M => some (r48, M))))))
abbrev rm_X11_spend : Room := { frames := 3, cells := 0, slots := 0, locals := 75 }
set_option maxHeartbeats 4000000 in
set_option maxRecDepth 100000 in
theorem c_X11_spend {l : Launch} {D : va_G} {cy : Nat → ClassId} {q ad : Nat → Nat} {NC : Nat} {s0 : State} (hq : x_Q q NC s0.heap.size) (hN : 88 ≤ NC) {M : x_M} {a1 : Int32} {a2 : Int32} {a3 : Int32} {a4 : Int32} {z : Int32 × x_M} (h : f_X11_spend M a1 a2 a3 a4 = some z) : x_Ci l D cy q ad x_spX NC s0 yX11_spend (x_uw yX11_spend cX11_spend 5 (some .int)) rm_X11_spend [.ref (q 0), .int a1, .int a2, .int a3, .int a4] M z.1 z.2 := by
  refine x_meti hq (by decide) (Nat.le_of_ble_eq_true rfl) ?_
  intro p e s m args below meth c ls Q C hret hl hw
  have hx := C.1.1
  have hb := C.1.2.1
  have ho := C.1.2.2.2.1
  have hL := C.1.2.2.2.2
  have hl : lv_has ls 5 [(0, .ref (q 0)), (1, .int a1), (2, .int a2), (3, .int a3), (4, .int a4)] := hl
  have w34 : ∀ (M : x_M) (H : Heap) (locs : List Loc) (ls : Array Slot), x_B D cy q ad x_spX NC s H locs M → lv_has ls 5 [] → f_X11_spend_34 M = some z → W p l e rm_X11_spend s m args below meth c H locs 0 0 Q (F0 m 34 ls []) := by
    intro M H locs ls hw hl h
    unfold f_X11_spend_34 at h
    refine lv_ldc hx hb ho (hL _ kc_RX11_58) dX11_spend_34 ?_
    exact hret dX11_spend_36 rfl hw h
  unfold f_X11_spend at h
  refine lv_aload_n hx hb dX11_spend_0 rfl (lv_at hl 0 rfl) ?_
  refine lv_iload_n hx hb dX11_spend_1 rfl (lv_at hl 1 rfl) ?_
  refine xh_cVi C hw (rest := []) h (fun _ hy => c_X11_isMember hq hN hy) ml_RX11_69 mv_X11_isMember sX_0 (x_lt hN rfl) rfl ⟨rfl, rfl, by decide, by decide⟩ rfl hl.1 rfl (Nat.le_of_ble_eq_true rfl) dX11_spend_2 (fun H locs r2 M hw h => ?_)
  refine x_if_eq (tgt := 34) hx hb h dX11_spend_5 (by decide) (fun h => ?_) (fun h => ?_)
  · exact w34 _ _ _ _ hw (lv_sub hl [] rfl) h
  · refine lv_aload_n hx hb dX11_spend_8 rfl (lv_at hl 0 rfl) ?_
    refine lv_iload_n hx hb dX11_spend_9 rfl (lv_at hl 2 rfl) ?_
    refine xh_cVi C hw (rest := []) h (fun _ hy => c_X11_isPast hq hN hy) ml_RX11_109 mv_X11_isPast sX_0 (x_lt hN rfl) rfl ⟨rfl, rfl, by decide, by decide⟩ rfl hl.1 rfl (Nat.le_of_ble_eq_true rfl) dX11_spend_10 (fun H locs r10 M hw h => ?_)
    refine x_if_eq (tgt := 34) hx hb h dX11_spend_13 (by decide) (fun h => ?_) (fun h => ?_)
    · exact w34 _ _ _ _ hw (lv_sub hl [] rfl) h
    · refine lv_iload_n hx hb dX11_spend_16 rfl (lv_at hl 3 rfl) ?_
      refine lv_iconst (v := (nI 1)) hx hb dX11_spend_17 (by decide) ?_
      refine lv_ldc hx hb ho (hL _ kc_RX11_119) dX11_spend_18 ?_
      refine xh_cSi C hw (rest := []) h (fun _ hy => c_X11_within hq hN hy) ml_RX11_54 st_X11_within ⟨rfl, rfl, by decide, by decide⟩ rfl hl.1 rfl (Nat.le_of_ble_eq_true rfl) dX11_spend_20 (fun H locs r20 M hw h => ?_)
      refine x_if_eq (tgt := 34) hx hb h dX11_spend_23 (by decide) (fun h => ?_) (fun h => ?_)
      · exact w34 _ _ _ _ hw (lv_sub hl [] rfl) h
      · refine lv_iload hx hb dX11_spend_26 (lv_at hl 4 rfl) ?_
        refine xh_cSi C hw (rest := []) h (fun _ hy => c_X11_isPartner hq hN hy) ml_RX11_112 st_X11_isPartner ⟨rfl, rfl, by decide, by decide⟩ rfl hl.1 rfl (Nat.le_of_ble_eq_true rfl) dX11_spend_28 (fun H locs r28 M hw h => ?_)
        refine x_if_ne (tgt := 37) hx hb h dX11_spend_31 (by decide) (fun h => ?_) (fun h => ?_)
        · exact w34 _ _ _ _ hw (lv_sub hl [] rfl) h
        · refine lv_aload_n hx hb dX11_spend_37 rfl (lv_at hl 0 rfl) ?_
          refine xh_getr C hw 0 0 sX_0 (x_lt hN rfl) rfl rfl rfl lk_RX11_12 dX11_spend_38 ?_
          refine lv_iconst (v := (nI 1)) hx hb dX11_spend_41 (by decide) ?_
          refine lv_iload_n hx hb dX11_spend_42 rfl (lv_at hl 1 rfl) ?_
          refine lv_iload_n hx hb dX11_spend_43 rfl (lv_at hl 2 rfl) ?_
          refine lv_iload_n hx hb dX11_spend_44 rfl (lv_at hl 3 rfl) ?_
          refine lv_iload hx hb dX11_spend_45 (lv_at hl 4 rfl) ?_
          refine lv_iconst (v := (nI 0)) hx hb dX11_spend_47 (by decide) ?_
          refine xh_cVi C hw (rest := []) h (fun _ hy => c_X0_newLine hq hN hy) ml_RX11_115 mv_X0_newLine sX_1 (x_lt hN rfl) rfl ⟨rfl, rfl, by decide, by decide⟩ rfl hl.1 rfl (Nat.le_of_ble_eq_true rfl) dX11_spend_48 (fun H locs r48 M hw h => ?_)
          exact hret dX11_spend_51 rfl hw h
def f_X11_gift_35 (M : x_M) : Option (Int32 × x_M) := some ((-1000000001), M)
def f_X11_gift (M : x_M) (a1 : Int32) (a2 : Int32) (a3 : Int32) (a4 : Int32) : Option (Int32 × x_M) := x_bn (f_X11_isMember M a1) (fun r2 M => if r2 = 0 then f_X11_gift_35 M else x_bn (f_X11_isPast M a2) (fun r10 M => if r10 = 0 then f_X11_gift_35 M else x_bn (f_X11_within M a3 (nI 1) (nI 99999)) (fun r20 M => if r20 = 0 then f_X11_gift_35 M else x_bn (f_X11_isMember M a4) (fun r29 M => if r29 = 0 then f_X11_gift_35 M else if a1 = a4 then some ((-1000000001), M) else x_bn (f_X0_newLine M (nI 2) a1 a2 a3 a4 (nI 0)) (fun r58 M => some (r58, M))))))
abbrev rm_X11_gift : Room := { frames := 3, cells := 0, slots := 0, locals := 75 }
set_option maxHeartbeats 4000000 in
set_option maxRecDepth 100000 in
theorem c_X11_gift {l : Launch} {D : va_G} {cy : Nat → ClassId} {q ad : Nat → Nat} {NC : Nat} {s0 : State} (hq : x_Q q NC s0.heap.size) (hN : 88 ≤ NC) {M : x_M} {a1 : Int32} {a2 : Int32} {a3 : Int32} {a4 : Int32} {z : Int32 × x_M} (h : f_X11_gift M a1 a2 a3 a4 = some z) : x_Ci l D cy q ad x_spX NC s0 yX11_gift (x_uw yX11_gift cX11_gift 5 (some .int)) rm_X11_gift [.ref (q 0), .int a1, .int a2, .int a3, .int a4] M z.1 z.2 := by
  refine x_meti hq (by decide) (Nat.le_of_ble_eq_true rfl) ?_
  intro p e s m args below meth c ls Q C hret hl hw
  have hx := C.1.1
  have hb := C.1.2.1
  have ho := C.1.2.2.2.1
  have hL := C.1.2.2.2.2
  have hl : lv_has ls 5 [(0, .ref (q 0)), (1, .int a1), (2, .int a2), (3, .int a3), (4, .int a4)] := hl
  have w35 : ∀ (M : x_M) (H : Heap) (locs : List Loc) (ls : Array Slot), x_B D cy q ad x_spX NC s H locs M → lv_has ls 5 [] → f_X11_gift_35 M = some z → W p l e rm_X11_gift s m args below meth c H locs 0 0 Q (F0 m 35 ls []) := by
    intro M H locs ls hw hl h
    unfold f_X11_gift_35 at h
    refine lv_ldc hx hb ho (hL _ kc_RX11_58) dX11_gift_35 ?_
    exact hret dX11_gift_37 rfl hw h
  unfold f_X11_gift at h
  refine lv_aload_n hx hb dX11_gift_0 rfl (lv_at hl 0 rfl) ?_
  refine lv_iload_n hx hb dX11_gift_1 rfl (lv_at hl 1 rfl) ?_
  refine xh_cVi C hw (rest := []) h (fun _ hy => c_X11_isMember hq hN hy) ml_RX11_69 mv_X11_isMember sX_0 (x_lt hN rfl) rfl ⟨rfl, rfl, by decide, by decide⟩ rfl hl.1 rfl (Nat.le_of_ble_eq_true rfl) dX11_gift_2 (fun H locs r2 M hw h => ?_)
  refine x_if_eq (tgt := 35) hx hb h dX11_gift_5 (by decide) (fun h => ?_) (fun h => ?_)
  · exact w35 _ _ _ _ hw (lv_sub hl [] rfl) h
  · refine lv_aload_n hx hb dX11_gift_8 rfl (lv_at hl 0 rfl) ?_
    refine lv_iload_n hx hb dX11_gift_9 rfl (lv_at hl 2 rfl) ?_
    refine xh_cVi C hw (rest := []) h (fun _ hy => c_X11_isPast hq hN hy) ml_RX11_109 mv_X11_isPast sX_0 (x_lt hN rfl) rfl ⟨rfl, rfl, by decide, by decide⟩ rfl hl.1 rfl (Nat.le_of_ble_eq_true rfl) dX11_gift_10 (fun H locs r10 M hw h => ?_)
    refine x_if_eq (tgt := 35) hx hb h dX11_gift_13 (by decide) (fun h => ?_) (fun h => ?_)
    · exact w35 _ _ _ _ hw (lv_sub hl [] rfl) h
    · refine lv_iload_n hx hb dX11_gift_16 rfl (lv_at hl 3 rfl) ?_
      refine lv_iconst (v := (nI 1)) hx hb dX11_gift_17 (by decide) ?_
      refine lv_ldc hx hb ho (hL _ kc_RX11_119) dX11_gift_18 ?_
      refine xh_cSi C hw (rest := []) h (fun _ hy => c_X11_within hq hN hy) ml_RX11_54 st_X11_within ⟨rfl, rfl, by decide, by decide⟩ rfl hl.1 rfl (Nat.le_of_ble_eq_true rfl) dX11_gift_20 (fun H locs r20 M hw h => ?_)
      refine x_if_eq (tgt := 35) hx hb h dX11_gift_23 (by decide) (fun h => ?_) (fun h => ?_)
      · exact w35 _ _ _ _ hw (lv_sub hl [] rfl) h
      · refine lv_aload_n hx hb dX11_gift_26 rfl (lv_at hl 0 rfl) ?_
        refine lv_iload hx hb dX11_gift_27 (lv_at hl 4 rfl) ?_
        refine xh_cVi C hw (rest := []) h (fun _ hy => c_X11_isMember hq hN hy) ml_RX11_69 mv_X11_isMember sX_0 (x_lt hN rfl) rfl ⟨rfl, rfl, by decide, by decide⟩ rfl hl.1 rfl (Nat.le_of_ble_eq_true rfl) dX11_gift_29 (fun H locs r29 M hw h => ?_)
        refine x_if_ne (tgt := 38) hx hb h dX11_gift_32 (by decide) (fun h => ?_) (fun h => ?_)
        · exact w35 _ _ _ _ hw (lv_sub hl [] rfl) h
        · refine lv_iload_n hx hb dX11_gift_38 rfl (lv_at hl 1 rfl) ?_
          refine lv_iload hx hb dX11_gift_39 (lv_at hl 4 rfl) ?_
          refine x_icmp_ne (tgt := 47) hx hb h dX11_gift_41 (by decide) (fun h => ?_) (fun h => ?_)
          · refine lv_ldc hx hb ho (hL _ kc_RX11_58) dX11_gift_44 ?_
            exact hret dX11_gift_46 rfl hw h
          · refine lv_aload_n hx hb dX11_gift_47 rfl (lv_at hl 0 rfl) ?_
            refine xh_getr C hw 0 0 sX_0 (x_lt hN rfl) rfl rfl rfl lk_RX11_12 dX11_gift_48 ?_
            refine lv_iconst (v := (nI 2)) hx hb dX11_gift_51 (by decide) ?_
            refine lv_iload_n hx hb dX11_gift_52 rfl (lv_at hl 1 rfl) ?_
            refine lv_iload_n hx hb dX11_gift_53 rfl (lv_at hl 2 rfl) ?_
            refine lv_iload_n hx hb dX11_gift_54 rfl (lv_at hl 3 rfl) ?_
            refine lv_iload hx hb dX11_gift_55 (lv_at hl 4 rfl) ?_
            refine lv_iconst (v := (nI 0)) hx hb dX11_gift_57 (by decide) ?_
            refine xh_cVi C hw (rest := []) h (fun _ hy => c_X0_newLine hq hN hy) ml_RX11_115 mv_X0_newLine sX_1 (x_lt hN rfl) rfl ⟨rfl, rfl, by decide, by decide⟩ rfl hl.1 rfl (Nat.le_of_ble_eq_true rfl) dX11_gift_58 (fun H locs r58 M hw h => ?_)
            exact hret dX11_gift_61 rfl hw h
def f_X11_isLine (M : x_M) (a1 : Int32) : Option (Int32 × x_M) := x_gf M 6 9 (fun r9 => x_bn (f_X11_within M a1 (nI 0) (r9 - (nI 1))) (fun r14 M => x_cz r14 (some (r14, M))))
abbrev rm_X11_isLine : Room := { frames := 1, cells := 0, slots := 0, locals := 22 }
set_option maxHeartbeats 4000000 in
set_option maxRecDepth 100000 in
theorem c_X11_isLine {l : Launch} {D : va_G} {cy : Nat → ClassId} {q ad : Nat → Nat} {NC : Nat} {s0 : State} (hq : x_Q q NC s0.heap.size) (hN : 88 ≤ NC) {M : x_M} {a1 : Int32} {z : Int32 × x_M} (h : f_X11_isLine M a1 = some z) : x_Ci l D cy q ad x_spX NC s0 yX11_isLine (x_uw yX11_isLine cX11_isLine 2 (some .boolean)) rm_X11_isLine [.ref (q 0), .int a1] M z.1 z.2 := by
  refine x_meti hq (by decide) (Nat.le_of_ble_eq_true rfl) ?_
  intro p e s m args below meth c ls Q C hret hl hw
  have hx := C.1.1
  have hb := C.1.2.1
  have ho := C.1.2.2.2.1
  have hL := C.1.2.2.2.2
  have hl : lv_has ls 2 [(0, .ref (q 0)), (1, .int a1)] := hl
  unfold f_X11_isLine at h
  refine lv_iload_n hx hb dX11_isLine_0 rfl (lv_at hl 1 rfl) ?_
  refine lv_iconst (v := (nI 0)) hx hb dX11_isLine_1 (by decide) ?_
  refine lv_aload_n hx hb dX11_isLine_2 rfl (lv_at hl 0 rfl) ?_
  refine xh_getr C hw 0 0 sX_0 (x_lt hN rfl) rfl rfl rfl lk_RX11_12 dX11_isLine_3 ?_
  refine xh_getr C hw 1 1 sX_1 (x_lt hN rfl) rfl rfl rfl lk_RX11_123 dX11_isLine_6 ?_
  refine xh_geti C hw 6 9 h sX_6 (x_lt hN rfl) rfl rfl rfl lk_RX11_265 dX11_isLine_9 (fun r9 h => ?_)
  refine lv_iconst (v := (nI 1)) hx hb dX11_isLine_12 (by decide) ?_
  refine lv_isub hx hb dX11_isLine_13 ?_
  refine xh_cSi C hw (rest := []) h (fun _ hy => c_X11_within hq hN hy) ml_RX11_54 st_X11_within ⟨rfl, rfl, by decide, by decide⟩ rfl hl.1 rfl (Nat.le_of_ble_eq_true rfl) dX11_isLine_14 (fun H locs r14 M hw h => ?_)
  exact hret dX11_isLine_17 (x_z_nar (x_cz_some h).1) hw (x_cz_some h).2
def f_X11_back_16 (M : x_M) : Option (Int32 × x_M) := some ((-1000000001), M)
def f_X11_back_47 (M : x_M) : Option (Int32 × x_M) := some ((-1000000001), M)
def f_X11_back (M : x_M) (a1 : Int32) (a2 : Int32) : Option (Int32 × x_M) := x_bn (f_X11_isLine M a1) (fun r2 M => if r2 = 0 then f_X11_back_16 M else x_bn (f_X11_isPast M a2) (fun r10 M => if r10 = 0 then f_X11_back_16 M else x_rd 100 (M 7) a1 (fun r32 => if r32 = (nI 1) then x_rd 100 (M 9) a1 (fun r43 => if r43 ≤ a2 then x_rd 100 (M 8) a1 (fun r60 => x_rd 100 (M 12) a1 (fun r67 => x_bn (f_X0_newLine M (nI 3) r60 a2 r67 a1 (nI 0)) (fun r70 M => some (r70, M)))) else f_X11_back_47 M) else f_X11_back_47 M)))
abbrev rm_X11_back : Room := { frames := 3, cells := 0, slots := 0, locals := 75 }
set_option maxHeartbeats 4000000 in
set_option maxRecDepth 100000 in
theorem c_X11_back {l : Launch} {D : va_G} {cy : Nat → ClassId} {q ad : Nat → Nat} {NC : Nat} {s0 : State} (hq : x_Q q NC s0.heap.size) (hN : 88 ≤ NC) {M : x_M} {a1 : Int32} {a2 : Int32} {z : Int32 × x_M} (h : f_X11_back M a1 a2 = some z) : x_Ci l D cy q ad x_spX NC s0 yX11_back (x_uw yX11_back cX11_back 4 (some .int)) rm_X11_back [.ref (q 0), .int a1, .int a2] M z.1 z.2 := by
  refine x_meti hq (by decide) (Nat.le_of_ble_eq_true rfl) ?_
  intro p e s m args below meth c ls Q C hret hl hw
  have hx := C.1.1
  have hb := C.1.2.1
  have ho := C.1.2.2.2.1
  have hL := C.1.2.2.2.2
  have hl : lv_has ls 4 [(0, .ref (q 0)), (1, .int a1), (2, .int a2)] := hl
  have w16 : ∀ (M : x_M) (H : Heap) (locs : List Loc) (ls : Array Slot), x_B D cy q ad x_spX NC s H locs M → lv_has ls 4 [] → f_X11_back_16 M = some z → W p l e rm_X11_back s m args below meth c H locs 0 0 Q (F0 m 16 ls []) := by
    intro M H locs ls hw hl h
    unfold f_X11_back_16 at h
    refine lv_ldc hx hb ho (hL _ kc_RX11_58) dX11_back_16 ?_
    exact hret dX11_back_18 rfl hw h
  have w47 : ∀ (M : x_M) (H : Heap) (locs : List Loc) (ls : Array Slot), x_B D cy q ad x_spX NC s H locs M → lv_has ls 4 [] → f_X11_back_47 M = some z → W p l e rm_X11_back s m args below meth c H locs 0 0 Q (F0 m 47 ls []) := by
    intro M H locs ls hw hl h
    unfold f_X11_back_47 at h
    refine lv_ldc hx hb ho (hL _ kc_RX11_58) dX11_back_47 ?_
    exact hret dX11_back_49 rfl hw h
  unfold f_X11_back at h
  refine lv_aload_n hx hb dX11_back_0 rfl (lv_at hl 0 rfl) ?_
  refine lv_iload_n hx hb dX11_back_1 rfl (lv_at hl 1 rfl) ?_
  refine xh_cVi C hw (rest := []) h (fun _ hy => c_X11_isLine hq hN hy) ml_RX11_120 mv_X11_isLine sX_0 (x_lt hN rfl) rfl ⟨rfl, rfl, by decide, by decide⟩ rfl hl.1 rfl (Nat.le_of_ble_eq_true rfl) dX11_back_2 (fun H locs r2 M hw h => ?_)
  refine x_if_eq (tgt := 16) hx hb h dX11_back_5 (by decide) (fun h => ?_) (fun h => ?_)
  · exact w16 _ _ _ _ hw (lv_sub hl [] rfl) h
  · refine lv_aload_n hx hb dX11_back_8 rfl (lv_at hl 0 rfl) ?_
    refine lv_iload_n hx hb dX11_back_9 rfl (lv_at hl 2 rfl) ?_
    refine xh_cVi C hw (rest := []) h (fun _ hy => c_X11_isPast hq hN hy) ml_RX11_109 mv_X11_isPast sX_0 (x_lt hN rfl) rfl ⟨rfl, rfl, by decide, by decide⟩ rfl hl.1 rfl (Nat.le_of_ble_eq_true rfl) dX11_back_10 (fun H locs r10 M hw h => ?_)
    refine x_if_ne (tgt := 19) hx hb h dX11_back_13 (by decide) (fun h => ?_) (fun h => ?_)
    · exact w16 _ _ _ _ hw (lv_sub hl [] rfl) h
    · refine lv_aload_n hx hb dX11_back_19 rfl (lv_at hl 0 rfl) ?_
      refine xh_getr C hw 0 0 sX_0 (x_lt hN rfl) rfl rfl rfl lk_RX11_12 dX11_back_20 ?_
      refine xh_getr C hw 1 1 sX_1 (x_lt hN rfl) rfl rfl rfl lk_RX11_123 dX11_back_23 ?_
      refine lv_astore_n (lv' := [(3, .ref (q 6)), (0, .ref (q 0)), (1, .int _), (2, .int _)]) hx hb dX11_back_26 rfl hl (by decide) rfl (fun ls hl => ?_)
      refine lv_aload_n hx hb dX11_back_27 rfl (lv_at hl 0 rfl) ?_
      refine xh_getr C hw 6 0 sX_6 (x_lt hN rfl) rfl rfl rfl lk_RX11_127 dX11_back_28 ?_
      refine lv_iload_n hx hb dX11_back_31 rfl (lv_at hl 2 rfl) ?_
      refine xh_iald C hw 7 100 h sX_7 (x_lt hN rfl) dX11_back_32 (fun r32 h => ?_)
      refine lv_iconst (v := (nI 1)) hx hb dX11_back_33 (by decide) ?_
      refine x_icmp_ne (tgt := 47) hx hb h dX11_back_34 (by decide) (fun h => ?_) (fun h => ?_)
      · refine lv_iload_n hx hb dX11_back_37 rfl (lv_at hl 3 rfl) ?_
        refine lv_aload_n hx hb dX11_back_38 rfl (lv_at hl 0 rfl) ?_
        refine xh_getr C hw 6 2 sX_6 (x_lt hN rfl) rfl rfl rfl lk_RX11_132 dX11_back_39 ?_
        refine lv_iload_n hx hb dX11_back_42 rfl (lv_at hl 2 rfl) ?_
        refine xh_iald C hw 9 100 h sX_9 (x_lt hN rfl) dX11_back_43 (fun r43 h => ?_)
        refine x_icmp_ge (tgt := 50) hx hb h dX11_back_44 (by decide) (fun h => ?_) (fun h => ?_)
        · refine lv_aload_n hx hb dX11_back_50 rfl (lv_at hl 1 rfl) ?_
          refine xh_getr C hw 0 0 sX_0 (x_lt hN rfl) rfl rfl rfl lk_RX11_12 dX11_back_51 ?_
          refine lv_iconst (v := (nI 3)) hx hb dX11_back_54 (by decide) ?_
          refine lv_aload_n hx hb dX11_back_55 rfl (lv_at hl 0 rfl) ?_
          refine xh_getr C hw 6 1 sX_6 (x_lt hN rfl) rfl rfl rfl lk_RX11_135 dX11_back_56 ?_
          refine lv_iload_n hx hb dX11_back_59 rfl (lv_at hl 2 rfl) ?_
          refine xh_iald C hw 8 100 h sX_8 (x_lt hN rfl) dX11_back_60 (fun r60 h => ?_)
          refine lv_iload_n hx hb dX11_back_61 rfl (lv_at hl 3 rfl) ?_
          refine lv_aload_n hx hb dX11_back_62 rfl (lv_at hl 0 rfl) ?_
          refine xh_getr C hw 6 5 sX_6 (x_lt hN rfl) rfl rfl rfl lk_RX11_138 dX11_back_63 ?_
          refine lv_iload_n hx hb dX11_back_66 rfl (lv_at hl 2 rfl) ?_
          refine xh_iald C hw 12 100 h sX_12 (x_lt hN rfl) dX11_back_67 (fun r67 h => ?_)
          refine lv_iload_n hx hb dX11_back_68 rfl (lv_at hl 2 rfl) ?_
          refine lv_iconst (v := (nI 0)) hx hb dX11_back_69 (by decide) ?_
          refine xh_cVi C hw (rest := []) h (fun _ hy => c_X0_newLine hq hN hy) ml_RX11_115 mv_X0_newLine sX_1 (x_lt hN rfl) rfl ⟨rfl, rfl, by decide, by decide⟩ rfl hl.1 rfl (Nat.le_of_ble_eq_true rfl) dX11_back_70 (fun H locs r70 M hw h => ?_)
          exact hret dX11_back_73 rfl hw h
        · exact w47 _ _ _ _ hw (lv_sub hl [] rfl) h
      · exact w47 _ _ _ _ hw (lv_sub hl [] rfl) h
def f_X11_withdraw (M : x_M) (a1 : Int32) : Option (Int32 × x_M) := x_bn (f_X11_isLine M a1) (fun r2 M => if r2 = 0 then some ((-1000000001), M) else x_rd 100 (M 11) a1 (fun r22 => if r22 = (-1000000005) then x_gf M 1 8 (fun r46 => x_wr 100 M 11 a1 r46 (fun M => some ((nI 1), M))) else some ((-1000000002), M)))
abbrev rm_X11_withdraw : Room := { frames := 2, cells := 0, slots := 0, locals := 43 }
set_option maxHeartbeats 4000000 in
set_option maxRecDepth 100000 in
theorem c_X11_withdraw {l : Launch} {D : va_G} {cy : Nat → ClassId} {q ad : Nat → Nat} {NC : Nat} {s0 : State} (hq : x_Q q NC s0.heap.size) (hN : 88 ≤ NC) {M : x_M} {a1 : Int32} {z : Int32 × x_M} (h : f_X11_withdraw M a1 = some z) : x_Ci l D cy q ad x_spX NC s0 yX11_withdraw (x_uw yX11_withdraw cX11_withdraw 2 (some .int)) rm_X11_withdraw [.ref (q 0), .int a1] M z.1 z.2 := by
  refine x_meti hq (by decide) (Nat.le_of_ble_eq_true rfl) ?_
  intro p e s m args below meth c ls Q C hret hl hw
  have hx := C.1.1
  have hb := C.1.2.1
  have ho := C.1.2.2.2.1
  have hL := C.1.2.2.2.2
  have hl : lv_has ls 2 [(0, .ref (q 0)), (1, .int a1)] := hl
  unfold f_X11_withdraw at h
  refine lv_aload_n hx hb dX11_withdraw_0 rfl (lv_at hl 0 rfl) ?_
  refine lv_iload_n hx hb dX11_withdraw_1 rfl (lv_at hl 1 rfl) ?_
  refine xh_cVi C hw (rest := []) h (fun _ hy => c_X11_isLine hq hN hy) ml_RX11_120 mv_X11_isLine sX_0 (x_lt hN rfl) rfl ⟨rfl, rfl, by decide, by decide⟩ rfl hl.1 rfl (Nat.le_of_ble_eq_true rfl) dX11_withdraw_2 (fun H locs r2 M hw h => ?_)
  refine x_if_ne (tgt := 11) hx hb h dX11_withdraw_5 (by decide) (fun h => ?_) (fun h => ?_)
  · refine lv_ldc hx hb ho (hL _ kc_RX11_58) dX11_withdraw_8 ?_
    exact hret dX11_withdraw_10 rfl hw h
  · refine lv_aload_n hx hb dX11_withdraw_11 rfl (lv_at hl 0 rfl) ?_
    refine xh_getr C hw 0 0 sX_0 (x_lt hN rfl) rfl rfl rfl lk_RX11_12 dX11_withdraw_12 ?_
    refine xh_getr C hw 1 1 sX_1 (x_lt hN rfl) rfl rfl rfl lk_RX11_123 dX11_withdraw_15 ?_
    refine xh_getr C hw 6 4 sX_6 (x_lt hN rfl) rfl rfl rfl lk_RX11_141 dX11_withdraw_18 ?_
    refine lv_iload_n hx hb dX11_withdraw_21 rfl (lv_at hl 1 rfl) ?_
    refine xh_iald C hw 11 100 h sX_11 (x_lt hN rfl) dX11_withdraw_22 (fun r22 h => ?_)
    refine lv_ldc hx hb ho (hL _ kc_RX11_77) dX11_withdraw_23 ?_
    refine x_icmp_eq (tgt := 31) hx hb h dX11_withdraw_25 (by decide) (fun h => ?_) (fun h => ?_)
    · refine lv_aload_n hx hb dX11_withdraw_31 rfl (lv_at hl 0 rfl) ?_
      refine xh_getr C hw 0 0 sX_0 (x_lt hN rfl) rfl rfl rfl lk_RX11_12 dX11_withdraw_32 ?_
      refine xh_getr C hw 1 1 sX_1 (x_lt hN rfl) rfl rfl rfl lk_RX11_123 dX11_withdraw_35 ?_
      refine xh_getr C hw 6 4 sX_6 (x_lt hN rfl) rfl rfl rfl lk_RX11_141 dX11_withdraw_38 ?_
      refine lv_iload_n hx hb dX11_withdraw_41 rfl (lv_at hl 1 rfl) ?_
      refine lv_aload_n hx hb dX11_withdraw_42 rfl (lv_at hl 0 rfl) ?_
      refine xh_getr C hw 0 0 sX_0 (x_lt hN rfl) rfl rfl rfl lk_RX11_12 dX11_withdraw_43 ?_
      refine xh_geti C hw 1 8 h sX_1 (x_lt hN rfl) rfl rfl rfl lk_RX11_97 dX11_withdraw_46 (fun r46 h => ?_)
      refine xh_iast C hw 11 100 h sX_11 (x_lt hN rfl) dX11_withdraw_49 (fun H locs M hw h => ?_)
      refine lv_iconst (v := (nI 1)) hx hb dX11_withdraw_50 (by decide) ?_
      exact hret dX11_withdraw_51 rfl hw h
    · refine lv_ldc hx hb ho (hL _ kc_RX11_144) dX11_withdraw_28 ?_
      exact hret dX11_withdraw_30 rfl hw h
def f_X11_line (M : x_M) (a1 : Int32) (a2 : Int32) : Option (Int32 × x_M) := x_bn (f_X11_isLine M a1) (fun r2 M => if r2 = 0 then some ((-1000000001), M) else if a2 = (nI 0) then x_rd 100 (M 7) a1 (fun r69 => some (r69, M)) else if a2 = (nI 1) then x_rd 100 (M 8) a1 (fun r76 => some (r76, M)) else if a2 = (nI 2) then x_rd 100 (M 9) a1 (fun r83 => some (r83, M)) else if a2 = (nI 3) then x_rd 100 (M 10) a1 (fun r90 => some (r90, M)) else if a2 = (nI 4) then x_rd 100 (M 11) a1 (fun r97 => some (r97, M)) else if a2 = (nI 5) then x_rd 100 (M 12) a1 (fun r104 => some (r104, M)) else if a2 = (nI 6) then x_rd 100 (M 13) a1 (fun r111 => some (r111, M)) else some ((-1000000001), M))
abbrev rm_X11_line : Room := { frames := 2, cells := 0, slots := 0, locals := 43 }
set_option maxHeartbeats 4000000 in
set_option maxRecDepth 100000 in
theorem c_X11_line {l : Launch} {D : va_G} {cy : Nat → ClassId} {q ad : Nat → Nat} {NC : Nat} {s0 : State} (hq : x_Q q NC s0.heap.size) (hN : 88 ≤ NC) {M : x_M} {a1 : Int32} {a2 : Int32} {z : Int32 × x_M} (h : f_X11_line M a1 a2 = some z) : x_Ci l D cy q ad x_spX NC s0 yX11_line (x_uw yX11_line cX11_line 4 (some .int)) rm_X11_line [.ref (q 0), .int a1, .int a2] M z.1 z.2 := by
  refine x_meti hq (by decide) (Nat.le_of_ble_eq_true rfl) ?_
  intro p e s m args below meth c ls Q C hret hl hw
  have hx := C.1.1
  have hb := C.1.2.1
  have ho := C.1.2.2.2.1
  have hL := C.1.2.2.2.2
  have hl : lv_has ls 4 [(0, .ref (q 0)), (1, .int a1), (2, .int a2)] := hl
  unfold f_X11_line at h
  refine lv_aload_n hx hb dX11_line_0 rfl (lv_at hl 0 rfl) ?_
  refine lv_iload_n hx hb dX11_line_1 rfl (lv_at hl 1 rfl) ?_
  refine xh_cVi C hw (rest := []) h (fun _ hy => c_X11_isLine hq hN hy) ml_RX11_120 mv_X11_isLine sX_0 (x_lt hN rfl) rfl ⟨rfl, rfl, by decide, by decide⟩ rfl hl.1 rfl (Nat.le_of_ble_eq_true rfl) dX11_line_2 (fun H locs r2 M hw h => ?_)
  refine x_if_ne (tgt := 11) hx hb h dX11_line_5 (by decide) (fun h => ?_) (fun h => ?_)
  · refine lv_ldc hx hb ho (hL _ kc_RX11_58) dX11_line_8 ?_
    exact hret dX11_line_10 rfl hw h
  · refine lv_aload_n hx hb dX11_line_11 rfl (lv_at hl 0 rfl) ?_
    refine xh_getr C hw 0 0 sX_0 (x_lt hN rfl) rfl rfl rfl lk_RX11_12 dX11_line_12 ?_
    refine xh_getr C hw 1 1 sX_1 (x_lt hN rfl) rfl rfl rfl lk_RX11_123 dX11_line_15 ?_
    refine lv_astore_n (lv' := [(3, .ref (q 6)), (0, .ref (q 0)), (1, .int _), (2, .int _)]) hx hb dX11_line_18 rfl hl (by decide) rfl (fun ls hl => ?_)
    refine lv_iload_n hx hb dX11_line_19 rfl (lv_at hl 3 rfl) ?_
    refine (Decidable.em (a2 = (nI 0))).elim (fun c20_0 => ?_) (fun c20_0 => ?_)
    · rw [if_pos c20_0] at h
      rw [c20_0]
      refine lv_tableIn (off := 44) (tgt := 64) hx hb dX11_line_20 (by decide) (by decide) (by decide) (by decide) ?_
      refine lv_aload_n hx hb dX11_line_64 rfl (lv_at hl 0 rfl) ?_
      refine xh_getr C hw 6 0 sX_6 (x_lt hN rfl) rfl rfl rfl lk_RX11_127 dX11_line_65 ?_
      refine lv_iload_n hx hb dX11_line_68 rfl (lv_at hl 2 rfl) ?_
      refine xh_iald C hw 7 100 h sX_7 (x_lt hN rfl) dX11_line_69 (fun r69 h => ?_)
      exact hret dX11_line_70 rfl hw h
    rw [if_neg c20_0] at h
    refine (Decidable.em (a2 = (nI 1))).elim (fun c20_1 => ?_) (fun c20_1 => ?_)
    · rw [if_pos c20_1] at h
      rw [c20_1]
      refine lv_tableIn (off := 51) (tgt := 71) hx hb dX11_line_20 (by decide) (by decide) (by decide) (by decide) ?_
      refine lv_aload_n hx hb dX11_line_71 rfl (lv_at hl 0 rfl) ?_
      refine xh_getr C hw 6 1 sX_6 (x_lt hN rfl) rfl rfl rfl lk_RX11_135 dX11_line_72 ?_
      refine lv_iload_n hx hb dX11_line_75 rfl (lv_at hl 2 rfl) ?_
      refine xh_iald C hw 8 100 h sX_8 (x_lt hN rfl) dX11_line_76 (fun r76 h => ?_)
      exact hret dX11_line_77 rfl hw h
    rw [if_neg c20_1] at h
    refine (Decidable.em (a2 = (nI 2))).elim (fun c20_2 => ?_) (fun c20_2 => ?_)
    · rw [if_pos c20_2] at h
      rw [c20_2]
      refine lv_tableIn (off := 58) (tgt := 78) hx hb dX11_line_20 (by decide) (by decide) (by decide) (by decide) ?_
      refine lv_aload_n hx hb dX11_line_78 rfl (lv_at hl 0 rfl) ?_
      refine xh_getr C hw 6 2 sX_6 (x_lt hN rfl) rfl rfl rfl lk_RX11_132 dX11_line_79 ?_
      refine lv_iload_n hx hb dX11_line_82 rfl (lv_at hl 2 rfl) ?_
      refine xh_iald C hw 9 100 h sX_9 (x_lt hN rfl) dX11_line_83 (fun r83 h => ?_)
      exact hret dX11_line_84 rfl hw h
    rw [if_neg c20_2] at h
    refine (Decidable.em (a2 = (nI 3))).elim (fun c20_3 => ?_) (fun c20_3 => ?_)
    · rw [if_pos c20_3] at h
      rw [c20_3]
      refine lv_tableIn (off := 65) (tgt := 85) hx hb dX11_line_20 (by decide) (by decide) (by decide) (by decide) ?_
      refine lv_aload_n hx hb dX11_line_85 rfl (lv_at hl 0 rfl) ?_
      refine xh_getr C hw 6 3 sX_6 (x_lt hN rfl) rfl rfl rfl lk_RX11_145 dX11_line_86 ?_
      refine lv_iload_n hx hb dX11_line_89 rfl (lv_at hl 2 rfl) ?_
      refine xh_iald C hw 10 100 h sX_10 (x_lt hN rfl) dX11_line_90 (fun r90 h => ?_)
      exact hret dX11_line_91 rfl hw h
    rw [if_neg c20_3] at h
    refine (Decidable.em (a2 = (nI 4))).elim (fun c20_4 => ?_) (fun c20_4 => ?_)
    · rw [if_pos c20_4] at h
      rw [c20_4]
      refine lv_tableIn (off := 72) (tgt := 92) hx hb dX11_line_20 (by decide) (by decide) (by decide) (by decide) ?_
      refine lv_aload_n hx hb dX11_line_92 rfl (lv_at hl 0 rfl) ?_
      refine xh_getr C hw 6 4 sX_6 (x_lt hN rfl) rfl rfl rfl lk_RX11_141 dX11_line_93 ?_
      refine lv_iload_n hx hb dX11_line_96 rfl (lv_at hl 2 rfl) ?_
      refine xh_iald C hw 11 100 h sX_11 (x_lt hN rfl) dX11_line_97 (fun r97 h => ?_)
      exact hret dX11_line_98 rfl hw h
    rw [if_neg c20_4] at h
    refine (Decidable.em (a2 = (nI 5))).elim (fun c20_5 => ?_) (fun c20_5 => ?_)
    · rw [if_pos c20_5] at h
      rw [c20_5]
      refine lv_tableIn (off := 79) (tgt := 99) hx hb dX11_line_20 (by decide) (by decide) (by decide) (by decide) ?_
      refine lv_aload_n hx hb dX11_line_99 rfl (lv_at hl 0 rfl) ?_
      refine xh_getr C hw 6 5 sX_6 (x_lt hN rfl) rfl rfl rfl lk_RX11_138 dX11_line_100 ?_
      refine lv_iload_n hx hb dX11_line_103 rfl (lv_at hl 2 rfl) ?_
      refine xh_iald C hw 12 100 h sX_12 (x_lt hN rfl) dX11_line_104 (fun r104 h => ?_)
      exact hret dX11_line_105 rfl hw h
    rw [if_neg c20_5] at h
    refine (Decidable.em (a2 = (nI 6))).elim (fun c20_6 => ?_) (fun c20_6 => ?_)
    · rw [if_pos c20_6] at h
      rw [c20_6]
      refine lv_tableIn (off := 86) (tgt := 106) hx hb dX11_line_20 (by decide) (by decide) (by decide) (by decide) ?_
      refine lv_aload_n hx hb dX11_line_106 rfl (lv_at hl 0 rfl) ?_
      refine xh_getr C hw 6 6 sX_6 (x_lt hN rfl) rfl rfl rfl lk_RX11_148 dX11_line_107 ?_
      refine lv_iload_n hx hb dX11_line_110 rfl (lv_at hl 2 rfl) ?_
      refine xh_iald C hw 13 100 h sX_13 (x_lt hN rfl) dX11_line_111 (fun r111 h => ?_)
      exact hret dX11_line_112 rfl hw h
    rw [if_neg c20_6] at h
    refine lv_tableOut (tgt := 113) hx hb dX11_line_20 (by have e0 := lv_neT c20_0 (show ((nI 0) : Int32).toInt = 0 by decide); have e1 := lv_neT c20_1 (show ((nI 1) : Int32).toInt = 1 by decide); have e2 := lv_neT c20_2 (show ((nI 2) : Int32).toInt = 2 by decide); have e3 := lv_neT c20_3 (show ((nI 3) : Int32).toInt = 3 by decide); have e4 := lv_neT c20_4 (show ((nI 4) : Int32).toInt = 4 by decide); have e5 := lv_neT c20_5 (show ((nI 5) : Int32).toInt = 5 by decide); have e6 := lv_neT c20_6 (show ((nI 6) : Int32).toInt = 6 by decide); omega) (by decide) ?_
    refine lv_ldc hx hb ho (hL _ kc_RX11_58) dX11_line_113 ?_
    exact hret dX11_line_115 rfl hw h
def f_X11_isDay (M : x_M) (a1 : Int32) : Option (Int32 × x_M) := x_bn (f_X11_within M a1 (nI 0) (nI 1200)) (fun r5 M => x_cz r5 (some (r5, M)))
abbrev rm_X11_isDay : Room := { frames := 1, cells := 0, slots := 0, locals := 22 }
set_option maxHeartbeats 4000000 in
set_option maxRecDepth 100000 in
theorem c_X11_isDay {l : Launch} {D : va_G} {cy : Nat → ClassId} {q ad : Nat → Nat} {NC : Nat} {s0 : State} (hq : x_Q q NC s0.heap.size) (hN : 88 ≤ NC) {M : x_M} {a1 : Int32} {z : Int32 × x_M} (h : f_X11_isDay M a1 = some z) : x_Ci l D cy q ad x_spX NC s0 yX11_isDay (x_uw yX11_isDay cX11_isDay 1 (some .boolean)) rm_X11_isDay [.int a1] M z.1 z.2 := by
  refine x_meti hq (by decide) (Nat.le_of_ble_eq_true rfl) ?_
  intro p e s m args below meth c ls Q C hret hl hw
  have hx := C.1.1
  have hb := C.1.2.1
  have ho := C.1.2.2.2.1
  have hL := C.1.2.2.2.2
  have hl : lv_has ls 1 [(0, .int a1)] := hl
  unfold f_X11_isDay at h
  refine lv_iload_n hx hb dX11_isDay_0 rfl (lv_at hl 0 rfl) ?_
  refine lv_iconst (v := (nI 0)) hx hb dX11_isDay_1 (by decide) ?_
  refine lv_sipush (v := (nI 1200)) hx hb dX11_isDay_2 (by decide) ?_
  refine xh_cSi C hw (rest := []) h (fun _ hy => c_X11_within hq hN hy) ml_RX11_54 st_X11_within ⟨rfl, rfl, by decide, by decide⟩ rfl hl.1 rfl (Nat.le_of_ble_eq_true rfl) dX11_isDay_5 (fun H locs r5 M hw h => ?_)
  exact hret dX11_isDay_8 (x_z_nar (x_cz_some h).1) hw (x_cz_some h).2
def f_J7_fill_53178_73_5 : Nat → x_M → Int32 → Int32 → Int32 → Option (Unit × x_M)
  | 0, _, _, _, _ => none
  | n + 1, M, v1, v2, v3 => if v3 ≤ v2 then some ((), M) else x_wr 40 M 73 v2 v1 (fun M => (f_J7_fill_53178_73_5 n) M v1 (v2 + (nI 1)) v3)
theorem f_J7_fill_53178_73_5_0 (M : x_M) (v1 : Int32) (v2 : Int32) (v3 : Int32) : f_J7_fill_53178_73_5 0 M v1 v2 v3 = none := rfl
theorem f_J7_fill_53178_73_5_s (n : Nat) (M : x_M) (v1 : Int32) (v2 : Int32) (v3 : Int32) : f_J7_fill_53178_73_5 (n + 1) M v1 v2 v3 = (if v3 ≤ v2 then some ((), M) else x_wr 40 M 73 v2 v1 (fun M => (f_J7_fill_53178_73_5 n) M v1 (v2 + (nI 1)) v3)) := rfl
def f_J7_fill_53178_73 (M : x_M) (a2 : Int32) : Option (Unit × x_M) := f_J7_fill_53178_73_5 x_FU M a2 (nI 0) (nI 40)
abbrev rm_J7_fill_53178_73 : Room := { frames := 0, cells := 0, slots := 0, locals := 0 }
set_option maxHeartbeats 4000000 in
set_option maxRecDepth 100000 in
theorem c_J7_fill_53178_73 {l : Launch} {D : va_G} {cy : Nat → ClassId} {q ad : Nat → Nat} {NC : Nat} {s0 : State} (hq : x_Q q NC s0.heap.size) (hN : 88 ≤ NC) {M : x_M} {a2 : Int32} {z : Unit × x_M} (h : f_J7_fill_53178_73 M a2 = some z) : x_Cv l D cy q ad x_spX NC s0 yJ7_fill_53178 (x_uw yJ7_fill_53178 cJ7_fill_53178 4 none) rm_J7_fill_53178_73 [.ref (q 73), .int a2] M z.2 := by
  refine x_metv hq (by decide) (Nat.le_of_ble_eq_true rfl) ?_
  intro p e s m args below meth c ls Q C hret hl hw
  have hx := C.1.1
  have hb := C.1.2.1
  have ho := C.1.2.2.2.1
  have hL := C.1.2.2.2.2
  have hl : lv_has ls 4 [(0, .ref (q 73)), (1, .int a2)] := hl
  have w5 : ∀ (n : Nat) (M : x_M) (v1 : Int32) (v2 : Int32) (v3 : Int32) (H : Heap) (locs : List Loc) (ls : Array Slot), x_B D cy q ad x_spX NC s H locs M → lv_has ls 4 [(0, .ref (q 73)), (1, .int v1), (2, .int v2), (3, .int v3)] → f_J7_fill_53178_73_5 n M v1 v2 v3 = some z → W p l e rm_J7_fill_53178_73 s m args below meth c H locs 0 0 Q (F0 m 5 ls []) := by
    intro n
    induction n with
    | zero =>
      intro M v1 v2 v3 H locs ls hw hl h
      rw [f_J7_fill_53178_73_5_0] at h
      cases h
    | succ n5 ih5 =>
      intro M v1 v2 v3 H locs ls hw hl h
      rw [f_J7_fill_53178_73_5_s] at h
      refine lv_iload_n hx hb dJ7_fill_53178_5 rfl (lv_at hl 2 rfl) ?_
      refine lv_iload_n hx hb dJ7_fill_53178_6 rfl (lv_at hl 3 rfl) ?_
      refine x_icmp_ge (tgt := 20) hx hb h dJ7_fill_53178_7 (by decide) (fun h => ?_) (fun h => ?_)
      · exact hret dJ7_fill_53178_20 hw h
      · refine lv_aload_n hx hb dJ7_fill_53178_10 rfl (lv_at hl 0 rfl) ?_
        refine lv_iload_n hx hb dJ7_fill_53178_11 rfl (lv_at hl 2 rfl) ?_
        refine lv_iload_n hx hb dJ7_fill_53178_12 rfl (lv_at hl 1 rfl) ?_
        refine xh_iast C hw 73 40 h sX_73 (x_lt hN rfl) dJ7_fill_53178_13 (fun H locs M hw h => ?_)
        refine lv_iinc (lv' := [(2, .int _), (0, .ref (q 73)), (1, .int _), (3, .int _)]) hx hb dJ7_fill_53178_14 hl (k := 2) rfl (x_inc (show Int32.ofInt 1 = (nI 1) by decide) _) (by decide) rfl (fun ls hl => ?_)
        refine lv_goto (tgt := 5) hx hb dJ7_fill_53178_17 (by decide) ?_
        exact ih5 _ _ _ _ _ _ _ hw (lv_sub hl [1, 2, 0, 3] rfl) h
  unfold f_J7_fill_53178_73 at h
  refine lv_iconst (v := (nI 0)) hx hb dJ7_fill_53178_0 (by decide) ?_
  refine lv_istore_n (lv' := [(2, .int _), (0, .ref (q 73)), (1, .int _)]) hx hb dJ7_fill_53178_1 rfl hl (by decide) rfl (fun ls hl => ?_)
  refine lv_aload_n hx hb dJ7_fill_53178_2 rfl (lv_at hl 1 rfl) ?_
  refine va_alen hx hb C.2.1.1 hw.1 73 0 (by rw [x_w_get (x_lt hN rfl), sX_73]; rfl) rfl (v := nI 40) rfl dJ7_fill_53178_3 ?_
  refine lv_istore_n (lv' := [(3, .int _), (2, .int _), (0, .ref (q 73)), (1, .int _)]) hx hb dJ7_fill_53178_4 rfl hl (by decide) rfl (fun ls hl => ?_)
  exact w5 _ _ _ _ _ _ _ _ hw (lv_sub hl [2, 3, 1, 0] rfl) h
def f_J7_fill_53178_74_5 : Nat → x_M → Int32 → Int32 → Int32 → Option (Unit × x_M)
  | 0, _, _, _, _ => none
  | n + 1, M, v1, v2, v3 => if v3 ≤ v2 then some ((), M) else x_wr 4 M 74 v2 v1 (fun M => (f_J7_fill_53178_74_5 n) M v1 (v2 + (nI 1)) v3)
theorem f_J7_fill_53178_74_5_0 (M : x_M) (v1 : Int32) (v2 : Int32) (v3 : Int32) : f_J7_fill_53178_74_5 0 M v1 v2 v3 = none := rfl
theorem f_J7_fill_53178_74_5_s (n : Nat) (M : x_M) (v1 : Int32) (v2 : Int32) (v3 : Int32) : f_J7_fill_53178_74_5 (n + 1) M v1 v2 v3 = (if v3 ≤ v2 then some ((), M) else x_wr 4 M 74 v2 v1 (fun M => (f_J7_fill_53178_74_5 n) M v1 (v2 + (nI 1)) v3)) := rfl
def f_J7_fill_53178_74 (M : x_M) (a2 : Int32) : Option (Unit × x_M) := f_J7_fill_53178_74_5 x_FU M a2 (nI 0) (nI 4)
abbrev rm_J7_fill_53178_74 : Room := { frames := 0, cells := 0, slots := 0, locals := 0 }
set_option maxHeartbeats 4000000 in
set_option maxRecDepth 100000 in
theorem c_J7_fill_53178_74 {l : Launch} {D : va_G} {cy : Nat → ClassId} {q ad : Nat → Nat} {NC : Nat} {s0 : State} (hq : x_Q q NC s0.heap.size) (hN : 88 ≤ NC) {M : x_M} {a2 : Int32} {z : Unit × x_M} (h : f_J7_fill_53178_74 M a2 = some z) : x_Cv l D cy q ad x_spX NC s0 yJ7_fill_53178 (x_uw yJ7_fill_53178 cJ7_fill_53178 4 none) rm_J7_fill_53178_74 [.ref (q 74), .int a2] M z.2 := by
  refine x_metv hq (by decide) (Nat.le_of_ble_eq_true rfl) ?_
  intro p e s m args below meth c ls Q C hret hl hw
  have hx := C.1.1
  have hb := C.1.2.1
  have ho := C.1.2.2.2.1
  have hL := C.1.2.2.2.2
  have hl : lv_has ls 4 [(0, .ref (q 74)), (1, .int a2)] := hl
  have w5 : ∀ (n : Nat) (M : x_M) (v1 : Int32) (v2 : Int32) (v3 : Int32) (H : Heap) (locs : List Loc) (ls : Array Slot), x_B D cy q ad x_spX NC s H locs M → lv_has ls 4 [(0, .ref (q 74)), (1, .int v1), (2, .int v2), (3, .int v3)] → f_J7_fill_53178_74_5 n M v1 v2 v3 = some z → W p l e rm_J7_fill_53178_74 s m args below meth c H locs 0 0 Q (F0 m 5 ls []) := by
    intro n
    induction n with
    | zero =>
      intro M v1 v2 v3 H locs ls hw hl h
      rw [f_J7_fill_53178_74_5_0] at h
      cases h
    | succ n5 ih5 =>
      intro M v1 v2 v3 H locs ls hw hl h
      rw [f_J7_fill_53178_74_5_s] at h
      refine lv_iload_n hx hb dJ7_fill_53178_5 rfl (lv_at hl 2 rfl) ?_
      refine lv_iload_n hx hb dJ7_fill_53178_6 rfl (lv_at hl 3 rfl) ?_
      refine x_icmp_ge (tgt := 20) hx hb h dJ7_fill_53178_7 (by decide) (fun h => ?_) (fun h => ?_)
      · exact hret dJ7_fill_53178_20 hw h
      · refine lv_aload_n hx hb dJ7_fill_53178_10 rfl (lv_at hl 0 rfl) ?_
        refine lv_iload_n hx hb dJ7_fill_53178_11 rfl (lv_at hl 2 rfl) ?_
        refine lv_iload_n hx hb dJ7_fill_53178_12 rfl (lv_at hl 1 rfl) ?_
        refine xh_iast C hw 74 4 h sX_74 (x_lt hN rfl) dJ7_fill_53178_13 (fun H locs M hw h => ?_)
        refine lv_iinc (lv' := [(2, .int _), (0, .ref (q 74)), (1, .int _), (3, .int _)]) hx hb dJ7_fill_53178_14 hl (k := 2) rfl (x_inc (show Int32.ofInt 1 = (nI 1) by decide) _) (by decide) rfl (fun ls hl => ?_)
        refine lv_goto (tgt := 5) hx hb dJ7_fill_53178_17 (by decide) ?_
        exact ih5 _ _ _ _ _ _ _ hw (lv_sub hl [1, 2, 0, 3] rfl) h
  unfold f_J7_fill_53178_74 at h
  refine lv_iconst (v := (nI 0)) hx hb dJ7_fill_53178_0 (by decide) ?_
  refine lv_istore_n (lv' := [(2, .int _), (0, .ref (q 74)), (1, .int _)]) hx hb dJ7_fill_53178_1 rfl hl (by decide) rfl (fun ls hl => ?_)
  refine lv_aload_n hx hb dJ7_fill_53178_2 rfl (lv_at hl 1 rfl) ?_
  refine va_alen hx hb C.2.1.1 hw.1 74 0 (by rw [x_w_get (x_lt hN rfl), sX_74]; rfl) rfl (v := nI 4) rfl dJ7_fill_53178_3 ?_
  refine lv_istore_n (lv' := [(3, .int _), (2, .int _), (0, .ref (q 74)), (1, .int _)]) hx hb dJ7_fill_53178_4 rfl hl (by decide) rfl (fun ls hl => ?_)
  exact w5 _ _ _ _ _ _ _ _ hw (lv_sub hl [2, 3, 1, 0] rfl) h
def f_J7_fill_53178_75_5 : Nat → x_M → Int32 → Int32 → Int32 → Option (Unit × x_M)
  | 0, _, _, _, _ => none
  | n + 1, M, v1, v2, v3 => if v3 ≤ v2 then some ((), M) else x_wr 4 M 75 v2 v1 (fun M => (f_J7_fill_53178_75_5 n) M v1 (v2 + (nI 1)) v3)
theorem f_J7_fill_53178_75_5_0 (M : x_M) (v1 : Int32) (v2 : Int32) (v3 : Int32) : f_J7_fill_53178_75_5 0 M v1 v2 v3 = none := rfl
theorem f_J7_fill_53178_75_5_s (n : Nat) (M : x_M) (v1 : Int32) (v2 : Int32) (v3 : Int32) : f_J7_fill_53178_75_5 (n + 1) M v1 v2 v3 = (if v3 ≤ v2 then some ((), M) else x_wr 4 M 75 v2 v1 (fun M => (f_J7_fill_53178_75_5 n) M v1 (v2 + (nI 1)) v3)) := rfl
def f_J7_fill_53178_75 (M : x_M) (a2 : Int32) : Option (Unit × x_M) := f_J7_fill_53178_75_5 x_FU M a2 (nI 0) (nI 4)
abbrev rm_J7_fill_53178_75 : Room := { frames := 0, cells := 0, slots := 0, locals := 0 }
set_option maxHeartbeats 4000000 in
set_option maxRecDepth 100000 in
theorem c_J7_fill_53178_75 {l : Launch} {D : va_G} {cy : Nat → ClassId} {q ad : Nat → Nat} {NC : Nat} {s0 : State} (hq : x_Q q NC s0.heap.size) (hN : 88 ≤ NC) {M : x_M} {a2 : Int32} {z : Unit × x_M} (h : f_J7_fill_53178_75 M a2 = some z) : x_Cv l D cy q ad x_spX NC s0 yJ7_fill_53178 (x_uw yJ7_fill_53178 cJ7_fill_53178 4 none) rm_J7_fill_53178_75 [.ref (q 75), .int a2] M z.2 := by
  refine x_metv hq (by decide) (Nat.le_of_ble_eq_true rfl) ?_
  intro p e s m args below meth c ls Q C hret hl hw
  have hx := C.1.1
  have hb := C.1.2.1
  have ho := C.1.2.2.2.1
  have hL := C.1.2.2.2.2
  have hl : lv_has ls 4 [(0, .ref (q 75)), (1, .int a2)] := hl
  have w5 : ∀ (n : Nat) (M : x_M) (v1 : Int32) (v2 : Int32) (v3 : Int32) (H : Heap) (locs : List Loc) (ls : Array Slot), x_B D cy q ad x_spX NC s H locs M → lv_has ls 4 [(0, .ref (q 75)), (1, .int v1), (2, .int v2), (3, .int v3)] → f_J7_fill_53178_75_5 n M v1 v2 v3 = some z → W p l e rm_J7_fill_53178_75 s m args below meth c H locs 0 0 Q (F0 m 5 ls []) := by
    intro n
    induction n with
    | zero =>
      intro M v1 v2 v3 H locs ls hw hl h
      rw [f_J7_fill_53178_75_5_0] at h
      cases h
    | succ n5 ih5 =>
      intro M v1 v2 v3 H locs ls hw hl h
      rw [f_J7_fill_53178_75_5_s] at h
      refine lv_iload_n hx hb dJ7_fill_53178_5 rfl (lv_at hl 2 rfl) ?_
      refine lv_iload_n hx hb dJ7_fill_53178_6 rfl (lv_at hl 3 rfl) ?_
      refine x_icmp_ge (tgt := 20) hx hb h dJ7_fill_53178_7 (by decide) (fun h => ?_) (fun h => ?_)
      · exact hret dJ7_fill_53178_20 hw h
      · refine lv_aload_n hx hb dJ7_fill_53178_10 rfl (lv_at hl 0 rfl) ?_
        refine lv_iload_n hx hb dJ7_fill_53178_11 rfl (lv_at hl 2 rfl) ?_
        refine lv_iload_n hx hb dJ7_fill_53178_12 rfl (lv_at hl 1 rfl) ?_
        refine xh_iast C hw 75 4 h sX_75 (x_lt hN rfl) dJ7_fill_53178_13 (fun H locs M hw h => ?_)
        refine lv_iinc (lv' := [(2, .int _), (0, .ref (q 75)), (1, .int _), (3, .int _)]) hx hb dJ7_fill_53178_14 hl (k := 2) rfl (x_inc (show Int32.ofInt 1 = (nI 1) by decide) _) (by decide) rfl (fun ls hl => ?_)
        refine lv_goto (tgt := 5) hx hb dJ7_fill_53178_17 (by decide) ?_
        exact ih5 _ _ _ _ _ _ _ hw (lv_sub hl [1, 2, 0, 3] rfl) h
  unfold f_J7_fill_53178_75 at h
  refine lv_iconst (v := (nI 0)) hx hb dJ7_fill_53178_0 (by decide) ?_
  refine lv_istore_n (lv' := [(2, .int _), (0, .ref (q 75)), (1, .int _)]) hx hb dJ7_fill_53178_1 rfl hl (by decide) rfl (fun ls hl => ?_)
  refine lv_aload_n hx hb dJ7_fill_53178_2 rfl (lv_at hl 1 rfl) ?_
  refine va_alen hx hb C.2.1.1 hw.1 75 0 (by rw [x_w_get (x_lt hN rfl), sX_75]; rfl) rfl (v := nI 4) rfl dJ7_fill_53178_3 ?_
  refine lv_istore_n (lv' := [(3, .int _), (2, .int _), (0, .ref (q 75)), (1, .int _)]) hx hb dJ7_fill_53178_4 rfl hl (by decide) rfl (fun ls hl => ?_)
  exact w5 _ _ _ _ _ _ _ _ hw (lv_sub hl [2, 3, 1, 0] rfl) h
def f_J7_fill_53178_76_5 : Nat → x_M → Int32 → Int32 → Int32 → Option (Unit × x_M)
  | 0, _, _, _, _ => none
  | n + 1, M, v1, v2, v3 => if v3 ≤ v2 then some ((), M) else x_wr 100 M 76 v2 v1 (fun M => (f_J7_fill_53178_76_5 n) M v1 (v2 + (nI 1)) v3)
theorem f_J7_fill_53178_76_5_0 (M : x_M) (v1 : Int32) (v2 : Int32) (v3 : Int32) : f_J7_fill_53178_76_5 0 M v1 v2 v3 = none := rfl
theorem f_J7_fill_53178_76_5_s (n : Nat) (M : x_M) (v1 : Int32) (v2 : Int32) (v3 : Int32) : f_J7_fill_53178_76_5 (n + 1) M v1 v2 v3 = (if v3 ≤ v2 then some ((), M) else x_wr 100 M 76 v2 v1 (fun M => (f_J7_fill_53178_76_5 n) M v1 (v2 + (nI 1)) v3)) := rfl
def f_J7_fill_53178_76 (M : x_M) (a2 : Int32) : Option (Unit × x_M) := f_J7_fill_53178_76_5 x_FU M a2 (nI 0) (nI 100)
abbrev rm_J7_fill_53178_76 : Room := { frames := 0, cells := 0, slots := 0, locals := 0 }
set_option maxHeartbeats 4000000 in
set_option maxRecDepth 100000 in
theorem c_J7_fill_53178_76 {l : Launch} {D : va_G} {cy : Nat → ClassId} {q ad : Nat → Nat} {NC : Nat} {s0 : State} (hq : x_Q q NC s0.heap.size) (hN : 88 ≤ NC) {M : x_M} {a2 : Int32} {z : Unit × x_M} (h : f_J7_fill_53178_76 M a2 = some z) : x_Cv l D cy q ad x_spX NC s0 yJ7_fill_53178 (x_uw yJ7_fill_53178 cJ7_fill_53178 4 none) rm_J7_fill_53178_76 [.ref (q 76), .int a2] M z.2 := by
  refine x_metv hq (by decide) (Nat.le_of_ble_eq_true rfl) ?_
  intro p e s m args below meth c ls Q C hret hl hw
  have hx := C.1.1
  have hb := C.1.2.1
  have ho := C.1.2.2.2.1
  have hL := C.1.2.2.2.2
  have hl : lv_has ls 4 [(0, .ref (q 76)), (1, .int a2)] := hl
  have w5 : ∀ (n : Nat) (M : x_M) (v1 : Int32) (v2 : Int32) (v3 : Int32) (H : Heap) (locs : List Loc) (ls : Array Slot), x_B D cy q ad x_spX NC s H locs M → lv_has ls 4 [(0, .ref (q 76)), (1, .int v1), (2, .int v2), (3, .int v3)] → f_J7_fill_53178_76_5 n M v1 v2 v3 = some z → W p l e rm_J7_fill_53178_76 s m args below meth c H locs 0 0 Q (F0 m 5 ls []) := by
    intro n
    induction n with
    | zero =>
      intro M v1 v2 v3 H locs ls hw hl h
      rw [f_J7_fill_53178_76_5_0] at h
      cases h
    | succ n5 ih5 =>
      intro M v1 v2 v3 H locs ls hw hl h
      rw [f_J7_fill_53178_76_5_s] at h
      refine lv_iload_n hx hb dJ7_fill_53178_5 rfl (lv_at hl 2 rfl) ?_
      refine lv_iload_n hx hb dJ7_fill_53178_6 rfl (lv_at hl 3 rfl) ?_
      refine x_icmp_ge (tgt := 20) hx hb h dJ7_fill_53178_7 (by decide) (fun h => ?_) (fun h => ?_)
      · exact hret dJ7_fill_53178_20 hw h
      · refine lv_aload_n hx hb dJ7_fill_53178_10 rfl (lv_at hl 0 rfl) ?_
        refine lv_iload_n hx hb dJ7_fill_53178_11 rfl (lv_at hl 2 rfl) ?_
        refine lv_iload_n hx hb dJ7_fill_53178_12 rfl (lv_at hl 1 rfl) ?_
        refine xh_iast C hw 76 100 h sX_76 (x_lt hN rfl) dJ7_fill_53178_13 (fun H locs M hw h => ?_)
        refine lv_iinc (lv' := [(2, .int _), (0, .ref (q 76)), (1, .int _), (3, .int _)]) hx hb dJ7_fill_53178_14 hl (k := 2) rfl (x_inc (show Int32.ofInt 1 = (nI 1) by decide) _) (by decide) rfl (fun ls hl => ?_)
        refine lv_goto (tgt := 5) hx hb dJ7_fill_53178_17 (by decide) ?_
        exact ih5 _ _ _ _ _ _ _ hw (lv_sub hl [1, 2, 0, 3] rfl) h
  unfold f_J7_fill_53178_76 at h
  refine lv_iconst (v := (nI 0)) hx hb dJ7_fill_53178_0 (by decide) ?_
  refine lv_istore_n (lv' := [(2, .int _), (0, .ref (q 76)), (1, .int _)]) hx hb dJ7_fill_53178_1 rfl hl (by decide) rfl (fun ls hl => ?_)
  refine lv_aload_n hx hb dJ7_fill_53178_2 rfl (lv_at hl 1 rfl) ?_
  refine va_alen hx hb C.2.1.1 hw.1 76 0 (by rw [x_w_get (x_lt hN rfl), sX_76]; rfl) rfl (v := nI 100) rfl dJ7_fill_53178_3 ?_
  refine lv_istore_n (lv' := [(3, .int _), (2, .int _), (0, .ref (q 76)), (1, .int _)]) hx hb dJ7_fill_53178_4 rfl hl (by decide) rfl (fun ls hl => ?_)
  exact w5 _ _ _ _ _ _ _ _ hw (lv_sub hl [2, 3, 1, 0] rfl) h
def f_J7_fill_53178_77_5 : Nat → x_M → Int32 → Int32 → Int32 → Option (Unit × x_M)
  | 0, _, _, _, _ => none
  | n + 1, M, v1, v2, v3 => if v3 ≤ v2 then some ((), M) else x_wr 100 M 77 v2 v1 (fun M => (f_J7_fill_53178_77_5 n) M v1 (v2 + (nI 1)) v3)
theorem f_J7_fill_53178_77_5_0 (M : x_M) (v1 : Int32) (v2 : Int32) (v3 : Int32) : f_J7_fill_53178_77_5 0 M v1 v2 v3 = none := rfl
theorem f_J7_fill_53178_77_5_s (n : Nat) (M : x_M) (v1 : Int32) (v2 : Int32) (v3 : Int32) : f_J7_fill_53178_77_5 (n + 1) M v1 v2 v3 = (if v3 ≤ v2 then some ((), M) else x_wr 100 M 77 v2 v1 (fun M => (f_J7_fill_53178_77_5 n) M v1 (v2 + (nI 1)) v3)) := rfl
def f_J7_fill_53178_77 (M : x_M) (a2 : Int32) : Option (Unit × x_M) := f_J7_fill_53178_77_5 x_FU M a2 (nI 0) (nI 100)
abbrev rm_J7_fill_53178_77 : Room := { frames := 0, cells := 0, slots := 0, locals := 0 }
set_option maxHeartbeats 4000000 in
set_option maxRecDepth 100000 in
theorem c_J7_fill_53178_77 {l : Launch} {D : va_G} {cy : Nat → ClassId} {q ad : Nat → Nat} {NC : Nat} {s0 : State} (hq : x_Q q NC s0.heap.size) (hN : 88 ≤ NC) {M : x_M} {a2 : Int32} {z : Unit × x_M} (h : f_J7_fill_53178_77 M a2 = some z) : x_Cv l D cy q ad x_spX NC s0 yJ7_fill_53178 (x_uw yJ7_fill_53178 cJ7_fill_53178 4 none) rm_J7_fill_53178_77 [.ref (q 77), .int a2] M z.2 := by
  refine x_metv hq (by decide) (Nat.le_of_ble_eq_true rfl) ?_
  intro p e s m args below meth c ls Q C hret hl hw
  have hx := C.1.1
  have hb := C.1.2.1
  have ho := C.1.2.2.2.1
  have hL := C.1.2.2.2.2
  have hl : lv_has ls 4 [(0, .ref (q 77)), (1, .int a2)] := hl
  have w5 : ∀ (n : Nat) (M : x_M) (v1 : Int32) (v2 : Int32) (v3 : Int32) (H : Heap) (locs : List Loc) (ls : Array Slot), x_B D cy q ad x_spX NC s H locs M → lv_has ls 4 [(0, .ref (q 77)), (1, .int v1), (2, .int v2), (3, .int v3)] → f_J7_fill_53178_77_5 n M v1 v2 v3 = some z → W p l e rm_J7_fill_53178_77 s m args below meth c H locs 0 0 Q (F0 m 5 ls []) := by
    intro n
    induction n with
    | zero =>
      intro M v1 v2 v3 H locs ls hw hl h
      rw [f_J7_fill_53178_77_5_0] at h
      cases h
    | succ n5 ih5 =>
      intro M v1 v2 v3 H locs ls hw hl h
      rw [f_J7_fill_53178_77_5_s] at h
      refine lv_iload_n hx hb dJ7_fill_53178_5 rfl (lv_at hl 2 rfl) ?_
      refine lv_iload_n hx hb dJ7_fill_53178_6 rfl (lv_at hl 3 rfl) ?_
      refine x_icmp_ge (tgt := 20) hx hb h dJ7_fill_53178_7 (by decide) (fun h => ?_) (fun h => ?_)
      · exact hret dJ7_fill_53178_20 hw h
      · refine lv_aload_n hx hb dJ7_fill_53178_10 rfl (lv_at hl 0 rfl) ?_
        refine lv_iload_n hx hb dJ7_fill_53178_11 rfl (lv_at hl 2 rfl) ?_
        refine lv_iload_n hx hb dJ7_fill_53178_12 rfl (lv_at hl 1 rfl) ?_
        refine xh_iast C hw 77 100 h sX_77 (x_lt hN rfl) dJ7_fill_53178_13 (fun H locs M hw h => ?_)
        refine lv_iinc (lv' := [(2, .int _), (0, .ref (q 77)), (1, .int _), (3, .int _)]) hx hb dJ7_fill_53178_14 hl (k := 2) rfl (x_inc (show Int32.ofInt 1 = (nI 1) by decide) _) (by decide) rfl (fun ls hl => ?_)
        refine lv_goto (tgt := 5) hx hb dJ7_fill_53178_17 (by decide) ?_
        exact ih5 _ _ _ _ _ _ _ hw (lv_sub hl [1, 2, 0, 3] rfl) h
  unfold f_J7_fill_53178_77 at h
  refine lv_iconst (v := (nI 0)) hx hb dJ7_fill_53178_0 (by decide) ?_
  refine lv_istore_n (lv' := [(2, .int _), (0, .ref (q 77)), (1, .int _)]) hx hb dJ7_fill_53178_1 rfl hl (by decide) rfl (fun ls hl => ?_)
  refine lv_aload_n hx hb dJ7_fill_53178_2 rfl (lv_at hl 1 rfl) ?_
  refine va_alen hx hb C.2.1.1 hw.1 77 0 (by rw [x_w_get (x_lt hN rfl), sX_77]; rfl) rfl (v := nI 100) rfl dJ7_fill_53178_3 ?_
  refine lv_istore_n (lv' := [(3, .int _), (2, .int _), (0, .ref (q 77)), (1, .int _)]) hx hb dJ7_fill_53178_4 rfl hl (by decide) rfl (fun ls hl => ?_)
  exact w5 _ _ _ _ _ _ _ _ hw (lv_sub hl [2, 3, 1, 0] rfl) h
def f_X3_isKnown_31 (M : x_M) : Option (Int32 × x_M) := some ((nI 1), M)
def f_X3_isKnown_35 (M : x_M) : Option (Int32 × x_M) := some ((nI 0), M)
def f_X3_isKnown (M : x_M) (a1 : Int32) (a2 : Int32) : Option (Int32 × x_M) := x_rd 100 (M 10) a1 (fun r5 => if a2 < r5 then f_X3_isKnown_35 M else x_rd 100 (M 11) a1 (fun r15 => if r15 = (-1000000005) then f_X3_isKnown_31 M else x_rd 100 (M 11) a1 (fun r26 => if r26 ≤ a2 then f_X3_isKnown_35 M else f_X3_isKnown_31 M)))
abbrev rm_X3_isKnown : Room := { frames := 0, cells := 0, slots := 0, locals := 0 }
set_option maxHeartbeats 4000000 in
set_option maxRecDepth 100000 in
theorem c_X3_isKnown {l : Launch} {D : va_G} {cy : Nat → ClassId} {q ad : Nat → Nat} {NC : Nat} {s0 : State} (hq : x_Q q NC s0.heap.size) (hN : 88 ≤ NC) {M : x_M} {a1 : Int32} {a2 : Int32} {z : Int32 × x_M} (h : f_X3_isKnown M a1 a2 = some z) : x_Ci l D cy q ad x_spX NC s0 yX3_isKnown (x_uw yX3_isKnown cX3_isKnown 3 (some .boolean)) rm_X3_isKnown [.ref (q 6), .int a1, .int a2] M z.1 z.2 := by
  refine x_meti hq (by decide) (Nat.le_of_ble_eq_true rfl) ?_
  intro p e s m args below meth c ls Q C hret hl hw
  have hx := C.1.1
  have hb := C.1.2.1
  have ho := C.1.2.2.2.1
  have hL := C.1.2.2.2.2
  have hl : lv_has ls 3 [(0, .ref (q 6)), (1, .int a1), (2, .int a2)] := hl
  have w31 : ∀ (M : x_M) (H : Heap) (locs : List Loc) (ls : Array Slot), x_B D cy q ad x_spX NC s H locs M → lv_has ls 3 [] → f_X3_isKnown_31 M = some z → W p l e rm_X3_isKnown s m args below meth c H locs 0 0 Q (F0 m 31 ls []) := by
    intro M H locs ls hw hl h
    unfold f_X3_isKnown_31 at h
    refine lv_iconst (v := (nI 1)) hx hb dX3_isKnown_31 (by decide) ?_
    refine lv_goto (tgt := 36) hx hb dX3_isKnown_32 (by decide) ?_
    exact hret dX3_isKnown_36 rfl hw h
  have w35 : ∀ (M : x_M) (H : Heap) (locs : List Loc) (ls : Array Slot), x_B D cy q ad x_spX NC s H locs M → lv_has ls 3 [] → f_X3_isKnown_35 M = some z → W p l e rm_X3_isKnown s m args below meth c H locs 0 0 Q (F0 m 35 ls []) := by
    intro M H locs ls hw hl h
    unfold f_X3_isKnown_35 at h
    refine lv_iconst (v := (nI 0)) hx hb dX3_isKnown_35 (by decide) ?_
    exact hret dX3_isKnown_36 rfl hw h
  unfold f_X3_isKnown at h
  refine lv_aload_n hx hb dX3_isKnown_0 rfl (lv_at hl 0 rfl) ?_
  refine xh_getr C hw 6 3 sX_6 (x_lt hN rfl) rfl rfl rfl lk_RX3_21 dX3_isKnown_1 ?_
  refine lv_iload_n hx hb dX3_isKnown_4 rfl (lv_at hl 1 rfl) ?_
  refine xh_iald C hw 10 100 h sX_10 (x_lt hN rfl) dX3_isKnown_5 (fun r5 h => ?_)
  refine lv_iload_n hx hb dX3_isKnown_6 rfl (lv_at hl 2 rfl) ?_
  refine x_icmp_gt (tgt := 35) hx hb h dX3_isKnown_7 (by decide) (fun h => ?_) (fun h => ?_)
  · exact w35 _ _ _ _ hw (lv_sub hl [] rfl) h
  · refine lv_aload_n hx hb dX3_isKnown_10 rfl (lv_at hl 0 rfl) ?_
    refine xh_getr C hw 6 4 sX_6 (x_lt hN rfl) rfl rfl rfl lk_RX3_24 dX3_isKnown_11 ?_
    refine lv_iload_n hx hb dX3_isKnown_14 rfl (lv_at hl 1 rfl) ?_
    refine xh_iald C hw 11 100 h sX_11 (x_lt hN rfl) dX3_isKnown_15 (fun r15 h => ?_)
    refine lv_ldc hx hb ho (hL _ kc_RX3_44) dX3_isKnown_16 ?_
    refine x_icmp_eq (tgt := 31) hx hb h dX3_isKnown_18 (by decide) (fun h => ?_) (fun h => ?_)
    · exact w31 _ _ _ _ hw (lv_sub hl [] rfl) h
    · refine lv_aload_n hx hb dX3_isKnown_21 rfl (lv_at hl 0 rfl) ?_
      refine xh_getr C hw 6 4 sX_6 (x_lt hN rfl) rfl rfl rfl lk_RX3_24 dX3_isKnown_22 ?_
      refine lv_iload_n hx hb dX3_isKnown_25 rfl (lv_at hl 1 rfl) ?_
      refine xh_iald C hw 11 100 h sX_11 (x_lt hN rfl) dX3_isKnown_26 (fun r26 h => ?_)
      refine lv_iload_n hx hb dX3_isKnown_27 rfl (lv_at hl 2 rfl) ?_
      refine x_icmp_le (tgt := 35) hx hb h dX3_isKnown_28 (by decide) (fun h => ?_) (fun h => ?_)
      · exact w35 _ _ _ _ hw (lv_sub hl [] rfl) h
      · exact w31 _ _ _ _ hw (lv_sub hl [] rfl) h
def f_X9_inForce_52 (NC : Nat) (k7 : x_M → Int32 → Int32 → Int32 → Option (Int32 × x_M)) (M : x_M) (v1 : Int32) (v2 : Int32) (v3 : Int32) : Option (Int32 × x_M) := k7 M v1 v2 (v3 + (nI 1))
def f_X9_inForce_7 (NC : Nat) : Nat → x_M → Int32 → Int32 → Int32 → Option (Int32 × x_M)
  | 0, _, _, _, _ => none
  | n + 1, M, v1, v2, v3 => x_gf M 16 2 (fun r9 => if r9 ≤ v3 then some (v2, M) else x_rd 4 (M 17) v3 (fun r20 => if r20 = 0 then f_X9_inForce_52 NC (f_X9_inForce_7 NC n) M v1 v2 v3 else x_tk NC r20 (x_gf M ((r20).toNatClampNeg - 1) 0 (fun r30 => if v1 < r30 then f_X9_inForce_52 NC (f_X9_inForce_7 NC n) M v1 v2 v3 else x_tk NC r20 (x_gf M ((r20).toNatClampNeg - 1) 0 (fun r39 => x_tk NC v2 (x_gf M ((v2).toNatClampNeg - 1) 0 (fun r43 => if r39 < r43 then f_X9_inForce_52 NC (f_X9_inForce_7 NC n) M v1 v2 v3 else f_X9_inForce_52 NC (f_X9_inForce_7 NC n) M v1 r20 v3))))))))
theorem f_X9_inForce_7_0 (NC : Nat) (M : x_M) (v1 : Int32) (v2 : Int32) (v3 : Int32) : f_X9_inForce_7 NC 0 M v1 v2 v3 = none := rfl
theorem f_X9_inForce_7_s (NC : Nat) (n : Nat) (M : x_M) (v1 : Int32) (v2 : Int32) (v3 : Int32) : f_X9_inForce_7 NC (n + 1) M v1 v2 v3 = (x_gf M 16 2 (fun r9 => if r9 ≤ v3 then some (v2, M) else x_rd 4 (M 17) v3 (fun r20 => if r20 = 0 then f_X9_inForce_52 NC (f_X9_inForce_7 NC n) M v1 v2 v3 else x_tk NC r20 (x_gf M ((r20).toNatClampNeg - 1) 0 (fun r30 => if v1 < r30 then f_X9_inForce_52 NC (f_X9_inForce_7 NC n) M v1 v2 v3 else x_tk NC r20 (x_gf M ((r20).toNatClampNeg - 1) 0 (fun r39 => x_tk NC v2 (x_gf M ((v2).toNatClampNeg - 1) 0 (fun r43 => if r39 < r43 then f_X9_inForce_52 NC (f_X9_inForce_7 NC n) M v1 v2 v3 else f_X9_inForce_52 NC (f_X9_inForce_7 NC n) M v1 r20 v3))))))))) := rfl
def f_X9_inForce (NC : Nat) (M : x_M) (a1 : Int32) : Option (Int32 × x_M) := f_X9_inForce_7 NC x_FU M a1 (nI 89) (nI 0)
abbrev rm_X9_inForce : Room := { frames := 0, cells := 0, slots := 0, locals := 0 }
set_option maxHeartbeats 4000000 in
set_option maxRecDepth 100000 in
theorem c_X9_inForce {l : Launch} {D : va_G} {cy : Nat → ClassId} {q ad : Nat → Nat} {NC : Nat} {s0 : State} (hq : x_Q q NC s0.heap.size) (hN : 88 ≤ NC) {M : x_M} {a1 : Int32} {z : Int32 × x_M} (h : f_X9_inForce NC M a1 = some z) : x_Cr l D cy q ad x_spX NC s0 (fun r => q (r.toNatClampNeg - 1)) yX9_inForce (x_uw yX9_inForce cX9_inForce 5 (some (.object "MilesHall$Terms"))) rm_X9_inForce [.ref (q 16), .int a1] M z.1 z.2 := by
  refine x_metr hq (by decide) (Nat.le_of_ble_eq_true rfl) ?_
  intro p e s m args below meth c ls Q C hret hl hw
  have hx := C.1.1
  have hb := C.1.2.1
  have ho := C.1.2.2.2.1
  have hL := C.1.2.2.2.2
  have hl : lv_has ls 5 [(0, .ref (q 16)), (1, .int a1)] := hl
  have w7 : ∀ (n : Nat) (M : x_M) (v1 : Int32) (v2 : Int32) (v3 : Int32) (H : Heap) (locs : List Loc) (ls : Array Slot), x_B D cy q ad x_spX NC s H locs M → lv_has ls 5 [(0, .ref (q 16)), (1, .int v1), (2, .ref (q ((v2).toNatClampNeg - 1))), (3, .int v3)] → f_X9_inForce_7 NC n M v1 v2 v3 = some z → W p l e rm_X9_inForce s m args below meth c H locs 0 0 Q (F0 m 7 ls []) := by
    intro n
    induction n with
    | zero =>
      intro M v1 v2 v3 H locs ls hw hl h
      rw [f_X9_inForce_7_0] at h
      cases h
    | succ n7 ih7 =>
      have w52 : ∀ (M : x_M) (v1 : Int32) (v2 : Int32) (v3 : Int32) (H : Heap) (locs : List Loc) (ls : Array Slot), x_B D cy q ad x_spX NC s H locs M → lv_has ls 5 [(0, .ref (q 16)), (1, .int v1), (2, .ref (q ((v2).toNatClampNeg - 1))), (3, .int v3)] → f_X9_inForce_52 NC (f_X9_inForce_7 NC n7) M v1 v2 v3 = some z → W p l e rm_X9_inForce s m args below meth c H locs 0 0 Q (F0 m 52 ls []) := by
        intro M v1 v2 v3 H locs ls hw hl h
        unfold f_X9_inForce_52 at h
        refine lv_iinc (lv' := [(3, .int _), (0, .ref (q 16)), (1, .int _), (2, .ref _)]) hx hb dX9_inForce_52 hl (k := 3) rfl (x_inc (show Int32.ofInt 1 = (nI 1) by decide) _) (by decide) rfl (fun ls hl => ?_)
        refine lv_goto (tgt := 7) hx hb dX9_inForce_55 (by decide) ?_
        exact ih7 _ _ _ _ _ _ _ hw (lv_sub hl [1, 2, 3, 0] rfl) h
      intro M v1 v2 v3 H locs ls hw hl h
      rw [f_X9_inForce_7_s] at h
      refine lv_iload_n hx hb dX9_inForce_7 rfl (lv_at hl 3 rfl) ?_
      refine lv_aload_n hx hb dX9_inForce_8 rfl (lv_at hl 0 rfl) ?_
      refine xh_geti C hw 16 2 h sX_16 (x_lt hN rfl) rfl rfl rfl lk_RX9_24 dX9_inForce_9 (fun r9 h => ?_)
      refine x_icmp_ge (tgt := 58) hx hb h dX9_inForce_12 (by decide) (fun h => ?_) (fun h => ?_)
      · refine lv_aload_n hx hb dX9_inForce_58 rfl (lv_at hl 2 rfl) ?_
        exact hret dX9_inForce_59 hw h
      · refine lv_aload_n hx hb dX9_inForce_15 rfl (lv_at hl 0 rfl) ?_
        refine xh_getr C hw 16 0 sX_16 (x_lt hN rfl) rfl rfl rfl lk_RX9_11 dX9_inForce_16 ?_
        refine lv_iload_n hx hb dX9_inForce_19 rfl (lv_at hl 3 rfl) ?_
        refine xh_tald2 C hw 17 4 h sX_17 (x_lt hN rfl) dX9_inForce_20 (fun r20 h => ?_) (fun r20 h => ?_)
        · refine lv_astoreN (lv' := [(4, .null), (0, .ref (q 16)), (1, .int _), (2, .ref _), (3, .int _)]) hx hb dX9_inForce_21 hl (by decide) rfl (fun ls hl => ?_)
          refine lv_aloadN hx hb dX9_inForce_23 (lv_at hl 0 rfl) ?_
          refine lv_ifnullN (tgt := 52) hx hb dX9_inForce_25 (by decide) ?_
          exact w52 _ _ _ _ _ _ _ hw (lv_sub hl [1, 2, 3, 4] rfl) h
        · refine lv_astore (lv' := [(4, .ref _), (0, .ref (q 16)), (1, .int _), (2, .ref _), (3, .int _)]) hx hb dX9_inForce_21 hl (by decide) rfl (fun ls hl => ?_)
          refine lv_aload hx hb dX9_inForce_23 (lv_at hl 0 rfl) ?_
          refine lv_ifnull hx hb dX9_inForce_25 ?_
          refine lv_aload hx hb dX9_inForce_28 (lv_at hl 0 rfl) ?_
          refine xh_tday C hw h lk_RX9_28 dX9_inForce_30 (fun r30 h => ?_)
          refine lv_iload_n hx hb dX9_inForce_33 rfl (lv_at hl 2 rfl) ?_
          refine x_icmp_gt (tgt := 52) hx hb h dX9_inForce_34 (by decide) (fun h => ?_) (fun h => ?_)
          · exact w52 _ _ _ _ _ _ _ hw (lv_sub hl [1, 2, 3, 4] rfl) h
          · refine lv_aload hx hb dX9_inForce_37 (lv_at hl 0 rfl) ?_
            refine xh_tday C hw h lk_RX9_28 dX9_inForce_39 (fun r39 h => ?_)
            refine lv_aload_n hx hb dX9_inForce_42 rfl (lv_at hl 3 rfl) ?_
            refine xh_tday C hw h lk_RX9_28 dX9_inForce_43 (fun r43 h => ?_)
            refine x_icmp_lt (tgt := 52) hx hb h dX9_inForce_46 (by decide) (fun h => ?_) (fun h => ?_)
            · exact w52 _ _ _ _ _ _ _ hw (lv_sub hl [1, 2, 3, 4] rfl) h
            · refine lv_aload hx hb dX9_inForce_49 (lv_at hl 0 rfl) ?_
              refine lv_astore_n (lv' := [(2, .ref _), (4, .ref _), (0, .ref (q 16)), (1, .int _), (3, .int _)]) hx hb dX9_inForce_51 rfl hl (by decide) rfl (fun ls hl => ?_)
              exact w52 _ _ _ _ _ _ _ hw (lv_sub hl [2, 3, 0, 4] rfl) h
  unfold f_X9_inForce at h
  refine lv_aload_n hx hb dX9_inForce_0 rfl (lv_at hl 0 rfl) ?_
  refine xh_getp C hw 16 1 (t := (nI 89)) (by decide) sX_16 (x_lt hN rfl) rfl rfl rfl lk_RX9_20 dX9_inForce_1 ?_
  refine lv_astore_n (lv' := [(2, .ref _), (0, .ref (q 16)), (1, .int _)]) hx hb dX9_inForce_4 rfl hl (by decide) rfl (fun ls hl => ?_)
  refine lv_iconst (v := (nI 0)) hx hb dX9_inForce_5 (by decide) ?_
  refine lv_istore_n (lv' := [(3, .int _), (2, .ref _), (0, .ref (q 16)), (1, .int _)]) hx hb dX9_inForce_6 rfl hl (by decide) rfl (fun ls hl => ?_)
  exact w7 _ _ _ _ _ _ _ _ hw (lv_sub hl [2, 3, 1, 0] rfl) h
def f_X2_pointsOf (M : x_M) (a1 : Int32) (a2 : Int32) : Option (Int32 × x_M) := x_bn (f_X11_within M a2 (nI 0) (nI 3)) (fun r3 M => if r3 = 0 then some ((nI 0), M) else x_rd 40 (M 73) ((a1 * (nI 4)) + a2) (fun r18 => some (r18, M)))
abbrev rm_X2_pointsOf : Room := { frames := 1, cells := 0, slots := 0, locals := 22 }
set_option maxHeartbeats 4000000 in
set_option maxRecDepth 100000 in
theorem c_X2_pointsOf {l : Launch} {D : va_G} {cy : Nat → ClassId} {q ad : Nat → Nat} {NC : Nat} {s0 : State} (hq : x_Q q NC s0.heap.size) (hN : 88 ≤ NC) {M : x_M} {a1 : Int32} {a2 : Int32} {z : Int32 × x_M} (h : f_X2_pointsOf M a1 a2 = some z) : x_Ci l D cy q ad x_spX NC s0 yX2_pointsOf (x_uw yX2_pointsOf cX2_pointsOf 3 (some .int)) rm_X2_pointsOf [.ref (q 67), .int a1, .int a2] M z.1 z.2 := by
  refine x_meti hq (by decide) (Nat.le_of_ble_eq_true rfl) ?_
  intro p e s m args below meth c ls Q C hret hl hw
  have hx := C.1.1
  have hb := C.1.2.1
  have ho := C.1.2.2.2.1
  have hL := C.1.2.2.2.2
  have hl : lv_has ls 3 [(0, .ref (q 67)), (1, .int a1), (2, .int a2)] := hl
  unfold f_X2_pointsOf at h
  refine lv_iload_n hx hb dX2_pointsOf_0 rfl (lv_at hl 2 rfl) ?_
  refine lv_iconst (v := (nI 0)) hx hb dX2_pointsOf_1 (by decide) ?_
  refine lv_iconst (v := (nI 3)) hx hb dX2_pointsOf_2 (by decide) ?_
  refine xh_cNi C hw (n := 3) (rest := []) h (fun _ hy => c_X11_within hq hN hy) (host := "MilesHall") ⟨by decide +kernel, ii_RX11, cd_X11_within⟩ (by decide +kernel) st_X11_within ⟨rfl, rfl, by decide, by decide⟩ rfl hl.1 rfl (Nat.le_of_ble_eq_true rfl) dX2_pointsOf_3 (fun H locs r3 M hw h => ?_)
  refine x_if_eq (tgt := 22) hx hb h dX2_pointsOf_6 (by decide) (fun h => ?_) (fun h => ?_)
  · refine lv_iconst (v := (nI 0)) hx hb dX2_pointsOf_22 (by decide) ?_
    exact hret dX2_pointsOf_23 rfl hw h
  · refine lv_aload_n hx hb dX2_pointsOf_9 rfl (lv_at hl 0 rfl) ?_
    refine xh_getr C hw 67 4 sX_67 (x_lt hN rfl) rfl rfl rfl lk_RX2_28 dX2_pointsOf_10 ?_
    refine lv_iload_n hx hb dX2_pointsOf_13 rfl (lv_at hl 1 rfl) ?_
    refine lv_iconst (v := (nI 4)) hx hb dX2_pointsOf_14 (by decide) ?_
    refine lv_imul hx hb dX2_pointsOf_15 ?_
    refine lv_iload_n hx hb dX2_pointsOf_16 rfl (lv_at hl 2 rfl) ?_
    refine lv_iadd hx hb dX2_pointsOf_17 ?_
    refine xh_iald C hw 73 40 h sX_73 (x_lt hN rfl) dX2_pointsOf_18 (fun r18 h => ?_)
    refine lv_goto (tgt := 23) hx hb dX2_pointsOf_19 (by decide) ?_
    exact hret dX2_pointsOf_23 rfl hw h
def f_X8_end_30 (NC : Nat) (M : x_M) : Option (Int32 × x_M) := some ((nI 0), M)
def f_X8_end (NC : Nat) (M : x_M) (a0 : Int32) (a1 : Int32) : Option (Int32 × x_M) := if a1 < 0 then f_X8_end_30 NC M else x_tk NC a0 (x_tk NC a0 (if (nI 4) ≤ a1 then f_X8_end_30 NC M else x_tk NC a0 (x_tk NC a0 (x_rd 4 (M ((a0).toNatClampNeg + 1)) a1 (fun r18 => x_tk NC a0 (x_tk NC a0 (x_vl (nI (M (a0).toNatClampNeg 2147483648).toNatClampNeg) (fun r23 => some ((if r23 < r18 then r23 else r18), M)))))))))
abbrev rm_X8_end : Room := { frames := 1, cells := 0, slots := 0, locals := 30 }
set_option maxHeartbeats 4000000 in
set_option maxRecDepth 100000 in
theorem c_X8_end {l : Launch} {D : va_G} {cy : Nat → ClassId} {q ad : Nat → Nat} {NC : Nat} {s0 : State} (hq : x_Q q NC s0.heap.size) (hN : 88 ≤ NC) {M : x_M} {a0 : Int32} {a1 : Int32} {z : Int32 × x_M} (h : f_X8_end NC M a0 a1 = some z) : x_Ci l D cy q ad x_spX NC s0 yX8_end (x_uw yX8_end cX8_end 2 (some .int)) rm_X8_end [.ref (q ((a0).toNatClampNeg - 1)), .int a1] M z.1 z.2 := by
  refine x_meti hq (by decide) (Nat.le_of_ble_eq_true rfl) ?_
  intro p e s m args below meth c ls Q C hret hl hw
  have hx := C.1.1
  have hb := C.1.2.1
  have ho := C.1.2.2.2.1
  have hL := C.1.2.2.2.2
  have hl : lv_has ls 2 [(0, .ref (q ((a0).toNatClampNeg - 1))), (1, .int a1)] := hl
  have w30 : ∀ (M : x_M) (H : Heap) (locs : List Loc) (ls : Array Slot), x_B D cy q ad x_spX NC s H locs M → lv_has ls 2 [] → f_X8_end_30 NC M = some z → W p l e rm_X8_end s m args below meth c H locs 0 0 Q (F0 m 30 ls []) := by
    intro M H locs ls hw hl h
    unfold f_X8_end_30 at h
    refine lv_iconst (v := (nI 0)) hx hb dX8_end_30 (by decide) ?_
    exact hret dX8_end_31 rfl hw h
  unfold f_X8_end at h
  refine lv_iload_n hx hb dX8_end_0 rfl (lv_at hl 1 rfl) ?_
  refine x_if_lt (tgt := 30) hx hb h dX8_end_1 (by decide) (fun h => ?_) (fun h => ?_)
  · exact w30 _ _ _ _ hw (lv_sub hl [] rfl) h
  · refine lv_iload_n hx hb dX8_end_4 rfl (lv_at hl 1 rfl) ?_
    refine lv_aload_n hx hb dX8_end_5 rfl (lv_at hl 0 rfl) ?_
    refine xh_tends C hw h lk_RX8_17 dX8_end_6 (fun h => ?_)
    refine xh_telen C hw h dX8_end_9 (fun h => ?_)
    refine x_icmp_ge (tgt := 30) hx hb h dX8_end_10 (by decide) (fun h => ?_) (fun h => ?_)
    · exact w30 _ _ _ _ hw (lv_sub hl [] rfl) h
    · refine lv_aload_n hx hb dX8_end_13 rfl (lv_at hl 0 rfl) ?_
      refine xh_tends C hw h lk_RX8_17 dX8_end_14 (fun h => ?_)
      refine lv_iload_n hx hb dX8_end_17 rfl (lv_at hl 1 rfl) ?_
      refine xh_teld C hw h dX8_end_18 (fun r18 h => ?_)
      refine lv_aload_n hx hb dX8_end_19 rfl (lv_at hl 0 rfl) ?_
      refine xh_tcode C hw h lk_RX8_13 dX8_end_20 (fun h => ?_)
      refine xh_tclen C hw h dX8_end_23 (fun r23 h => ?_)
      refine xh_min C (rest := []) mw_RX8_20 hl.1 ⟨by decide, Nat.le_of_ble_eq_true rfl⟩ dX8_end_24 ?_
      refine lv_goto (tgt := 31) hx hb dX8_end_27 (by decide) ?_
      exact hret dX8_end_31 rfl hw h
def f_X8_begin_24 (NC : Nat) (M : x_M) : Option (Int32 × x_M) := some ((nI 0), M)
def f_X8_begin (NC : Nat) (M : x_M) (a0 : Int32) (a1 : Int32) : Option (Int32 × x_M) := if a1 ≤ 0 then f_X8_begin_24 NC M else x_tk NC a0 (x_tk NC a0 (if (nI 4) < a1 then f_X8_begin_24 NC M else x_tk NC a0 (x_tk NC a0 (x_rd 4 (M ((a0).toNatClampNeg + 1)) (a1 - (nI 1)) (fun r20 => some (r20, M))))))
abbrev rm_X8_begin : Room := { frames := 0, cells := 0, slots := 0, locals := 0 }
set_option maxHeartbeats 4000000 in
set_option maxRecDepth 100000 in
theorem c_X8_begin {l : Launch} {D : va_G} {cy : Nat → ClassId} {q ad : Nat → Nat} {NC : Nat} {s0 : State} (hq : x_Q q NC s0.heap.size) (hN : 88 ≤ NC) {M : x_M} {a0 : Int32} {a1 : Int32} {z : Int32 × x_M} (h : f_X8_begin NC M a0 a1 = some z) : x_Ci l D cy q ad x_spX NC s0 yX8_begin (x_uw yX8_begin cX8_begin 2 (some .int)) rm_X8_begin [.ref (q ((a0).toNatClampNeg - 1)), .int a1] M z.1 z.2 := by
  refine x_meti hq (by decide) (Nat.le_of_ble_eq_true rfl) ?_
  intro p e s m args below meth c ls Q C hret hl hw
  have hx := C.1.1
  have hb := C.1.2.1
  have ho := C.1.2.2.2.1
  have hL := C.1.2.2.2.2
  have hl : lv_has ls 2 [(0, .ref (q ((a0).toNatClampNeg - 1))), (1, .int a1)] := hl
  have w24 : ∀ (M : x_M) (H : Heap) (locs : List Loc) (ls : Array Slot), x_B D cy q ad x_spX NC s H locs M → lv_has ls 2 [] → f_X8_begin_24 NC M = some z → W p l e rm_X8_begin s m args below meth c H locs 0 0 Q (F0 m 24 ls []) := by
    intro M H locs ls hw hl h
    unfold f_X8_begin_24 at h
    refine lv_iconst (v := (nI 0)) hx hb dX8_begin_24 (by decide) ?_
    exact hret dX8_begin_25 rfl hw h
  unfold f_X8_begin at h
  refine lv_iload_n hx hb dX8_begin_0 rfl (lv_at hl 1 rfl) ?_
  refine x_if_le (tgt := 24) hx hb h dX8_begin_1 (by decide) (fun h => ?_) (fun h => ?_)
  · exact w24 _ _ _ _ hw (lv_sub hl [] rfl) h
  · refine lv_iload_n hx hb dX8_begin_4 rfl (lv_at hl 1 rfl) ?_
    refine lv_aload_n hx hb dX8_begin_5 rfl (lv_at hl 0 rfl) ?_
    refine xh_tends C hw h lk_RX8_17 dX8_begin_6 (fun h => ?_)
    refine xh_telen C hw h dX8_begin_9 (fun h => ?_)
    refine x_icmp_gt (tgt := 24) hx hb h dX8_begin_10 (by decide) (fun h => ?_) (fun h => ?_)
    · exact w24 _ _ _ _ hw (lv_sub hl [] rfl) h
    · refine lv_aload_n hx hb dX8_begin_13 rfl (lv_at hl 0 rfl) ?_
      refine xh_tends C hw h lk_RX8_17 dX8_begin_14 (fun h => ?_)
      refine lv_iload_n hx hb dX8_begin_17 rfl (lv_at hl 1 rfl) ?_
      refine lv_iconst (v := (nI 1)) hx hb dX8_begin_18 (by decide) ?_
      refine lv_isub hx hb dX8_begin_19 ?_
      refine xh_teld C hw h dX8_begin_20 (fun r20 h => ?_)
      refine lv_goto (tgt := 25) hx hb dX8_begin_21 (by decide) ?_
      exact hret dX8_begin_25 rfl hw h
def f_X1_pop (M : x_M) : Option (Int32 × x_M) := x_gf M 68 1 (fun r1 => if 0 < r1 then x_gf M 68 1 (fun r11 => x_pf M 68 1 (r11 - (nI 1)) (fun M => x_gf M 68 1 (fun r24 => x_rd 132 (M 69) r24 (fun r27 => some (r27, M))))) else some ((nI 0), M))
abbrev rm_X1_pop : Room := { frames := 0, cells := 0, slots := 0, locals := 0 }
set_option maxHeartbeats 4000000 in
set_option maxRecDepth 100000 in
theorem c_X1_pop {l : Launch} {D : va_G} {cy : Nat → ClassId} {q ad : Nat → Nat} {NC : Nat} {s0 : State} (hq : x_Q q NC s0.heap.size) (hN : 88 ≤ NC) {M : x_M} {z : Int32 × x_M} (h : f_X1_pop M = some z) : x_Ci l D cy q ad x_spX NC s0 yX1_pop (x_uw yX1_pop cX1_pop 1 (some .int)) rm_X1_pop [.ref (q 68)] M z.1 z.2 := by
  refine x_meti hq (by decide) (Nat.le_of_ble_eq_true rfl) ?_
  intro p e s m args below meth c ls Q C hret hl hw
  have hx := C.1.1
  have hb := C.1.2.1
  have ho := C.1.2.2.2.1
  have hL := C.1.2.2.2.2
  have hl : lv_has ls 1 [(0, .ref (q 68))] := hl
  unfold f_X1_pop at h
  refine lv_aload_n hx hb dX1_pop_0 rfl (lv_at hl 0 rfl) ?_
  refine xh_geti C hw 68 1 h sX_68 (x_lt hN rfl) rfl rfl rfl lk_RX1_28 dX1_pop_1 (fun r1 h => ?_)
  refine x_if_gt (tgt := 9) hx hb h dX1_pop_4 (by decide) (fun h => ?_) (fun h => ?_)
  · refine lv_aload_n hx hb dX1_pop_9 rfl (lv_at hl 0 rfl) ?_
    refine lv_dup hx hb dX1_pop_10 rfl ?_
    refine xh_geti C hw 68 1 h sX_68 (x_lt hN rfl) rfl rfl rfl lk_RX1_28 dX1_pop_11 (fun r11 h => ?_)
    refine lv_iconst (v := (nI 1)) hx hb dX1_pop_14 (by decide) ?_
    refine lv_isub hx hb dX1_pop_15 ?_
    refine xh_puti C hw 68 1 h sX_68 (x_lt hN rfl) rfl rfl rfl lk_RX1_28 rfl rfl dX1_pop_16 (fun H locs M hw h => ?_)
    refine lv_aload_n hx hb dX1_pop_19 rfl (lv_at hl 0 rfl) ?_
    refine xh_getr C hw 68 0 sX_68 (x_lt hN rfl) rfl rfl rfl lk_RX1_9 dX1_pop_20 ?_
    refine lv_aload_n hx hb dX1_pop_23 rfl (lv_at hl 0 rfl) ?_
    refine xh_geti C hw 68 1 h sX_68 (x_lt hN rfl) rfl rfl rfl lk_RX1_28 dX1_pop_24 (fun r24 h => ?_)
    refine xh_iald C hw 69 132 h sX_69 (x_lt hN rfl) dX1_pop_27 (fun r27 h => ?_)
    exact hret dX1_pop_28 rfl hw h
  · refine lv_iconst (v := (nI 0)) hx hb dX1_pop_7 (by decide) ?_
    exact hret dX1_pop_8 rfl hw h
def f_X1_joined_102 (M : x_M) : Option (Int32 × x_M) := some ((nI 0), M)
def f_X1_joined_84 (M : x_M) : Option (Int32 × x_M) := some ((nI 1), M)
def f_X1_joined (M : x_M) (a1 : Int32) (a2 : Int32) (a3 : Int32) : Option (Int32 × x_M) := if a1 = (nI 38) then if a2 = 0 then f_X1_joined_102 M else if a3 = 0 then f_X1_joined_102 M else some ((nI 1), M) else if a1 = (nI 42) then some ((a2 * a3), M) else if a1 = (nI 43) then some ((a2 + a3), M) else if a1 = (nI 45) then some ((a2 - a3), M) else if a1 = (nI 60) then if a3 ≤ a2 then some ((nI 0), M) else some ((nI 1), M) else if a1 = (nI 61) then if a2 = a3 then some ((nI 1), M) else some ((nI 0), M) else if a1 = (nI 62) then if a2 ≤ a3 then some ((nI 0), M) else some ((nI 1), M) else if a1 = (nI 124) then if a2 = 0 then if a3 = 0 then some ((nI 0), M) else f_X1_joined_84 M else f_X1_joined_84 M else if a3 = 0 then some ((nI 0), M) else x_dv a3 (some ((a2 / a3), M))
abbrev rm_X1_joined : Room := { frames := 0, cells := 0, slots := 0, locals := 0 }
set_option maxHeartbeats 4000000 in
set_option maxRecDepth 100000 in
theorem c_X1_joined {l : Launch} {D : va_G} {cy : Nat → ClassId} {q ad : Nat → Nat} {NC : Nat} {s0 : State} (hq : x_Q q NC s0.heap.size) (hN : 88 ≤ NC) {M : x_M} {a1 : Int32} {a2 : Int32} {a3 : Int32} {z : Int32 × x_M} (h : f_X1_joined M a1 a2 a3 = some z) : x_Ci l D cy q ad x_spX NC s0 yX1_joined (x_uw yX1_joined cX1_joined 3 (some .int)) rm_X1_joined [.int a1, .int a2, .int a3] M z.1 z.2 := by
  refine x_meti hq (by decide) (Nat.le_of_ble_eq_true rfl) ?_
  intro p e s m args below meth c ls Q C hret hl hw
  have hx := C.1.1
  have hb := C.1.2.1
  have ho := C.1.2.2.2.1
  have hL := C.1.2.2.2.2
  have hl : lv_has ls 3 [(0, .int a1), (1, .int a2), (2, .int a3)] := hl
  have w102 : ∀ (M : x_M) (H : Heap) (locs : List Loc) (ls : Array Slot), x_B D cy q ad x_spX NC s H locs M → lv_has ls 3 [] → f_X1_joined_102 M = some z → W p l e rm_X1_joined s m args below meth c H locs 0 0 Q (F0 m 102 ls []) := by
    intro M H locs ls hw hl h
    unfold f_X1_joined_102 at h
    refine lv_iconst (v := (nI 0)) hx hb dX1_joined_102 (by decide) ?_
    exact hret dX1_joined_103 rfl hw h
  have w84 : ∀ (M : x_M) (H : Heap) (locs : List Loc) (ls : Array Slot), x_B D cy q ad x_spX NC s H locs M → lv_has ls 3 [] → f_X1_joined_84 M = some z → W p l e rm_X1_joined s m args below meth c H locs 0 0 Q (F0 m 84 ls []) := by
    intro M H locs ls hw hl h
    unfold f_X1_joined_84 at h
    refine lv_iconst (v := (nI 1)) hx hb dX1_joined_84 (by decide) ?_
    refine lv_goto (tgt := 89) hx hb dX1_joined_85 (by decide) ?_
    exact hret dX1_joined_89 rfl hw h
  unfold f_X1_joined at h
  refine lv_iload_n hx hb dX1_joined_0 rfl (lv_at hl 0 rfl) ?_
  refine (Decidable.em (a1 = (nI 38))).elim (fun c1_38 => ?_) (fun c1_38 => ?_)
  · rw [if_pos c1_38] at h
    rw [c1_38]
    refine lv_lookup (off := 89) (tgt := 90) hx hb dX1_joined_1 (by decide) (by decide) (by decide) ?_
    refine lv_iload_n hx hb dX1_joined_90 rfl (lv_at hl 1 rfl) ?_
    refine x_if_eq (tgt := 102) hx hb h dX1_joined_91 (by decide) (fun h => ?_) (fun h => ?_)
    · exact w102 _ _ _ _ hw (lv_sub hl [] rfl) h
    · refine lv_iload_n hx hb dX1_joined_94 rfl (lv_at hl 2 rfl) ?_
      refine x_if_eq (tgt := 102) hx hb h dX1_joined_95 (by decide) (fun h => ?_) (fun h => ?_)
      · exact w102 _ _ _ _ hw (lv_sub hl [] rfl) h
      · refine lv_iconst (v := (nI 1)) hx hb dX1_joined_98 (by decide) ?_
        refine lv_goto (tgt := 103) hx hb dX1_joined_99 (by decide) ?_
        exact hret dX1_joined_103 rfl hw h
  rw [if_neg c1_38] at h
  refine (Decidable.em (a1 = (nI 42))).elim (fun c1_42 => ?_) (fun c1_42 => ?_)
  · rw [if_pos c1_42] at h
    rw [c1_42]
    refine lv_lookup (off := 144) (tgt := 145) hx hb dX1_joined_1 (by decide) (by decide) (by decide) ?_
    refine lv_iload_n hx hb dX1_joined_145 rfl (lv_at hl 1 rfl) ?_
    refine lv_iload_n hx hb dX1_joined_146 rfl (lv_at hl 2 rfl) ?_
    refine lv_imul hx hb dX1_joined_147 ?_
    exact hret dX1_joined_148 rfl hw h
  rw [if_neg c1_42] at h
  refine (Decidable.em (a1 = (nI 43))).elim (fun c1_43 => ?_) (fun c1_43 => ?_)
  · rw [if_pos c1_43] at h
    rw [c1_43]
    refine lv_lookup (off := 136) (tgt := 137) hx hb dX1_joined_1 (by decide) (by decide) (by decide) ?_
    refine lv_iload_n hx hb dX1_joined_137 rfl (lv_at hl 1 rfl) ?_
    refine lv_iload_n hx hb dX1_joined_138 rfl (lv_at hl 2 rfl) ?_
    refine lv_iadd hx hb dX1_joined_139 ?_
    exact hret dX1_joined_140 rfl hw h
  rw [if_neg c1_43] at h
  refine (Decidable.em (a1 = (nI 45))).elim (fun c1_45 => ?_) (fun c1_45 => ?_)
  · rw [if_pos c1_45] at h
    rw [c1_45]
    refine lv_lookup (off := 140) (tgt := 141) hx hb dX1_joined_1 (by decide) (by decide) (by decide) ?_
    refine lv_iload_n hx hb dX1_joined_141 rfl (lv_at hl 1 rfl) ?_
    refine lv_iload_n hx hb dX1_joined_142 rfl (lv_at hl 2 rfl) ?_
    refine lv_isub hx hb dX1_joined_143 ?_
    exact hret dX1_joined_144 rfl hw h
  rw [if_neg c1_45] at h
  refine (Decidable.em (a1 = (nI 60))).elim (fun c1_60 => ?_) (fun c1_60 => ?_)
  · rw [if_pos c1_60] at h
    rw [c1_60]
    refine lv_lookup (off := 103) (tgt := 104) hx hb dX1_joined_1 (by decide) (by decide) (by decide) ?_
    refine lv_iload_n hx hb dX1_joined_104 rfl (lv_at hl 1 rfl) ?_
    refine lv_iload_n hx hb dX1_joined_105 rfl (lv_at hl 2 rfl) ?_
    refine x_icmp_ge (tgt := 113) hx hb h dX1_joined_106 (by decide) (fun h => ?_) (fun h => ?_)
    · refine lv_iconst (v := (nI 0)) hx hb dX1_joined_113 (by decide) ?_
      exact hret dX1_joined_114 rfl hw h
    · refine lv_iconst (v := (nI 1)) hx hb dX1_joined_109 (by decide) ?_
      refine lv_goto (tgt := 114) hx hb dX1_joined_110 (by decide) ?_
      exact hret dX1_joined_114 rfl hw h
  rw [if_neg c1_60] at h
  refine (Decidable.em (a1 = (nI 61))).elim (fun c1_61 => ?_) (fun c1_61 => ?_)
  · rw [if_pos c1_61] at h
    rw [c1_61]
    refine lv_lookup (off := 114) (tgt := 115) hx hb dX1_joined_1 (by decide) (by decide) (by decide) ?_
    refine lv_iload_n hx hb dX1_joined_115 rfl (lv_at hl 1 rfl) ?_
    refine lv_iload_n hx hb dX1_joined_116 rfl (lv_at hl 2 rfl) ?_
    refine x_icmp_ne (tgt := 124) hx hb h dX1_joined_117 (by decide) (fun h => ?_) (fun h => ?_)
    · refine lv_iconst (v := (nI 1)) hx hb dX1_joined_120 (by decide) ?_
      refine lv_goto (tgt := 125) hx hb dX1_joined_121 (by decide) ?_
      exact hret dX1_joined_125 rfl hw h
    · refine lv_iconst (v := (nI 0)) hx hb dX1_joined_124 (by decide) ?_
      exact hret dX1_joined_125 rfl hw h
  rw [if_neg c1_61] at h
  refine (Decidable.em (a1 = (nI 62))).elim (fun c1_62 => ?_) (fun c1_62 => ?_)
  · rw [if_pos c1_62] at h
    rw [c1_62]
    refine lv_lookup (off := 125) (tgt := 126) hx hb dX1_joined_1 (by decide) (by decide) (by decide) ?_
    refine lv_iload_n hx hb dX1_joined_126 rfl (lv_at hl 1 rfl) ?_
    refine lv_iload_n hx hb dX1_joined_127 rfl (lv_at hl 2 rfl) ?_
    refine x_icmp_le (tgt := 135) hx hb h dX1_joined_128 (by decide) (fun h => ?_) (fun h => ?_)
    · refine lv_iconst (v := (nI 0)) hx hb dX1_joined_135 (by decide) ?_
      exact hret dX1_joined_136 rfl hw h
    · refine lv_iconst (v := (nI 1)) hx hb dX1_joined_131 (by decide) ?_
      refine lv_goto (tgt := 136) hx hb dX1_joined_132 (by decide) ?_
      exact hret dX1_joined_136 rfl hw h
  rw [if_neg c1_62] at h
  refine (Decidable.em (a1 = (nI 124))).elim (fun c1_124 => ?_) (fun c1_124 => ?_)
  · rw [if_pos c1_124] at h
    rw [c1_124]
    refine lv_lookup (off := 75) (tgt := 76) hx hb dX1_joined_1 (by decide) (by decide) (by decide) ?_
    refine lv_iload_n hx hb dX1_joined_76 rfl (lv_at hl 1 rfl) ?_
    refine x_if_ne (tgt := 84) hx hb h dX1_joined_77 (by decide) (fun h => ?_) (fun h => ?_)
    · refine lv_iload_n hx hb dX1_joined_80 rfl (lv_at hl 2 rfl) ?_
      refine x_if_eq (tgt := 88) hx hb h dX1_joined_81 (by decide) (fun h => ?_) (fun h => ?_)
      · refine lv_iconst (v := (nI 0)) hx hb dX1_joined_88 (by decide) ?_
        exact hret dX1_joined_89 rfl hw h
      · exact w84 _ _ _ _ hw (lv_sub hl [] rfl) h
    · exact w84 _ _ _ _ hw (lv_sub hl [] rfl) h
  rw [if_neg c1_124] at h
  refine lv_lookup (off := 148) (tgt := 149) hx hb dX1_joined_1 (by decide) (by show Op.lookupswitch.offset [(38, 89), (42, 144), (43, 136), (45, 140), (60, 103), (61, 114), (62, 125), (124, 75)] 148 _ = _; rw [lv_osw c1_38 (show ((nI 38) : Int32).toInt = 38 by decide), lv_osw c1_42 (show ((nI 42) : Int32).toInt = 42 by decide), lv_osw c1_43 (show ((nI 43) : Int32).toInt = 43 by decide), lv_osw c1_45 (show ((nI 45) : Int32).toInt = 45 by decide), lv_osw c1_60 (show ((nI 60) : Int32).toInt = 60 by decide), lv_osw c1_61 (show ((nI 61) : Int32).toInt = 61 by decide), lv_osw c1_62 (show ((nI 62) : Int32).toInt = 62 by decide), lv_osw c1_124 (show ((nI 124) : Int32).toInt = 124 by decide)]; rfl) (by decide) ?_
  refine lv_iload_n hx hb dX1_joined_149 rfl (lv_at hl 2 rfl) ?_
  refine x_if_ne (tgt := 157) hx hb h dX1_joined_150 (by decide) (fun h => ?_) (fun h => ?_)
  · refine lv_iconst (v := (nI 0)) hx hb dX1_joined_153 (by decide) ?_
    refine lv_goto (tgt := 160) hx hb dX1_joined_154 (by decide) ?_
    exact hret dX1_joined_160 rfl hw h
  · refine lv_iload_n hx hb dX1_joined_157 rfl (lv_at hl 1 rfl) ?_
    refine lv_iload_n hx hb dX1_joined_158 rfl (lv_at hl 2 rfl) ?_
    refine xh_idiv hx hb h dX1_joined_159 (fun h => ?_)
    exact hret dX1_joined_160 rfl hw h
def f_X1_push (M : x_M) (a1 : Int32) : Option (Unit × x_M) := x_gf M 68 1 (fun r1 => if (nI 132) ≤ r1 then some ((), M) else x_gf M 68 1 (fun r17 => x_wr 132 M 69 r17 a1 (fun M => x_gf M 68 1 (fun r24 => x_pf M 68 1 (r24 + (nI 1)) (fun M => some ((), M))))))
abbrev rm_X1_push : Room := { frames := 0, cells := 0, slots := 0, locals := 0 }
set_option maxHeartbeats 4000000 in
set_option maxRecDepth 100000 in
theorem c_X1_push {l : Launch} {D : va_G} {cy : Nat → ClassId} {q ad : Nat → Nat} {NC : Nat} {s0 : State} (hq : x_Q q NC s0.heap.size) (hN : 88 ≤ NC) {M : x_M} {a1 : Int32} {z : Unit × x_M} (h : f_X1_push M a1 = some z) : x_Cv l D cy q ad x_spX NC s0 yX1_push (x_uw yX1_push cX1_push 2 none) rm_X1_push [.ref (q 68), .int a1] M z.2 := by
  refine x_metv hq (by decide) (Nat.le_of_ble_eq_true rfl) ?_
  intro p e s m args below meth c ls Q C hret hl hw
  have hx := C.1.1
  have hb := C.1.2.1
  have ho := C.1.2.2.2.1
  have hL := C.1.2.2.2.2
  have hl : lv_has ls 2 [(0, .ref (q 68)), (1, .int a1)] := hl
  unfold f_X1_push at h
  refine lv_aload_n hx hb dX1_push_0 rfl (lv_at hl 0 rfl) ?_
  refine xh_geti C hw 68 1 h sX_68 (x_lt hN rfl) rfl rfl rfl lk_RX1_28 dX1_push_1 (fun r1 h => ?_)
  refine lv_aload_n hx hb dX1_push_4 rfl (lv_at hl 0 rfl) ?_
  refine xh_getr C hw 68 0 sX_68 (x_lt hN rfl) rfl rfl rfl lk_RX1_9 dX1_push_5 ?_
  refine va_alen hx hb C.2.1.1 hw.1 69 0 (by rw [x_w_get (x_lt hN rfl), sX_69]; rfl) rfl (v := nI 132) rfl dX1_push_8 ?_
  refine x_icmp_ge (tgt := 32) hx hb h dX1_push_9 (by decide) (fun h => ?_) (fun h => ?_)
  · exact hret dX1_push_32 hw h
  · refine lv_aload_n hx hb dX1_push_12 rfl (lv_at hl 0 rfl) ?_
    refine xh_getr C hw 68 0 sX_68 (x_lt hN rfl) rfl rfl rfl lk_RX1_9 dX1_push_13 ?_
    refine lv_aload_n hx hb dX1_push_16 rfl (lv_at hl 0 rfl) ?_
    refine xh_geti C hw 68 1 h sX_68 (x_lt hN rfl) rfl rfl rfl lk_RX1_28 dX1_push_17 (fun r17 h => ?_)
    refine lv_iload_n hx hb dX1_push_20 rfl (lv_at hl 1 rfl) ?_
    refine xh_iast C hw 69 132 h sX_69 (x_lt hN rfl) dX1_push_21 (fun H locs M hw h => ?_)
    refine lv_aload_n hx hb dX1_push_22 rfl (lv_at hl 0 rfl) ?_
    refine lv_dup hx hb dX1_push_23 rfl ?_
    refine xh_geti C hw 68 1 h sX_68 (x_lt hN rfl) rfl rfl rfl lk_RX1_28 dX1_push_24 (fun r24 h => ?_)
    refine lv_iconst (v := (nI 1)) hx hb dX1_push_27 (by decide) ?_
    refine lv_iadd hx hb dX1_push_28 ?_
    refine xh_puti C hw 68 1 h sX_68 (x_lt hN rfl) rfl rfl rfl lk_RX1_28 rfl rfl dX1_push_29 (fun H locs M hw h => ?_)
    exact hret dX1_push_32 hw h
def f_X1_named (M : x_M) (a1 : Int32) : Option (Int32 × x_M) := if a1 = (nI 99) then x_gf M 68 5 (fun r104 => some (r104, M)) else if a1 = (nI 100) then x_gf M 68 7 (fun r114 => some (r114, M)) else if a1 = (nI 101) then x_gf M 68 10 (fun r129 => some (r129, M)) else if a1 = (nI 102) then x_gf M 68 3 (fun r94 => some (r94, M)) else if a1 = (nI 103) then x_gf M 68 10 (fun r129 => some (r129, M)) else if a1 = (nI 104) then x_gf M 68 10 (fun r129 => some (r129, M)) else if a1 = (nI 105) then x_gf M 68 10 (fun r129 => some (r129, M)) else if a1 = (nI 106) then x_gf M 68 10 (fun r129 => some (r129, M)) else if a1 = (nI 107) then x_gf M 68 9 (fun r124 => some (r124, M)) else if a1 = (nI 108) then x_gf M 68 2 (fun r89 => some (r89, M)) else if a1 = (nI 109) then x_gf M 68 10 (fun r129 => some (r129, M)) else if a1 = (nI 110) then x_gf M 68 10 (fun r129 => some (r129, M)) else if a1 = (nI 111) then x_gf M 68 6 (fun r109 => some (r109, M)) else if a1 = (nI 112) then x_gf M 68 4 (fun r99 => some (r99, M)) else if a1 = (nI 113) then x_gf M 68 10 (fun r129 => some (r129, M)) else if a1 = (nI 114) then x_gf M 68 10 (fun r129 => some (r129, M)) else if a1 = (nI 115) then x_gf M 68 10 (fun r129 => some (r129, M)) else if a1 = (nI 116) then x_gf M 68 8 (fun r119 => some (r119, M)) else x_gf M 68 10 (fun r129 => some (r129, M))
abbrev rm_X1_named : Room := { frames := 0, cells := 0, slots := 0, locals := 0 }
set_option maxHeartbeats 4000000 in
set_option maxRecDepth 100000 in
theorem c_X1_named {l : Launch} {D : va_G} {cy : Nat → ClassId} {q ad : Nat → Nat} {NC : Nat} {s0 : State} (hq : x_Q q NC s0.heap.size) (hN : 88 ≤ NC) {M : x_M} {a1 : Int32} {z : Int32 × x_M} (h : f_X1_named M a1 = some z) : x_Ci l D cy q ad x_spX NC s0 yX1_named (x_uw yX1_named cX1_named 2 (some .int)) rm_X1_named [.ref (q 68), .int a1] M z.1 z.2 := by
  refine x_meti hq (by decide) (Nat.le_of_ble_eq_true rfl) ?_
  intro p e s m args below meth c ls Q C hret hl hw
  have hx := C.1.1
  have hb := C.1.2.1
  have ho := C.1.2.2.2.1
  have hL := C.1.2.2.2.2
  have hl : lv_has ls 2 [(0, .ref (q 68)), (1, .int a1)] := hl
  unfold f_X1_named at h
  refine lv_iload_n hx hb dX1_named_0 rfl (lv_at hl 1 rfl) ?_
  refine (Decidable.em (a1 = (nI 99))).elim (fun c1_99 => ?_) (fun c1_99 => ?_)
  · rw [if_pos c1_99] at h
    rw [c1_99]
    refine lv_tableIn (off := 102) (tgt := 103) hx hb dX1_named_1 (by decide) (by decide) (by decide) (by decide) ?_
    refine lv_aload_n hx hb dX1_named_103 rfl (lv_at hl 0 rfl) ?_
    refine xh_geti C hw 68 5 h sX_68 (x_lt hN rfl) rfl rfl rfl lk_RX1_65 dX1_named_104 (fun r104 h => ?_)
    exact hret dX1_named_107 rfl hw h
  rw [if_neg c1_99] at h
  refine (Decidable.em (a1 = (nI 100))).elim (fun c1_100 => ?_) (fun c1_100 => ?_)
  · rw [if_pos c1_100] at h
    rw [c1_100]
    refine lv_tableIn (off := 112) (tgt := 113) hx hb dX1_named_1 (by decide) (by decide) (by decide) (by decide) ?_
    refine lv_aload_n hx hb dX1_named_113 rfl (lv_at hl 0 rfl) ?_
    refine xh_geti C hw 68 7 h sX_68 (x_lt hN rfl) rfl rfl rfl lk_RX1_71 dX1_named_114 (fun r114 h => ?_)
    exact hret dX1_named_117 rfl hw h
  rw [if_neg c1_100] at h
  refine (Decidable.em (a1 = (nI 101))).elim (fun c1_101 => ?_) (fun c1_101 => ?_)
  · rw [if_pos c1_101] at h
    rw [c1_101]
    refine lv_tableIn (off := 127) (tgt := 128) hx hb dX1_named_1 (by decide) (by decide) (by decide) (by decide) ?_
    refine lv_aload_n hx hb dX1_named_128 rfl (lv_at hl 0 rfl) ?_
    refine xh_geti C hw 68 10 h sX_68 (x_lt hN rfl) rfl rfl rfl lk_RX1_74 dX1_named_129 (fun r129 h => ?_)
    exact hret dX1_named_132 rfl hw h
  rw [if_neg c1_101] at h
  refine (Decidable.em (a1 = (nI 102))).elim (fun c1_102 => ?_) (fun c1_102 => ?_)
  · rw [if_pos c1_102] at h
    rw [c1_102]
    refine lv_tableIn (off := 92) (tgt := 93) hx hb dX1_named_1 (by decide) (by decide) (by decide) (by decide) ?_
    refine lv_aload_n hx hb dX1_named_93 rfl (lv_at hl 0 rfl) ?_
    refine xh_geti C hw 68 3 h sX_68 (x_lt hN rfl) rfl rfl rfl lk_RX1_19 dX1_named_94 (fun r94 h => ?_)
    exact hret dX1_named_97 rfl hw h
  rw [if_neg c1_102] at h
  refine (Decidable.em (a1 = (nI 103))).elim (fun c1_103 => ?_) (fun c1_103 => ?_)
  · rw [if_pos c1_103] at h
    rw [c1_103]
    refine lv_tableIn (off := 127) (tgt := 128) hx hb dX1_named_1 (by decide) (by decide) (by decide) (by decide) ?_
    refine lv_aload_n hx hb dX1_named_128 rfl (lv_at hl 0 rfl) ?_
    refine xh_geti C hw 68 10 h sX_68 (x_lt hN rfl) rfl rfl rfl lk_RX1_74 dX1_named_129 (fun r129 h => ?_)
    exact hret dX1_named_132 rfl hw h
  rw [if_neg c1_103] at h
  refine (Decidable.em (a1 = (nI 104))).elim (fun c1_104 => ?_) (fun c1_104 => ?_)
  · rw [if_pos c1_104] at h
    rw [c1_104]
    refine lv_tableIn (off := 127) (tgt := 128) hx hb dX1_named_1 (by decide) (by decide) (by decide) (by decide) ?_
    refine lv_aload_n hx hb dX1_named_128 rfl (lv_at hl 0 rfl) ?_
    refine xh_geti C hw 68 10 h sX_68 (x_lt hN rfl) rfl rfl rfl lk_RX1_74 dX1_named_129 (fun r129 h => ?_)
    exact hret dX1_named_132 rfl hw h
  rw [if_neg c1_104] at h
  refine (Decidable.em (a1 = (nI 105))).elim (fun c1_105 => ?_) (fun c1_105 => ?_)
  · rw [if_pos c1_105] at h
    rw [c1_105]
    refine lv_tableIn (off := 127) (tgt := 128) hx hb dX1_named_1 (by decide) (by decide) (by decide) (by decide) ?_
    refine lv_aload_n hx hb dX1_named_128 rfl (lv_at hl 0 rfl) ?_
    refine xh_geti C hw 68 10 h sX_68 (x_lt hN rfl) rfl rfl rfl lk_RX1_74 dX1_named_129 (fun r129 h => ?_)
    exact hret dX1_named_132 rfl hw h
  rw [if_neg c1_105] at h
  refine (Decidable.em (a1 = (nI 106))).elim (fun c1_106 => ?_) (fun c1_106 => ?_)
  · rw [if_pos c1_106] at h
    rw [c1_106]
    refine lv_tableIn (off := 127) (tgt := 128) hx hb dX1_named_1 (by decide) (by decide) (by decide) (by decide) ?_
    refine lv_aload_n hx hb dX1_named_128 rfl (lv_at hl 0 rfl) ?_
    refine xh_geti C hw 68 10 h sX_68 (x_lt hN rfl) rfl rfl rfl lk_RX1_74 dX1_named_129 (fun r129 h => ?_)
    exact hret dX1_named_132 rfl hw h
  rw [if_neg c1_106] at h
  refine (Decidable.em (a1 = (nI 107))).elim (fun c1_107 => ?_) (fun c1_107 => ?_)
  · rw [if_pos c1_107] at h
    rw [c1_107]
    refine lv_tableIn (off := 122) (tgt := 123) hx hb dX1_named_1 (by decide) (by decide) (by decide) (by decide) ?_
    refine lv_aload_n hx hb dX1_named_123 rfl (lv_at hl 0 rfl) ?_
    refine xh_geti C hw 68 9 h sX_68 (x_lt hN rfl) rfl rfl rfl lk_RX1_25 dX1_named_124 (fun r124 h => ?_)
    exact hret dX1_named_127 rfl hw h
  rw [if_neg c1_107] at h
  refine (Decidable.em (a1 = (nI 108))).elim (fun c1_108 => ?_) (fun c1_108 => ?_)
  · rw [if_pos c1_108] at h
    rw [c1_108]
    refine lv_tableIn (off := 87) (tgt := 88) hx hb dX1_named_1 (by decide) (by decide) (by decide) (by decide) ?_
    refine lv_aload_n hx hb dX1_named_88 rfl (lv_at hl 0 rfl) ?_
    refine xh_geti C hw 68 2 h sX_68 (x_lt hN rfl) rfl rfl rfl lk_RX1_15 dX1_named_89 (fun r89 h => ?_)
    exact hret dX1_named_92 rfl hw h
  rw [if_neg c1_108] at h
  refine (Decidable.em (a1 = (nI 109))).elim (fun c1_109 => ?_) (fun c1_109 => ?_)
  · rw [if_pos c1_109] at h
    rw [c1_109]
    refine lv_tableIn (off := 127) (tgt := 128) hx hb dX1_named_1 (by decide) (by decide) (by decide) (by decide) ?_
    refine lv_aload_n hx hb dX1_named_128 rfl (lv_at hl 0 rfl) ?_
    refine xh_geti C hw 68 10 h sX_68 (x_lt hN rfl) rfl rfl rfl lk_RX1_74 dX1_named_129 (fun r129 h => ?_)
    exact hret dX1_named_132 rfl hw h
  rw [if_neg c1_109] at h
  refine (Decidable.em (a1 = (nI 110))).elim (fun c1_110 => ?_) (fun c1_110 => ?_)
  · rw [if_pos c1_110] at h
    rw [c1_110]
    refine lv_tableIn (off := 127) (tgt := 128) hx hb dX1_named_1 (by decide) (by decide) (by decide) (by decide) ?_
    refine lv_aload_n hx hb dX1_named_128 rfl (lv_at hl 0 rfl) ?_
    refine xh_geti C hw 68 10 h sX_68 (x_lt hN rfl) rfl rfl rfl lk_RX1_74 dX1_named_129 (fun r129 h => ?_)
    exact hret dX1_named_132 rfl hw h
  rw [if_neg c1_110] at h
  refine (Decidable.em (a1 = (nI 111))).elim (fun c1_111 => ?_) (fun c1_111 => ?_)
  · rw [if_pos c1_111] at h
    rw [c1_111]
    refine lv_tableIn (off := 107) (tgt := 108) hx hb dX1_named_1 (by decide) (by decide) (by decide) (by decide) ?_
    refine lv_aload_n hx hb dX1_named_108 rfl (lv_at hl 0 rfl) ?_
    refine xh_geti C hw 68 6 h sX_68 (x_lt hN rfl) rfl rfl rfl lk_RX1_68 dX1_named_109 (fun r109 h => ?_)
    exact hret dX1_named_112 rfl hw h
  rw [if_neg c1_111] at h
  refine (Decidable.em (a1 = (nI 112))).elim (fun c1_112 => ?_) (fun c1_112 => ?_)
  · rw [if_pos c1_112] at h
    rw [c1_112]
    refine lv_tableIn (off := 97) (tgt := 98) hx hb dX1_named_1 (by decide) (by decide) (by decide) (by decide) ?_
    refine lv_aload_n hx hb dX1_named_98 rfl (lv_at hl 0 rfl) ?_
    refine xh_geti C hw 68 4 h sX_68 (x_lt hN rfl) rfl rfl rfl lk_RX1_62 dX1_named_99 (fun r99 h => ?_)
    exact hret dX1_named_102 rfl hw h
  rw [if_neg c1_112] at h
  refine (Decidable.em (a1 = (nI 113))).elim (fun c1_113 => ?_) (fun c1_113 => ?_)
  · rw [if_pos c1_113] at h
    rw [c1_113]
    refine lv_tableIn (off := 127) (tgt := 128) hx hb dX1_named_1 (by decide) (by decide) (by decide) (by decide) ?_
    refine lv_aload_n hx hb dX1_named_128 rfl (lv_at hl 0 rfl) ?_
    refine xh_geti C hw 68 10 h sX_68 (x_lt hN rfl) rfl rfl rfl lk_RX1_74 dX1_named_129 (fun r129 h => ?_)
    exact hret dX1_named_132 rfl hw h
  rw [if_neg c1_113] at h
  refine (Decidable.em (a1 = (nI 114))).elim (fun c1_114 => ?_) (fun c1_114 => ?_)
  · rw [if_pos c1_114] at h
    rw [c1_114]
    refine lv_tableIn (off := 127) (tgt := 128) hx hb dX1_named_1 (by decide) (by decide) (by decide) (by decide) ?_
    refine lv_aload_n hx hb dX1_named_128 rfl (lv_at hl 0 rfl) ?_
    refine xh_geti C hw 68 10 h sX_68 (x_lt hN rfl) rfl rfl rfl lk_RX1_74 dX1_named_129 (fun r129 h => ?_)
    exact hret dX1_named_132 rfl hw h
  rw [if_neg c1_114] at h
  refine (Decidable.em (a1 = (nI 115))).elim (fun c1_115 => ?_) (fun c1_115 => ?_)
  · rw [if_pos c1_115] at h
    rw [c1_115]
    refine lv_tableIn (off := 127) (tgt := 128) hx hb dX1_named_1 (by decide) (by decide) (by decide) (by decide) ?_
    refine lv_aload_n hx hb dX1_named_128 rfl (lv_at hl 0 rfl) ?_
    refine xh_geti C hw 68 10 h sX_68 (x_lt hN rfl) rfl rfl rfl lk_RX1_74 dX1_named_129 (fun r129 h => ?_)
    exact hret dX1_named_132 rfl hw h
  rw [if_neg c1_115] at h
  refine (Decidable.em (a1 = (nI 116))).elim (fun c1_116 => ?_) (fun c1_116 => ?_)
  · rw [if_pos c1_116] at h
    rw [c1_116]
    refine lv_tableIn (off := 117) (tgt := 118) hx hb dX1_named_1 (by decide) (by decide) (by decide) (by decide) ?_
    refine lv_aload_n hx hb dX1_named_118 rfl (lv_at hl 0 rfl) ?_
    refine xh_geti C hw 68 8 h sX_68 (x_lt hN rfl) rfl rfl rfl lk_RX1_22 dX1_named_119 (fun r119 h => ?_)
    exact hret dX1_named_122 rfl hw h
  rw [if_neg c1_116] at h
  refine lv_tableOut (tgt := 128) hx hb dX1_named_1 (by have e0 := lv_neT c1_99 (show ((nI 99) : Int32).toInt = 99 by decide); have e1 := lv_neT c1_100 (show ((nI 100) : Int32).toInt = 100 by decide); have e2 := lv_neT c1_101 (show ((nI 101) : Int32).toInt = 101 by decide); have e3 := lv_neT c1_102 (show ((nI 102) : Int32).toInt = 102 by decide); have e4 := lv_neT c1_103 (show ((nI 103) : Int32).toInt = 103 by decide); have e5 := lv_neT c1_104 (show ((nI 104) : Int32).toInt = 104 by decide); have e6 := lv_neT c1_105 (show ((nI 105) : Int32).toInt = 105 by decide); have e7 := lv_neT c1_106 (show ((nI 106) : Int32).toInt = 106 by decide); have e8 := lv_neT c1_107 (show ((nI 107) : Int32).toInt = 107 by decide); have e9 := lv_neT c1_108 (show ((nI 108) : Int32).toInt = 108 by decide); have e10 := lv_neT c1_109 (show ((nI 109) : Int32).toInt = 109 by decide); have e11 := lv_neT c1_110 (show ((nI 110) : Int32).toInt = 110 by decide); have e12 := lv_neT c1_111 (show ((nI 111) : Int32).toInt = 111 by decide); have e13 := lv_neT c1_112 (show ((nI 112) : Int32).toInt = 112 by decide); have e14 := lv_neT c1_113 (show ((nI 113) : Int32).toInt = 113 by decide); have e15 := lv_neT c1_114 (show ((nI 114) : Int32).toInt = 114 by decide); have e16 := lv_neT c1_115 (show ((nI 115) : Int32).toInt = 115 by decide); have e17 := lv_neT c1_116 (show ((nI 116) : Int32).toInt = 116 by decide); omega) (by decide) ?_
  refine lv_aload_n hx hb dX1_named_128 rfl (lv_at hl 0 rfl) ?_
  refine xh_geti C hw 68 10 h sX_68 (x_lt hN rfl) rfl rfl rfl lk_RX1_74 dX1_named_129 (fun r129 h => ?_)
  exact hret dX1_named_132 rfl hw h
def f_X1_workedOut_122 (NC : Nat) (k18 : x_M → Int32 → Int32 → Int32 → Option (Int32 × x_M)) (M : x_M) (v1 : Int32) (v3 : Int32) (v4 : Int32) : Option (Int32 × x_M) := k18 M v1 v3 (v4 + (nI 1))
def f_X1_workedOut_94 (NC : Nat) (k18 : x_M → Int32 → Int32 → Int32 → Option (Int32 × x_M)) (M : x_M) (v1 : Int32) (v3 : Int32) (v4 : Int32) (t1 : Int32) : Option (Int32 × x_M) := x_bn (f_X1_push M t1) (fun _ M => f_X1_workedOut_122 NC k18 M v1 v3 v4)
def f_X1_workedOut_18 (NC : Nat) : Nat → x_M → Int32 → Int32 → Int32 → Option (Int32 × x_M)
  | 0, _, _, _, _ => none
  | n + 1, M, v1, v3, v4 => if v3 ≤ v4 then x_bn (f_X1_pop M) (fun r129 M => some (r129, M)) else x_tk NC v1 (x_tk NC v1 (x_rd (M (v1).toNatClampNeg 2147483648).toNatClampNeg (M (v1).toNatClampNeg) v4 (fun r30 => if r30 < 0 then x_bn (f_X11_within M (-r30) (nI 97) (nI 122)) (fun r54 M => if r54 = 0 then if r30 = (-33) then x_bn (f_X1_pop M) (fun r83 M => if r83 = 0 then f_X1_workedOut_94 NC (f_X1_workedOut_18 NC n) M v1 v3 v4 (nI 1) else f_X1_workedOut_94 NC (f_X1_workedOut_18 NC n) M v1 v3 v4 (nI 0)) else x_bn (f_X1_pop M) (fun r101 M => x_bn (f_X1_pop M) (fun r111 M => x_bn (f_X1_joined M (-r30) r111 r101) (fun r116 M => x_bn (f_X1_push M r116) (fun _ M => f_X1_workedOut_122 NC (f_X1_workedOut_18 NC n) M v1 v3 v4)))) else x_bn (f_X1_named M (-r30)) (fun r65 M => x_bn (f_X1_push M r65) (fun _ M => f_X1_workedOut_122 NC (f_X1_workedOut_18 NC n) M v1 v3 v4))) else x_bn (f_X1_push M r30) (fun _ M => f_X1_workedOut_122 NC (f_X1_workedOut_18 NC n) M v1 v3 v4))))
theorem f_X1_workedOut_18_0 (NC : Nat) (M : x_M) (v1 : Int32) (v3 : Int32) (v4 : Int32) : f_X1_workedOut_18 NC 0 M v1 v3 v4 = none := rfl
theorem f_X1_workedOut_18_s (NC : Nat) (n : Nat) (M : x_M) (v1 : Int32) (v3 : Int32) (v4 : Int32) : f_X1_workedOut_18 NC (n + 1) M v1 v3 v4 = (if v3 ≤ v4 then x_bn (f_X1_pop M) (fun r129 M => some (r129, M)) else x_tk NC v1 (x_tk NC v1 (x_rd (M (v1).toNatClampNeg 2147483648).toNatClampNeg (M (v1).toNatClampNeg) v4 (fun r30 => if r30 < 0 then x_bn (f_X11_within M (-r30) (nI 97) (nI 122)) (fun r54 M => if r54 = 0 then if r30 = (-33) then x_bn (f_X1_pop M) (fun r83 M => if r83 = 0 then f_X1_workedOut_94 NC (f_X1_workedOut_18 NC n) M v1 v3 v4 (nI 1) else f_X1_workedOut_94 NC (f_X1_workedOut_18 NC n) M v1 v3 v4 (nI 0)) else x_bn (f_X1_pop M) (fun r101 M => x_bn (f_X1_pop M) (fun r111 M => x_bn (f_X1_joined M (-r30) r111 r101) (fun r116 M => x_bn (f_X1_push M r116) (fun _ M => f_X1_workedOut_122 NC (f_X1_workedOut_18 NC n) M v1 v3 v4)))) else x_bn (f_X1_named M (-r30)) (fun r65 M => x_bn (f_X1_push M r65) (fun _ M => f_X1_workedOut_122 NC (f_X1_workedOut_18 NC n) M v1 v3 v4))) else x_bn (f_X1_push M r30) (fun _ M => f_X1_workedOut_122 NC (f_X1_workedOut_18 NC n) M v1 v3 v4))))) := rfl
def f_X1_workedOut (NC : Nat) (M : x_M) (a1 : Int32) (a2 : Int32) : Option (Int32 × x_M) := x_pf M 68 1 (nI 0) (fun M => x_tk NC a1 (x_bn (f_X8_end NC M a1 a2) (fun r7 M => x_tk NC a1 (x_bn (f_X8_begin NC M a1 a2) (fun r13 M => f_X1_workedOut_18 NC x_FU M a1 r7 r13)))))
abbrev rm_X1_workedOut : Room := { frames := 2, cells := 0, slots := 0, locals := 51 }
set_option maxHeartbeats 4000000 in
set_option maxRecDepth 100000 in
theorem c_X1_workedOut {l : Launch} {D : va_G} {cy : Nat → ClassId} {q ad : Nat → Nat} {NC : Nat} {s0 : State} (hq : x_Q q NC s0.heap.size) (hN : 88 ≤ NC) {M : x_M} {a1 : Int32} {a2 : Int32} {z : Int32 × x_M} (h : f_X1_workedOut NC M a1 a2 = some z) : x_Ci l D cy q ad x_spX NC s0 yX1_workedOut (x_uw yX1_workedOut cX1_workedOut 7 (some .int)) rm_X1_workedOut [.ref (q 68), .ref (q ((a1).toNatClampNeg - 1)), .int a2] M z.1 z.2 := by
  refine x_meti hq (by decide) (Nat.le_of_ble_eq_true rfl) ?_
  intro p e s m args below meth c ls Q C hret hl hw
  have hx := C.1.1
  have hb := C.1.2.1
  have ho := C.1.2.2.2.1
  have hL := C.1.2.2.2.2
  have hl : lv_has ls 7 [(0, .ref (q 68)), (1, .ref (q ((a1).toNatClampNeg - 1))), (2, .int a2)] := hl
  have w18 : ∀ (n : Nat) (M : x_M) (v1 : Int32) (v3 : Int32) (v4 : Int32) (H : Heap) (locs : List Loc) (ls : Array Slot), x_B D cy q ad x_spX NC s H locs M → lv_has ls 7 [(0, .ref (q 68)), (1, .ref (q ((v1).toNatClampNeg - 1))), (3, .int v3), (4, .int v4)] → f_X1_workedOut_18 NC n M v1 v3 v4 = some z → W p l e rm_X1_workedOut s m args below meth c H locs 0 0 Q (F0 m 18 ls []) := by
    intro n
    induction n with
    | zero =>
      intro M v1 v3 v4 H locs ls hw hl h
      rw [f_X1_workedOut_18_0] at h
      cases h
    | succ n18 ih18 =>
      have w122 : ∀ (M : x_M) (v1 : Int32) (v3 : Int32) (v4 : Int32) (H : Heap) (locs : List Loc) (ls : Array Slot), x_B D cy q ad x_spX NC s H locs M → lv_has ls 7 [(0, .ref (q 68)), (1, .ref (q ((v1).toNatClampNeg - 1))), (3, .int v3), (4, .int v4)] → f_X1_workedOut_122 NC (f_X1_workedOut_18 NC n18) M v1 v3 v4 = some z → W p l e rm_X1_workedOut s m args below meth c H locs 0 0 Q (F0 m 122 ls []) := by
        intro M v1 v3 v4 H locs ls hw hl h
        unfold f_X1_workedOut_122 at h
        refine lv_iinc (lv' := [(4, .int _), (0, .ref (q 68)), (1, .ref _), (3, .int _)]) hx hb dX1_workedOut_122 hl (k := 3) rfl (x_inc (show Int32.ofInt 1 = (nI 1) by decide) _) (by decide) rfl (fun ls hl => ?_)
        refine lv_goto (tgt := 18) hx hb dX1_workedOut_125 (by decide) ?_
        exact ih18 _ _ _ _ _ _ _ hw (lv_sub hl [1, 2, 3, 0] rfl) h
      have w94 : ∀ (M : x_M) (v1 : Int32) (v3 : Int32) (v4 : Int32) (t1 : Int32) (H : Heap) (locs : List Loc) (ls : Array Slot), x_B D cy q ad x_spX NC s H locs M → lv_has ls 7 [(0, .ref (q 68)), (1, .ref (q ((v1).toNatClampNeg - 1))), (3, .int v3), (4, .int v4)] → f_X1_workedOut_94 NC (f_X1_workedOut_18 NC n18) M v1 v3 v4 t1 = some z → W p l e rm_X1_workedOut s m args below meth c H locs 0 0 Q (F0 m 94 ls [.int t1, .ref (q 68)]) := by
        intro M v1 v3 v4 t1 H locs ls hw hl h
        unfold f_X1_workedOut_94 at h
        refine xh_cVv C hw (rest := []) h (fun _ hy => c_X1_push hq hN hy) ml_RX1_43 mv_X1_push sX_68 (x_lt hN rfl) rfl ⟨rfl, rfl, by decide, by decide⟩ rfl hl.1 rfl (Nat.le_of_ble_eq_true rfl) dX1_workedOut_94 (fun H locs _ M hw h => ?_)
        refine lv_goto (tgt := 122) hx hb dX1_workedOut_97 (by decide) ?_
        exact w122 _ _ _ _ _ _ _ hw (lv_sub hl [0, 1, 2, 3] rfl) h
      intro M v1 v3 v4 H locs ls hw hl h
      rw [f_X1_workedOut_18_s] at h
      refine lv_iload hx hb dX1_workedOut_18 (lv_at hl 3 rfl) ?_
      refine lv_iload_n hx hb dX1_workedOut_20 rfl (lv_at hl 2 rfl) ?_
      refine x_icmp_ge (tgt := 128) hx hb h dX1_workedOut_21 (by decide) (fun h => ?_) (fun h => ?_)
      · refine lv_aload_n hx hb dX1_workedOut_128 rfl (lv_at hl 0 rfl) ?_
        refine xh_cVi C hw (rest := []) h (fun _ hy => c_X1_pop hq hN hy) ml_RX1_54 mv_X1_pop sX_68 (x_lt hN rfl) rfl ⟨rfl, rfl, by decide, by decide⟩ rfl hl.1 rfl (Nat.le_of_ble_eq_true rfl) dX1_workedOut_129 (fun H locs r129 M hw h => ?_)
        exact hret dX1_workedOut_132 rfl hw h
      · refine lv_aload_n hx hb dX1_workedOut_24 rfl (lv_at hl 1 rfl) ?_
        refine xh_tcode C hw h lk_RX1_40 dX1_workedOut_25 (fun h => ?_)
        refine lv_iload hx hb dX1_workedOut_28 (lv_at hl 3 rfl) ?_
        refine xh_tcld C hw h dX1_workedOut_30 (fun r30 h => ?_)
        refine lv_istore (lv' := [(5, .int _), (0, .ref (q 68)), (1, .ref _), (3, .int _), (4, .int _)]) hx hb dX1_workedOut_31 hl (by decide) rfl (fun ls hl => ?_)
        refine lv_iload hx hb dX1_workedOut_33 (lv_at hl 0 rfl) ?_
        refine x_if_lt (tgt := 47) hx hb h dX1_workedOut_35 (by decide) (fun h => ?_) (fun h => ?_)
        · refine lv_iload hx hb dX1_workedOut_47 (lv_at hl 0 rfl) ?_
          refine lv_ineg hx hb dX1_workedOut_49 ?_
          refine lv_bipush (v := (nI 97)) hx hb dX1_workedOut_50 (by decide) ?_
          refine lv_bipush (v := (nI 122)) hx hb dX1_workedOut_52 (by decide) ?_
          refine xh_cNi C hw (n := 3) (rest := []) h (fun _ hy => c_X11_within hq hN hy) (host := "MilesHall") ⟨by decide +kernel, ii_RX11, cd_X11_within⟩ (by decide +kernel) st_X11_within ⟨rfl, rfl, by decide, by decide⟩ rfl hl.1 rfl (Nat.le_of_ble_eq_true rfl) dX1_workedOut_54 (fun H locs r54 M hw h => ?_)
          refine x_if_eq (tgt := 74) hx hb h dX1_workedOut_57 (by decide) (fun h => ?_) (fun h => ?_)
          · refine lv_iload hx hb dX1_workedOut_74 (lv_at hl 0 rfl) ?_
            refine lv_bipush (v := (-33)) hx hb dX1_workedOut_76 (by decide) ?_
            refine x_icmp_ne (tgt := 100) hx hb h dX1_workedOut_78 (by decide) (fun h => ?_) (fun h => ?_)
            · refine lv_aload_n hx hb dX1_workedOut_81 rfl (lv_at hl 1 rfl) ?_
              refine lv_aload_n hx hb dX1_workedOut_82 rfl (lv_at hl 1 rfl) ?_
              refine xh_cVi C hw (rest := [_]) h (fun _ hy => c_X1_pop hq hN hy) ml_RX1_54 mv_X1_pop sX_68 (x_lt hN rfl) rfl ⟨rfl, rfl, by decide, by decide⟩ rfl hl.1 rfl (Nat.le_of_ble_eq_true rfl) dX1_workedOut_83 (fun H locs r83 M hw h => ?_)
              refine x_if_ne (tgt := 93) hx hb h dX1_workedOut_86 (by decide) (fun h => ?_) (fun h => ?_)
              · refine lv_iconst (v := (nI 1)) hx hb dX1_workedOut_89 (by decide) ?_
                refine lv_goto (tgt := 94) hx hb dX1_workedOut_90 (by decide) ?_
                exact w94 _ _ _ _ _ _ _ _ hw (lv_sub hl [1, 2, 3, 4] rfl) h
              · refine lv_iconst (v := (nI 0)) hx hb dX1_workedOut_93 (by decide) ?_
                exact w94 _ _ _ _ _ _ _ _ hw (lv_sub hl [1, 2, 3, 4] rfl) h
            · refine lv_aload_n hx hb dX1_workedOut_100 rfl (lv_at hl 1 rfl) ?_
              refine xh_cVi C hw (rest := []) h (fun _ hy => c_X1_pop hq hN hy) ml_RX1_54 mv_X1_pop sX_68 (x_lt hN rfl) rfl ⟨rfl, rfl, by decide, by decide⟩ rfl hl.1 rfl (Nat.le_of_ble_eq_true rfl) dX1_workedOut_101 (fun H locs r101 M hw h => ?_)
              refine lv_istore (lv' := [(6, .int _), (5, .int _), (0, .ref (q 68)), (1, .ref _), (3, .int _), (4, .int _)]) hx hb dX1_workedOut_104 hl (by decide) rfl (fun ls hl => ?_)
              refine lv_aload_n hx hb dX1_workedOut_106 rfl (lv_at hl 2 rfl) ?_
              refine lv_iload hx hb dX1_workedOut_107 (lv_at hl 1 rfl) ?_
              refine lv_ineg hx hb dX1_workedOut_109 ?_
              refine lv_aload_n hx hb dX1_workedOut_110 rfl (lv_at hl 2 rfl) ?_
              refine xh_cVi C hw (rest := [_, _]) h (fun _ hy => c_X1_pop hq hN hy) ml_RX1_54 mv_X1_pop sX_68 (x_lt hN rfl) rfl ⟨rfl, rfl, by decide, by decide⟩ rfl hl.1 rfl (Nat.le_of_ble_eq_true rfl) dX1_workedOut_111 (fun H locs r111 M hw h => ?_)
              refine lv_iload hx hb dX1_workedOut_114 (lv_at hl 0 rfl) ?_
              refine xh_cSi C hw (rest := [_]) h (fun _ hy => c_X1_joined hq hN hy) ml_RX1_58 st_X1_joined ⟨rfl, rfl, by decide, by decide⟩ rfl hl.1 rfl (Nat.le_of_ble_eq_true rfl) dX1_workedOut_116 (fun H locs r116 M hw h => ?_)
              refine xh_cVv C hw (rest := []) h (fun _ hy => c_X1_push hq hN hy) ml_RX1_43 mv_X1_push sX_68 (x_lt hN rfl) rfl ⟨rfl, rfl, by decide, by decide⟩ rfl hl.1 rfl (Nat.le_of_ble_eq_true rfl) dX1_workedOut_119 (fun H locs _ M hw h => ?_)
              exact w122 _ _ _ _ _ _ _ hw (lv_sub hl [2, 3, 4, 5] rfl) h
          · refine lv_aload_n hx hb dX1_workedOut_60 rfl (lv_at hl 1 rfl) ?_
            refine lv_aload_n hx hb dX1_workedOut_61 rfl (lv_at hl 1 rfl) ?_
            refine lv_iload hx hb dX1_workedOut_62 (lv_at hl 0 rfl) ?_
            refine lv_ineg hx hb dX1_workedOut_64 ?_
            refine xh_cVi C hw (rest := [_]) h (fun _ hy => c_X1_named hq hN hy) ml_RX1_51 mv_X1_named sX_68 (x_lt hN rfl) rfl ⟨rfl, rfl, by decide, by decide⟩ rfl hl.1 rfl (Nat.le_of_ble_eq_true rfl) dX1_workedOut_65 (fun H locs r65 M hw h => ?_)
            refine xh_cVv C hw (rest := []) h (fun _ hy => c_X1_push hq hN hy) ml_RX1_43 mv_X1_push sX_68 (x_lt hN rfl) rfl ⟨rfl, rfl, by decide, by decide⟩ rfl hl.1 rfl (Nat.le_of_ble_eq_true rfl) dX1_workedOut_68 (fun H locs _ M hw h => ?_)
            refine lv_goto (tgt := 122) hx hb dX1_workedOut_71 (by decide) ?_
            exact w122 _ _ _ _ _ _ _ hw (lv_sub hl [1, 2, 3, 4] rfl) h
        · refine lv_aload_n hx hb dX1_workedOut_38 rfl (lv_at hl 1 rfl) ?_
          refine lv_iload hx hb dX1_workedOut_39 (lv_at hl 0 rfl) ?_
          refine xh_cVv C hw (rest := []) h (fun _ hy => c_X1_push hq hN hy) ml_RX1_43 mv_X1_push sX_68 (x_lt hN rfl) rfl ⟨rfl, rfl, by decide, by decide⟩ rfl hl.1 rfl (Nat.le_of_ble_eq_true rfl) dX1_workedOut_41 (fun H locs _ M hw h => ?_)
          refine lv_goto (tgt := 122) hx hb dX1_workedOut_44 (by decide) ?_
          exact w122 _ _ _ _ _ _ _ hw (lv_sub hl [1, 2, 3, 4] rfl) h
  unfold f_X1_workedOut at h
  refine lv_aload_n hx hb dX1_workedOut_0 rfl (lv_at hl 0 rfl) ?_
  refine lv_iconst (v := (nI 0)) hx hb dX1_workedOut_1 (by decide) ?_
  refine xh_puti C hw 68 1 h sX_68 (x_lt hN rfl) rfl rfl rfl lk_RX1_28 rfl rfl dX1_workedOut_2 (fun H locs M hw h => ?_)
  refine lv_aload_n hx hb dX1_workedOut_5 rfl (lv_at hl 1 rfl) ?_
  refine lv_iload_n hx hb dX1_workedOut_6 rfl (lv_at hl 2 rfl) ?_
  refine xh_cKi C hw (rest := []) h (fun _ hy => c_X8_end hq hN hy) ml_RX1_31 mv_X8_end rfl ⟨rfl, rfl, by decide, by decide⟩ rfl hl.1 rfl (Nat.le_of_ble_eq_true rfl) dX1_workedOut_7 (fun H locs r7 M hw h => ?_)
  refine lv_istore_n (lv' := [(3, .int _), (0, .ref (q 68)), (1, .ref _), (2, .int _)]) hx hb dX1_workedOut_10 rfl hl (by decide) rfl (fun ls hl => ?_)
  refine lv_aload_n hx hb dX1_workedOut_11 rfl (lv_at hl 2 rfl) ?_
  refine lv_iload_n hx hb dX1_workedOut_12 rfl (lv_at hl 3 rfl) ?_
  refine xh_cKi C hw (rest := []) h (fun _ hy => c_X8_begin hq hN hy) ml_RX1_37 mv_X8_begin rfl ⟨rfl, rfl, by decide, by decide⟩ rfl hl.1 rfl (Nat.le_of_ble_eq_true rfl) dX1_workedOut_13 (fun H locs r13 M hw h => ?_)
  refine lv_istore (lv' := [(4, .int _), (3, .int _), (0, .ref (q 68)), (1, .ref _), (2, .int _)]) hx hb dX1_workedOut_16 hl (by decide) rfl (fun ls hl => ?_)
  exact w18 _ _ _ _ _ _ _ _ hw (lv_sub hl [2, 3, 1, 0] rfl) h
def f_X11_held (M : x_M) (a1 : Int32) (a2 : Int32) (a3 : Int32) : Option (Int32 × x_M) := some ((if a2 < (if a1 < a3 then a1 else a3) then (if a1 < a3 then a1 else a3) else a2), M)
abbrev rm_X11_held : Room := { frames := 1, cells := 0, slots := 0, locals := 30 }
set_option maxHeartbeats 4000000 in
set_option maxRecDepth 100000 in
theorem c_X11_held {l : Launch} {D : va_G} {cy : Nat → ClassId} {q ad : Nat → Nat} {NC : Nat} {s0 : State} (hq : x_Q q NC s0.heap.size) (hN : 88 ≤ NC) {M : x_M} {a1 : Int32} {a2 : Int32} {a3 : Int32} {z : Int32 × x_M} (h : f_X11_held M a1 a2 a3 = some z) : x_Ci l D cy q ad x_spX NC s0 yX11_held (x_uw yX11_held cX11_held 3 (some .int)) rm_X11_held [.int a1, .int a2, .int a3] M z.1 z.2 := by
  refine x_meti hq (by decide) (Nat.le_of_ble_eq_true rfl) ?_
  intro p e s m args below meth c ls Q C hret hl hw
  have hx := C.1.1
  have hb := C.1.2.1
  have ho := C.1.2.2.2.1
  have hL := C.1.2.2.2.2
  have hl : lv_has ls 3 [(0, .int a1), (1, .int a2), (2, .int a3)] := hl
  unfold f_X11_held at h
  refine lv_iload_n hx hb dX11_held_0 rfl (lv_at hl 1 rfl) ?_
  refine lv_iload_n hx hb dX11_held_1 rfl (lv_at hl 2 rfl) ?_
  refine lv_iload_n hx hb dX11_held_2 rfl (lv_at hl 0 rfl) ?_
  refine xh_min C (rest := [_]) mw_RX11_92 hl.1 ⟨by decide, Nat.le_of_ble_eq_true rfl⟩ dX11_held_3 ?_
  refine xh_max C (rest := []) mw_RX11_344 hl.1 ⟨by decide, Nat.le_of_ble_eq_true rfl⟩ dX11_held_6 ?_
  exact hret dX11_held_9 rfl hw h
def f_X2_tierBy (NC : Nat) (M : x_M) (a1 : Int32) (a2 : Int32) : Option (Int32 × x_M) := x_pf M 68 10 a2 (fun M => x_bn (f_X1_workedOut NC M a1 (nI 3)) (fun r14 M => x_bn (f_X11_held M r14 (nI 0) (nI 3)) (fun r19 M => some (r19, M))))
abbrev rm_X2_tierBy : Room := { frames := 3, cells := 0, slots := 0, locals := 77 }
set_option maxHeartbeats 4000000 in
set_option maxRecDepth 100000 in
theorem c_X2_tierBy {l : Launch} {D : va_G} {cy : Nat → ClassId} {q ad : Nat → Nat} {NC : Nat} {s0 : State} (hq : x_Q q NC s0.heap.size) (hN : 88 ≤ NC) {M : x_M} {a1 : Int32} {a2 : Int32} {z : Int32 × x_M} (h : f_X2_tierBy NC M a1 a2 = some z) : x_Ci l D cy q ad x_spX NC s0 yX2_tierBy (x_uw yX2_tierBy cX2_tierBy 3 (some .int)) rm_X2_tierBy [.ref (q 67), .ref (q ((a1).toNatClampNeg - 1)), .int a2] M z.1 z.2 := by
  refine x_meti hq (by decide) (Nat.le_of_ble_eq_true rfl) ?_
  intro p e s m args below meth c ls Q C hret hl hw
  have hx := C.1.1
  have hb := C.1.2.1
  have ho := C.1.2.2.2.1
  have hL := C.1.2.2.2.2
  have hl : lv_has ls 3 [(0, .ref (q 67)), (1, .ref (q ((a1).toNatClampNeg - 1))), (2, .int a2)] := hl
  unfold f_X2_tierBy at h
  refine lv_aload_n hx hb dX2_tierBy_0 rfl (lv_at hl 0 rfl) ?_
  refine xh_getr C hw 67 0 sX_67 (x_lt hN rfl) rfl rfl rfl lk_RX2_12 dX2_tierBy_1 ?_
  refine lv_iload_n hx hb dX2_tierBy_4 rfl (lv_at hl 2 rfl) ?_
  refine xh_puti C hw 68 10 h sX_68 (x_lt hN rfl) rfl rfl rfl lk_RX2_189 rfl rfl dX2_tierBy_5 (fun H locs M hw h => ?_)
  refine lv_aload_n hx hb dX2_tierBy_8 rfl (lv_at hl 0 rfl) ?_
  refine xh_getr C hw 67 0 sX_67 (x_lt hN rfl) rfl rfl rfl lk_RX2_12 dX2_tierBy_9 ?_
  refine lv_aload_n hx hb dX2_tierBy_12 rfl (lv_at hl 1 rfl) ?_
  refine lv_iconst (v := (nI 3)) hx hb dX2_tierBy_13 (by decide) ?_
  refine xh_cVi C hw (rest := []) h (fun _ hy => c_X1_workedOut hq hN hy) ml_RX2_135 mv_X1_workedOut sX_68 (x_lt hN rfl) rfl ⟨rfl, rfl, by decide, by decide⟩ rfl hl.1 rfl (Nat.le_of_ble_eq_true rfl) dX2_tierBy_14 (fun H locs r14 M hw h => ?_)
  refine lv_iconst (v := (nI 0)) hx hb dX2_tierBy_17 (by decide) ?_
  refine lv_iconst (v := (nI 3)) hx hb dX2_tierBy_18 (by decide) ?_
  refine xh_cNi C hw (n := 3) (rest := []) h (fun _ hy => c_X11_held hq hN hy) (host := "MilesHall") ⟨by decide +kernel, ii_RX11, cd_X11_held⟩ (by decide +kernel) st_X11_held ⟨rfl, rfl, by decide, by decide⟩ rfl hl.1 rfl (Nat.le_of_ble_eq_true rfl) dX2_tierBy_19 (fun H locs r19 M hw h => ?_)
  exact hret dX2_tierBy_22 rfl hw h
def f_X2_tierOf_67_1_35 (NC : Nat) (M : x_M) (v2 : Int32) (v4 : Int32) (v5 : Int32) (t0 : Int32) : Option (Int32 × x_M) := x_bn (f_X2_pointsOf M v2 v5) (fun r44 M => x_bn (f_X2_tierBy NC M v4 r44) (fun r47 M => x_bn (f_X2_pointsOf M v2 (v5 - (nI 1))) (fun r61 M => x_bn (f_X2_tierBy NC M v4 r61) (fun r64 M => some ((if t0 < (if r47 < r64 then r64 else r47) then (if r47 < r64 then r64 else r47) else t0), M)))))
def f_X2_tierOf_67_1 (NC : Nat) (M : x_M) (a2 : Int32) (a3 : Int32) : Option (Int32 × x_M) := x_bn (f_X9_inForce NC M a3) (fun r5 M => x_dv (nI 360) (x_rd 10 (M 3) a2 (fun r25 => if r25 = (nI 3) then f_X2_tierOf_67_1_35 NC M a2 r5 (a3 / (nI 360)) (nI 1) else f_X2_tierOf_67_1_35 NC M a2 r5 (a3 / (nI 360)) (nI 0))))
abbrev rm_X2_tierOf_67_1 : Room := { frames := 4, cells := 0, slots := 0, locals := 99 }
set_option maxHeartbeats 4000000 in
set_option maxRecDepth 100000 in
theorem c_X2_tierOf_67_1 {l : Launch} {D : va_G} {cy : Nat → ClassId} {q ad : Nat → Nat} {NC : Nat} {s0 : State} (hq : x_Q q NC s0.heap.size) (hN : 88 ≤ NC) {M : x_M} {a2 : Int32} {a3 : Int32} {z : Int32 × x_M} (h : f_X2_tierOf_67_1 NC M a2 a3 = some z) : x_Ci l D cy q ad x_spX NC s0 yX2_tierOf (x_uw yX2_tierOf cX2_tierOf 9 (some .int)) rm_X2_tierOf_67_1 [.ref (q 67), .ref (q 1), .int a2, .int a3] M z.1 z.2 := by
  refine x_meti hq (by decide) (Nat.le_of_ble_eq_true rfl) ?_
  intro p e s m args below meth c ls Q C hret hl hw
  have hx := C.1.1
  have hb := C.1.2.1
  have ho := C.1.2.2.2.1
  have hL := C.1.2.2.2.2
  have hl : lv_has ls 9 [(0, .ref (q 67)), (1, .ref (q 1)), (2, .int a2), (3, .int a3)] := hl
  have w35 : ∀ (M : x_M) (v2 : Int32) (v4 : Int32) (v5 : Int32) (t0 : Int32) (H : Heap) (locs : List Loc) (ls : Array Slot), x_B D cy q ad x_spX NC s H locs M → lv_has ls 9 [(0, .ref (q 67)), (2, .int v2), (4, .ref (q ((v4).toNatClampNeg - 1))), (5, .int v5)] → f_X2_tierOf_67_1_35 NC M v2 v4 v5 t0 = some z → W p l e rm_X2_tierOf_67_1 s m args below meth c H locs 0 0 Q (F0 m 35 ls [.int t0]) := by
    intro M v2 v4 v5 t0 H locs ls hw hl h
    unfold f_X2_tierOf_67_1_35 at h
    refine lv_istore (lv' := [(6, .int _), (0, .ref (q 67)), (2, .int _), (4, .ref _), (5, .int _)]) hx hb dX2_tierOf_35 hl (by decide) rfl (fun ls hl => ?_)
    refine lv_aload_n hx hb dX2_tierOf_37 rfl (lv_at hl 1 rfl) ?_
    refine lv_aload hx hb dX2_tierOf_38 (lv_at hl 3 rfl) ?_
    refine lv_aload_n hx hb dX2_tierOf_40 rfl (lv_at hl 1 rfl) ?_
    refine lv_iload_n hx hb dX2_tierOf_41 rfl (lv_at hl 2 rfl) ?_
    refine lv_iload hx hb dX2_tierOf_42 (lv_at hl 4 rfl) ?_
    refine xh_cVi C hw (rest := [_, _]) h (fun _ hy => c_X2_pointsOf hq hN hy) ml_RX2_180 mv_X2_pointsOf sX_67 (x_lt hN rfl) rfl ⟨rfl, rfl, by decide, by decide⟩ rfl hl.1 rfl (Nat.le_of_ble_eq_true rfl) dX2_tierOf_44 (fun H locs r44 M hw h => ?_)
    refine xh_cVi C hw (rest := []) h (fun _ hy => c_X2_tierBy hq hN hy) ml_RX2_183 mv_X2_tierBy sX_67 (x_lt hN rfl) rfl ⟨rfl, rfl, by decide, by decide⟩ rfl hl.1 rfl (Nat.le_of_ble_eq_true rfl) dX2_tierOf_47 (fun H locs r47 M hw h => ?_)
    refine lv_istore (lv' := [(7, .int _), (6, .int _), (0, .ref (q 67)), (2, .int _), (4, .ref _), (5, .int _)]) hx hb dX2_tierOf_50 hl (by decide) rfl (fun ls hl => ?_)
    refine lv_aload_n hx hb dX2_tierOf_52 rfl (lv_at hl 2 rfl) ?_
    refine lv_aload hx hb dX2_tierOf_53 (lv_at hl 4 rfl) ?_
    refine lv_aload_n hx hb dX2_tierOf_55 rfl (lv_at hl 2 rfl) ?_
    refine lv_iload_n hx hb dX2_tierOf_56 rfl (lv_at hl 3 rfl) ?_
    refine lv_iload hx hb dX2_tierOf_57 (lv_at hl 5 rfl) ?_
    refine lv_iconst (v := (nI 1)) hx hb dX2_tierOf_59 (by decide) ?_
    refine lv_isub hx hb dX2_tierOf_60 ?_
    refine xh_cVi C hw (rest := [_, _]) h (fun _ hy => c_X2_pointsOf hq hN hy) ml_RX2_180 mv_X2_pointsOf sX_67 (x_lt hN rfl) rfl ⟨rfl, rfl, by decide, by decide⟩ rfl hl.1 rfl (Nat.le_of_ble_eq_true rfl) dX2_tierOf_61 (fun H locs r61 M hw h => ?_)
    refine xh_cVi C hw (rest := []) h (fun _ hy => c_X2_tierBy hq hN hy) ml_RX2_183 mv_X2_tierBy sX_67 (x_lt hN rfl) rfl ⟨rfl, rfl, by decide, by decide⟩ rfl hl.1 rfl (Nat.le_of_ble_eq_true rfl) dX2_tierOf_64 (fun H locs r64 M hw h => ?_)
    refine lv_istore (lv' := [(8, .int _), (7, .int _), (6, .int _), (0, .ref (q 67)), (2, .int _), (4, .ref _), (5, .int _)]) hx hb dX2_tierOf_67 hl (by decide) rfl (fun ls hl => ?_)
    refine lv_iload hx hb dX2_tierOf_69 (lv_at hl 2 rfl) ?_
    refine lv_iload hx hb dX2_tierOf_71 (lv_at hl 1 rfl) ?_
    refine lv_iload hx hb dX2_tierOf_73 (lv_at hl 0 rfl) ?_
    refine xh_max C (rest := [_]) mw_RX2_186 hl.1 ⟨by decide, Nat.le_of_ble_eq_true rfl⟩ dX2_tierOf_75 ?_
    refine xh_max C (rest := []) mw_RX2_186 hl.1 ⟨by decide, Nat.le_of_ble_eq_true rfl⟩ dX2_tierOf_78 ?_
    exact hret dX2_tierOf_81 rfl hw h
  unfold f_X2_tierOf_67_1 at h
  refine lv_aload_n hx hb dX2_tierOf_0 rfl (lv_at hl 1 rfl) ?_
  refine xh_getr C hw 1 2 sX_1 (x_lt hN rfl) rfl rfl rfl lk_RX2_100 dX2_tierOf_1 ?_
  refine lv_iload_n hx hb dX2_tierOf_4 rfl (lv_at hl 3 rfl) ?_
  refine xh_cVr C hw (rest := []) h (fun _ hy => c_X9_inForce hq hN hy) ml_RX2_104 mv_X9_inForce sX_16 (x_lt hN rfl) rfl ⟨rfl, rfl, by decide, by decide⟩ rfl hl.1 rfl (Nat.le_of_ble_eq_true rfl) dX2_tierOf_5 (fun H locs r5 M hw h => ?_)
  refine lv_astore (lv' := [(4, .ref _), (0, .ref (q 67)), (1, .ref (q 1)), (2, .int _), (3, .int _)]) hx hb dX2_tierOf_8 hl (by decide) rfl (fun ls hl => ?_)
  refine lv_iload_n hx hb dX2_tierOf_10 rfl (lv_at hl 4 rfl) ?_
  refine lv_sipush (v := (nI 360)) hx hb dX2_tierOf_11 (by decide) ?_
  refine xh_idiv hx hb h dX2_tierOf_14 (fun h => ?_)
  refine lv_istore (lv' := [(5, .int _), (4, .ref _), (0, .ref (q 67)), (1, .ref (q 1)), (2, .int _), (3, .int _)]) hx hb dX2_tierOf_15 hl (by decide) rfl (fun ls hl => ?_)
  refine lv_aload_n hx hb dX2_tierOf_17 rfl (lv_at hl 3 rfl) ?_
  refine xh_getr C hw 1 0 sX_1 (x_lt hN rfl) rfl rfl rfl lk_RX2_117 dX2_tierOf_18 ?_
  refine xh_getr C hw 2 0 sX_2 (x_lt hN rfl) rfl rfl rfl lk_RX2_121 dX2_tierOf_21 ?_
  refine lv_iload_n hx hb dX2_tierOf_24 rfl (lv_at hl 4 rfl) ?_
  refine xh_iald C hw 3 10 h sX_3 (x_lt hN rfl) dX2_tierOf_25 (fun r25 h => ?_)
  refine lv_iconst (v := (nI 3)) hx hb dX2_tierOf_26 (by decide) ?_
  refine x_icmp_ne (tgt := 34) hx hb h dX2_tierOf_27 (by decide) (fun h => ?_) (fun h => ?_)
  · refine lv_iconst (v := (nI 1)) hx hb dX2_tierOf_30 (by decide) ?_
    refine lv_goto (tgt := 35) hx hb dX2_tierOf_31 (by decide) ?_
    exact w35 _ _ _ _ _ _ _ _ hw (lv_sub hl [2, 4, 1, 0] rfl) h
  · refine lv_iconst (v := (nI 0)) hx hb dX2_tierOf_34 (by decide) ?_
    exact w35 _ _ _ _ _ _ _ _ hw (lv_sub hl [2, 4, 1, 0] rfl) h
def f_X1_forTrip (M : x_M) (a1 : Int32) (a2 : Int32) : Option (Unit × x_M) := x_pf M 68 2 a1 (fun M => x_pf M 68 3 a2 (fun M => some ((), M)))
abbrev rm_X1_forTrip : Room := { frames := 0, cells := 0, slots := 0, locals := 0 }
set_option maxHeartbeats 4000000 in
set_option maxRecDepth 100000 in
theorem c_X1_forTrip {l : Launch} {D : va_G} {cy : Nat → ClassId} {q ad : Nat → Nat} {NC : Nat} {s0 : State} (hq : x_Q q NC s0.heap.size) (hN : 88 ≤ NC) {M : x_M} {a1 : Int32} {a2 : Int32} {z : Unit × x_M} (h : f_X1_forTrip M a1 a2 = some z) : x_Cv l D cy q ad x_spX NC s0 yX1_forTrip (x_uw yX1_forTrip cX1_forTrip 3 none) rm_X1_forTrip [.ref (q 68), .int a1, .int a2] M z.2 := by
  refine x_metv hq (by decide) (Nat.le_of_ble_eq_true rfl) ?_
  intro p e s m args below meth c ls Q C hret hl hw
  have hx := C.1.1
  have hb := C.1.2.1
  have ho := C.1.2.2.2.1
  have hL := C.1.2.2.2.2
  have hl : lv_has ls 3 [(0, .ref (q 68)), (1, .int a1), (2, .int a2)] := hl
  unfold f_X1_forTrip at h
  refine lv_aload_n hx hb dX1_forTrip_0 rfl (lv_at hl 0 rfl) ?_
  refine lv_iload_n hx hb dX1_forTrip_1 rfl (lv_at hl 1 rfl) ?_
  refine xh_puti C hw 68 2 h sX_68 (x_lt hN rfl) rfl rfl rfl lk_RX1_15 rfl rfl dX1_forTrip_2 (fun H locs M hw h => ?_)
  refine lv_aload_n hx hb dX1_forTrip_5 rfl (lv_at hl 0 rfl) ?_
  refine lv_iload_n hx hb dX1_forTrip_6 rfl (lv_at hl 2 rfl) ?_
  refine xh_puti C hw 68 3 h sX_68 (x_lt hN rfl) rfl rfl rfl lk_RX1_19 rfl rfl dX1_forTrip_7 (fun H locs M hw h => ?_)
  exact hret dX1_forTrip_10 hw h
def f_X1_forMember (M : x_M) (a1 : Int32) (a2 : Int32) : Option (Unit × x_M) := x_pf M 68 8 a1 (fun M => x_pf M 68 9 a2 (fun M => some ((), M)))
abbrev rm_X1_forMember : Room := { frames := 0, cells := 0, slots := 0, locals := 0 }
set_option maxHeartbeats 4000000 in
set_option maxRecDepth 100000 in
theorem c_X1_forMember {l : Launch} {D : va_G} {cy : Nat → ClassId} {q ad : Nat → Nat} {NC : Nat} {s0 : State} (hq : x_Q q NC s0.heap.size) (hN : 88 ≤ NC) {M : x_M} {a1 : Int32} {a2 : Int32} {z : Unit × x_M} (h : f_X1_forMember M a1 a2 = some z) : x_Cv l D cy q ad x_spX NC s0 yX1_forMember (x_uw yX1_forMember cX1_forMember 3 none) rm_X1_forMember [.ref (q 68), .int a1, .int a2] M z.2 := by
  refine x_metv hq (by decide) (Nat.le_of_ble_eq_true rfl) ?_
  intro p e s m args below meth c ls Q C hret hl hw
  have hx := C.1.1
  have hb := C.1.2.1
  have ho := C.1.2.2.2.1
  have hL := C.1.2.2.2.2
  have hl : lv_has ls 3 [(0, .ref (q 68)), (1, .int a1), (2, .int a2)] := hl
  unfold f_X1_forMember at h
  refine lv_aload_n hx hb dX1_forMember_0 rfl (lv_at hl 0 rfl) ?_
  refine lv_iload_n hx hb dX1_forMember_1 rfl (lv_at hl 1 rfl) ?_
  refine xh_puti C hw 68 8 h sX_68 (x_lt hN rfl) rfl rfl rfl lk_RX1_22 rfl rfl dX1_forMember_2 (fun H locs M hw h => ?_)
  refine lv_aload_n hx hb dX1_forMember_5 rfl (lv_at hl 0 rfl) ?_
  refine lv_iload_n hx hb dX1_forMember_6 rfl (lv_at hl 2 rfl) ?_
  refine xh_puti C hw 68 9 h sX_68 (x_lt hN rfl) rfl rfl rfl lk_RX1_25 rfl rfl dX1_forMember_7 (fun H locs M hw h => ?_)
  exact hret dX1_forMember_10 hw h
def f_X2_isAhead_30 (M : x_M) : Option (Int32 × x_M) := some ((nI 1), M)
def f_X2_isAhead_34 (M : x_M) : Option (Int32 × x_M) := some ((nI 0), M)
def f_X2_isAhead (M : x_M) (a1 : Int32) (a2 : Int32) (a3 : Int32) : Option (Int32 × x_M) := x_rd 100 (M 72) a3 (fun r6 => if a2 < r6 then f_X2_isAhead_30 M else x_rd 100 (M 72) a3 (fun r16 => if a2 = r16 then x_rd 100 (M 70) a3 (fun r26 => if r26 ≤ a1 then f_X2_isAhead_34 M else f_X2_isAhead_30 M) else f_X2_isAhead_34 M))
abbrev rm_X2_isAhead : Room := { frames := 0, cells := 0, slots := 0, locals := 0 }
set_option maxHeartbeats 4000000 in
set_option maxRecDepth 100000 in
theorem c_X2_isAhead {l : Launch} {D : va_G} {cy : Nat → ClassId} {q ad : Nat → Nat} {NC : Nat} {s0 : State} (hq : x_Q q NC s0.heap.size) (hN : 88 ≤ NC) {M : x_M} {a1 : Int32} {a2 : Int32} {a3 : Int32} {z : Int32 × x_M} (h : f_X2_isAhead M a1 a2 a3 = some z) : x_Ci l D cy q ad x_spX NC s0 yX2_isAhead (x_uw yX2_isAhead cX2_isAhead 4 (some .boolean)) rm_X2_isAhead [.ref (q 67), .int a1, .int a2, .int a3] M z.1 z.2 := by
  refine x_meti hq (by decide) (Nat.le_of_ble_eq_true rfl) ?_
  intro p e s m args below meth c ls Q C hret hl hw
  have hx := C.1.1
  have hb := C.1.2.1
  have ho := C.1.2.2.2.1
  have hL := C.1.2.2.2.2
  have hl : lv_has ls 4 [(0, .ref (q 67)), (1, .int a1), (2, .int a2), (3, .int a3)] := hl
  have w30 : ∀ (M : x_M) (H : Heap) (locs : List Loc) (ls : Array Slot), x_B D cy q ad x_spX NC s H locs M → lv_has ls 4 [] → f_X2_isAhead_30 M = some z → W p l e rm_X2_isAhead s m args below meth c H locs 0 0 Q (F0 m 30 ls []) := by
    intro M H locs ls hw hl h
    unfold f_X2_isAhead_30 at h
    refine lv_iconst (v := (nI 1)) hx hb dX2_isAhead_30 (by decide) ?_
    refine lv_goto (tgt := 35) hx hb dX2_isAhead_31 (by decide) ?_
    exact hret dX2_isAhead_35 rfl hw h
  have w34 : ∀ (M : x_M) (H : Heap) (locs : List Loc) (ls : Array Slot), x_B D cy q ad x_spX NC s H locs M → lv_has ls 4 [] → f_X2_isAhead_34 M = some z → W p l e rm_X2_isAhead s m args below meth c H locs 0 0 Q (F0 m 34 ls []) := by
    intro M H locs ls hw hl h
    unfold f_X2_isAhead_34 at h
    refine lv_iconst (v := (nI 0)) hx hb dX2_isAhead_34 (by decide) ?_
    exact hret dX2_isAhead_35 rfl hw h
  unfold f_X2_isAhead at h
  refine lv_iload_n hx hb dX2_isAhead_0 rfl (lv_at hl 2 rfl) ?_
  refine lv_aload_n hx hb dX2_isAhead_1 rfl (lv_at hl 0 rfl) ?_
  refine xh_getr C hw 67 3 sX_67 (x_lt hN rfl) rfl rfl rfl lk_RX2_25 dX2_isAhead_2 ?_
  refine lv_iload_n hx hb dX2_isAhead_5 rfl (lv_at hl 3 rfl) ?_
  refine xh_iald C hw 72 100 h sX_72 (x_lt hN rfl) dX2_isAhead_6 (fun r6 h => ?_)
  refine x_icmp_lt (tgt := 30) hx hb h dX2_isAhead_7 (by decide) (fun h => ?_) (fun h => ?_)
  · exact w30 _ _ _ _ hw (lv_sub hl [] rfl) h
  · refine lv_iload_n hx hb dX2_isAhead_10 rfl (lv_at hl 2 rfl) ?_
    refine lv_aload_n hx hb dX2_isAhead_11 rfl (lv_at hl 0 rfl) ?_
    refine xh_getr C hw 67 3 sX_67 (x_lt hN rfl) rfl rfl rfl lk_RX2_25 dX2_isAhead_12 ?_
    refine lv_iload_n hx hb dX2_isAhead_15 rfl (lv_at hl 3 rfl) ?_
    refine xh_iald C hw 72 100 h sX_72 (x_lt hN rfl) dX2_isAhead_16 (fun r16 h => ?_)
    refine x_icmp_ne (tgt := 34) hx hb h dX2_isAhead_17 (by decide) (fun h => ?_) (fun h => ?_)
    · refine lv_iload_n hx hb dX2_isAhead_20 rfl (lv_at hl 1 rfl) ?_
      refine lv_aload_n hx hb dX2_isAhead_21 rfl (lv_at hl 0 rfl) ?_
      refine xh_getr C hw 67 1 sX_67 (x_lt hN rfl) rfl rfl rfl lk_RX2_18 dX2_isAhead_22 ?_
      refine lv_iload_n hx hb dX2_isAhead_25 rfl (lv_at hl 3 rfl) ?_
      refine xh_iald C hw 70 100 h sX_70 (x_lt hN rfl) dX2_isAhead_26 (fun r26 h => ?_)
      refine x_icmp_ge (tgt := 34) hx hb h dX2_isAhead_27 (by decide) (fun h => ?_) (fun h => ?_)
      · exact w34 _ _ _ _ hw (lv_sub hl [] rfl) h
      · exact w30 _ _ _ _ hw (lv_sub hl [] rfl) h
    · exact w34 _ _ _ _ hw (lv_sub hl [] rfl) h
def f_X2_come_88 (M : x_M) (v1 : Int32) (v2 : Int32) (v3 : Int32) (v4 : Int32) : Option (Unit × x_M) := x_wr 100 M 70 v4 v1 (fun M => x_wr 100 M 71 v4 v2 (fun M => x_wr 100 M 72 v4 v3 (fun M => x_gf M 67 9 (fun r114 => x_pf M 67 9 (r114 + (nI 1)) (fun M => some ((), M))))))
def f_X2_come_16 : Nat → x_M → Int32 → Int32 → Int32 → Int32 → Option (Unit × x_M)
  | 0, _, _, _, _, _ => none
  | n + 1, M, v1, v2, v3, v4 => if v4 ≤ 0 then f_X2_come_88 M v1 v2 v3 v4 else x_bn (f_X2_isAhead M v1 v3 (v4 - (nI 1))) (fun r28 M => if r28 = 0 then f_X2_come_88 M v1 v2 v3 v4 else x_rd 100 (M 70) (v4 - (nI 1)) (fun r48 => x_wr 100 M 70 v4 r48 (fun M => x_rd 100 (M 71) (v4 - (nI 1)) (fun r64 => x_wr 100 M 71 v4 r64 (fun M => x_rd 100 (M 72) (v4 - (nI 1)) (fun r80 => x_wr 100 M 72 v4 r80 (fun M => (f_X2_come_16 n) M v1 v2 v3 (v4 + (-1)))))))))
theorem f_X2_come_16_0 (M : x_M) (v1 : Int32) (v2 : Int32) (v3 : Int32) (v4 : Int32) : f_X2_come_16 0 M v1 v2 v3 v4 = none := rfl
theorem f_X2_come_16_s (n : Nat) (M : x_M) (v1 : Int32) (v2 : Int32) (v3 : Int32) (v4 : Int32) : f_X2_come_16 (n + 1) M v1 v2 v3 v4 = (if v4 ≤ 0 then f_X2_come_88 M v1 v2 v3 v4 else x_bn (f_X2_isAhead M v1 v3 (v4 - (nI 1))) (fun r28 M => if r28 = 0 then f_X2_come_88 M v1 v2 v3 v4 else x_rd 100 (M 70) (v4 - (nI 1)) (fun r48 => x_wr 100 M 70 v4 r48 (fun M => x_rd 100 (M 71) (v4 - (nI 1)) (fun r64 => x_wr 100 M 71 v4 r64 (fun M => x_rd 100 (M 72) (v4 - (nI 1)) (fun r80 => x_wr 100 M 72 v4 r80 (fun M => (f_X2_come_16 n) M v1 v2 v3 (v4 + (-1)))))))))) := rfl
def f_X2_come (M : x_M) (a1 : Int32) (a2 : Int32) (a3 : Int32) : Option (Unit × x_M) := x_gf M 67 9 (fun r1 => if r1 < (nI 100) then x_gf M 67 9 (fun r11 => f_X2_come_16 x_FU M a1 a2 a3 r11) else some ((), M))
abbrev rm_X2_come : Room := { frames := 1, cells := 0, slots := 0, locals := 23 }
set_option maxHeartbeats 4000000 in
set_option maxRecDepth 100000 in
theorem c_X2_come {l : Launch} {D : va_G} {cy : Nat → ClassId} {q ad : Nat → Nat} {NC : Nat} {s0 : State} (hq : x_Q q NC s0.heap.size) (hN : 88 ≤ NC) {M : x_M} {a1 : Int32} {a2 : Int32} {a3 : Int32} {z : Unit × x_M} (h : f_X2_come M a1 a2 a3 = some z) : x_Cv l D cy q ad x_spX NC s0 yX2_come (x_uw yX2_come cX2_come 5 none) rm_X2_come [.ref (q 67), .int a1, .int a2, .int a3] M z.2 := by
  refine x_metv hq (by decide) (Nat.le_of_ble_eq_true rfl) ?_
  intro p e s m args below meth c ls Q C hret hl hw
  have hx := C.1.1
  have hb := C.1.2.1
  have ho := C.1.2.2.2.1
  have hL := C.1.2.2.2.2
  have hl : lv_has ls 5 [(0, .ref (q 67)), (1, .int a1), (2, .int a2), (3, .int a3)] := hl
  have w16 : ∀ (n : Nat) (M : x_M) (v1 : Int32) (v2 : Int32) (v3 : Int32) (v4 : Int32) (H : Heap) (locs : List Loc) (ls : Array Slot), x_B D cy q ad x_spX NC s H locs M → lv_has ls 5 [(0, .ref (q 67)), (1, .int v1), (2, .int v2), (3, .int v3), (4, .int v4)] → f_X2_come_16 n M v1 v2 v3 v4 = some z → W p l e rm_X2_come s m args below meth c H locs 0 0 Q (F0 m 16 ls []) := by
    intro n
    induction n with
    | zero =>
      intro M v1 v2 v3 v4 H locs ls hw hl h
      rw [f_X2_come_16_0] at h
      cases h
    | succ n16 ih16 =>
      have w88 : ∀ (M : x_M) (v1 : Int32) (v2 : Int32) (v3 : Int32) (v4 : Int32) (H : Heap) (locs : List Loc) (ls : Array Slot), x_B D cy q ad x_spX NC s H locs M → lv_has ls 5 [(0, .ref (q 67)), (1, .int v1), (2, .int v2), (3, .int v3), (4, .int v4)] → f_X2_come_88 M v1 v2 v3 v4 = some z → W p l e rm_X2_come s m args below meth c H locs 0 0 Q (F0 m 88 ls []) := by
        intro M v1 v2 v3 v4 H locs ls hw hl h
        unfold f_X2_come_88 at h
        refine lv_aload_n hx hb dX2_come_88 rfl (lv_at hl 0 rfl) ?_
        refine xh_getr C hw 67 1 sX_67 (x_lt hN rfl) rfl rfl rfl lk_RX2_18 dX2_come_89 ?_
        refine lv_iload hx hb dX2_come_92 (lv_at hl 4 rfl) ?_
        refine lv_iload_n hx hb dX2_come_94 rfl (lv_at hl 1 rfl) ?_
        refine xh_iast C hw 70 100 h sX_70 (x_lt hN rfl) dX2_come_95 (fun H locs M hw h => ?_)
        refine lv_aload_n hx hb dX2_come_96 rfl (lv_at hl 0 rfl) ?_
        refine xh_getr C hw 67 2 sX_67 (x_lt hN rfl) rfl rfl rfl lk_RX2_22 dX2_come_97 ?_
        refine lv_iload hx hb dX2_come_100 (lv_at hl 4 rfl) ?_
        refine lv_iload_n hx hb dX2_come_102 rfl (lv_at hl 2 rfl) ?_
        refine xh_iast C hw 71 100 h sX_71 (x_lt hN rfl) dX2_come_103 (fun H locs M hw h => ?_)
        refine lv_aload_n hx hb dX2_come_104 rfl (lv_at hl 0 rfl) ?_
        refine xh_getr C hw 67 3 sX_67 (x_lt hN rfl) rfl rfl rfl lk_RX2_25 dX2_come_105 ?_
        refine lv_iload hx hb dX2_come_108 (lv_at hl 4 rfl) ?_
        refine lv_iload_n hx hb dX2_come_110 rfl (lv_at hl 3 rfl) ?_
        refine xh_iast C hw 72 100 h sX_72 (x_lt hN rfl) dX2_come_111 (fun H locs M hw h => ?_)
        refine lv_aload_n hx hb dX2_come_112 rfl (lv_at hl 0 rfl) ?_
        refine lv_dup hx hb dX2_come_113 rfl ?_
        refine xh_geti C hw 67 9 h sX_67 (x_lt hN rfl) rfl rfl rfl lk_RX2_43 dX2_come_114 (fun r114 h => ?_)
        refine lv_iconst (v := (nI 1)) hx hb dX2_come_117 (by decide) ?_
        refine lv_iadd hx hb dX2_come_118 ?_
        refine xh_puti C hw 67 9 h sX_67 (x_lt hN rfl) rfl rfl rfl lk_RX2_43 rfl rfl dX2_come_119 (fun H locs M hw h => ?_)
        exact hret dX2_come_122 hw h
      intro M v1 v2 v3 v4 H locs ls hw hl h
      rw [f_X2_come_16_s] at h
      refine lv_iload hx hb dX2_come_16 (lv_at hl 4 rfl) ?_
      refine x_if_le (tgt := 88) hx hb h dX2_come_18 (by decide) (fun h => ?_) (fun h => ?_)
      · exact w88 _ _ _ _ _ _ _ _ hw (lv_sub hl [0, 1, 2, 3, 4] rfl) h
      · refine lv_aload_n hx hb dX2_come_21 rfl (lv_at hl 0 rfl) ?_
        refine lv_iload_n hx hb dX2_come_22 rfl (lv_at hl 1 rfl) ?_
        refine lv_iload_n hx hb dX2_come_23 rfl (lv_at hl 3 rfl) ?_
        refine lv_iload hx hb dX2_come_24 (lv_at hl 4 rfl) ?_
        refine lv_iconst (v := (nI 1)) hx hb dX2_come_26 (by decide) ?_
        refine lv_isub hx hb dX2_come_27 ?_
        refine xh_cVi C hw (rest := []) h (fun _ hy => c_X2_isAhead hq hN hy) ml_RX2_159 mv_X2_isAhead sX_67 (x_lt hN rfl) rfl ⟨rfl, rfl, by decide, by decide⟩ rfl hl.1 rfl (Nat.le_of_ble_eq_true rfl) dX2_come_28 (fun H locs r28 M hw h => ?_)
        refine x_if_eq (tgt := 88) hx hb h dX2_come_31 (by decide) (fun h => ?_) (fun h => ?_)
        · exact w88 _ _ _ _ _ _ _ _ hw (lv_sub hl [0, 1, 2, 3, 4] rfl) h
        · refine lv_aload_n hx hb dX2_come_34 rfl (lv_at hl 0 rfl) ?_
          refine xh_getr C hw 67 1 sX_67 (x_lt hN rfl) rfl rfl rfl lk_RX2_18 dX2_come_35 ?_
          refine lv_iload hx hb dX2_come_38 (lv_at hl 4 rfl) ?_
          refine lv_aload_n hx hb dX2_come_40 rfl (lv_at hl 0 rfl) ?_
          refine xh_getr C hw 67 1 sX_67 (x_lt hN rfl) rfl rfl rfl lk_RX2_18 dX2_come_41 ?_
          refine lv_iload hx hb dX2_come_44 (lv_at hl 4 rfl) ?_
          refine lv_iconst (v := (nI 1)) hx hb dX2_come_46 (by decide) ?_
          refine lv_isub hx hb dX2_come_47 ?_
          refine xh_iald C hw 70 100 h sX_70 (x_lt hN rfl) dX2_come_48 (fun r48 h => ?_)
          refine xh_iast C hw 70 100 h sX_70 (x_lt hN rfl) dX2_come_49 (fun H locs M hw h => ?_)
          refine lv_aload_n hx hb dX2_come_50 rfl (lv_at hl 0 rfl) ?_
          refine xh_getr C hw 67 2 sX_67 (x_lt hN rfl) rfl rfl rfl lk_RX2_22 dX2_come_51 ?_
          refine lv_iload hx hb dX2_come_54 (lv_at hl 4 rfl) ?_
          refine lv_aload_n hx hb dX2_come_56 rfl (lv_at hl 0 rfl) ?_
          refine xh_getr C hw 67 2 sX_67 (x_lt hN rfl) rfl rfl rfl lk_RX2_22 dX2_come_57 ?_
          refine lv_iload hx hb dX2_come_60 (lv_at hl 4 rfl) ?_
          refine lv_iconst (v := (nI 1)) hx hb dX2_come_62 (by decide) ?_
          refine lv_isub hx hb dX2_come_63 ?_
          refine xh_iald C hw 71 100 h sX_71 (x_lt hN rfl) dX2_come_64 (fun r64 h => ?_)
          refine xh_iast C hw 71 100 h sX_71 (x_lt hN rfl) dX2_come_65 (fun H locs M hw h => ?_)
          refine lv_aload_n hx hb dX2_come_66 rfl (lv_at hl 0 rfl) ?_
          refine xh_getr C hw 67 3 sX_67 (x_lt hN rfl) rfl rfl rfl lk_RX2_25 dX2_come_67 ?_
          refine lv_iload hx hb dX2_come_70 (lv_at hl 4 rfl) ?_
          refine lv_aload_n hx hb dX2_come_72 rfl (lv_at hl 0 rfl) ?_
          refine xh_getr C hw 67 3 sX_67 (x_lt hN rfl) rfl rfl rfl lk_RX2_25 dX2_come_73 ?_
          refine lv_iload hx hb dX2_come_76 (lv_at hl 4 rfl) ?_
          refine lv_iconst (v := (nI 1)) hx hb dX2_come_78 (by decide) ?_
          refine lv_isub hx hb dX2_come_79 ?_
          refine xh_iald C hw 72 100 h sX_72 (x_lt hN rfl) dX2_come_80 (fun r80 h => ?_)
          refine xh_iast C hw 72 100 h sX_72 (x_lt hN rfl) dX2_come_81 (fun H locs M hw h => ?_)
          refine lv_iinc (lv' := [(4, .int _), (0, .ref (q 67)), (1, .int _), (2, .int _), (3, .int _)]) hx hb dX2_come_82 hl (k := 4) rfl (x_inc (show Int32.ofInt (-1) = (-1) by decide) _) (by decide) rfl (fun ls hl => ?_)
          refine lv_goto (tgt := 16) hx hb dX2_come_85 (by decide) ?_
          exact ih16 _ _ _ _ _ _ _ _ hw (lv_sub hl [1, 2, 3, 4, 0] rfl) h
  unfold f_X2_come at h
  refine lv_aload_n hx hb dX2_come_0 rfl (lv_at hl 0 rfl) ?_
  refine xh_geti C hw 67 9 h sX_67 (x_lt hN rfl) rfl rfl rfl lk_RX2_43 dX2_come_1 (fun r1 h => ?_)
  refine lv_bipush (v := (nI 100)) hx hb dX2_come_4 (by decide) ?_
  refine x_icmp_lt (tgt := 10) hx hb h dX2_come_6 (by decide) (fun h => ?_) (fun h => ?_)
  · refine lv_aload_n hx hb dX2_come_10 rfl (lv_at hl 0 rfl) ?_
    refine xh_geti C hw 67 9 h sX_67 (x_lt hN rfl) rfl rfl rfl lk_RX2_43 dX2_come_11 (fun r11 h => ?_)
    refine lv_istore (lv' := [(4, .int _), (0, .ref (q 67)), (1, .int _), (2, .int _), (3, .int _)]) hx hb dX2_come_14 hl (by decide) rfl (fun ls hl => ?_)
    exact w16 _ _ _ _ _ _ _ _ _ hw (lv_sub hl [1, 2, 3, 4, 0] rfl) h
  · exact hret dX2_come_9 hw h
def f_X2_bringFly_67_1_169 (NC : Nat) (M : x_M) (v4 : Int32) (v5 : Int32) (v6 : Int32) (v9 : Int32) (v10 : Int32) : Option (Int32 × x_M) := x_bn (f_X2_come M v4 v9 (v5 + v10)) (fun _ M => x_dv (nI 360) (x_rd 40 (M 73) ((v4 * (nI 4)) + (v5 / (nI 360))) (fun r198 => x_wr 40 M 73 ((v4 * (nI 4)) + (v5 / (nI 360))) (r198 + v9) (fun M => x_dv (nI 10) (x_rd 4 (M 74) (v6 - v6 / (nI 10) * (nI 10)) (fun r213 => x_wr 4 M 74 (v6 - v6 / (nI 10) * (nI 10)) (r213 + v9) (fun M => some (v9, M))))))))
def f_X2_bringFly_67_1 (NC : Nat) (M : x_M) (a2 : Int32) : Option (Int32 × x_M) := x_rd 100 (M 8) a2 (fun r10 => x_rd 100 (M 9) a2 (fun r18 => x_rd 100 (M 13) a2 (fun r26 => x_bn (f_X2_tierOf_67_1 NC M r10 r18) (fun r35 M => x_bn (f_X9_inForce NC M r18) (fun r46 M => x_rd 100 (M 12) a2 (fun r60 => x_dv (nI 10) (x_bn (f_X1_forTrip M r60 (r26 / (nI 10))) (fun _ M => x_rd 10 (M 3) r10 (fun r84 => x_bn (f_X1_forMember M r35 r84) (fun _ M => x_dv (nI 10) (x_pf M 68 4 (r26 - r26 / (nI 10) * (nI 10)) (fun M => x_rd 100 (M 14) a2 (fun r109 => x_pf M 68 5 r109 (fun M => x_bn (f_X1_workedOut NC M r46 (nI 0)) (fun r120 M => x_bn (f_X11_held M r120 (nI 0) (nI 99999)) (fun r126 M => x_rd 10 (M 3) r10 (fun r145 => if r145 = (nI 1) then f_X2_bringFly_67_1_169 NC M r10 r18 r26 r126 (nI 9999) else x_bn (f_X1_workedOut NC M r46 (nI 1)) (fun r157 M => x_bn (f_X11_held M r157 (nI 1) (nI 9999)) (fun r164 M => f_X2_bringFly_67_1_169 NC M r10 r18 r26 r126 r164)))))))))))))))))))
abbrev rm_X2_bringFly_67_1 : Room := { frames := 5, cells := 0, slots := 0, locals := 127 }
set_option maxHeartbeats 4000000 in
set_option maxRecDepth 100000 in
theorem c_X2_bringFly_67_1 {l : Launch} {D : va_G} {cy : Nat → ClassId} {q ad : Nat → Nat} {NC : Nat} {s0 : State} (hq : x_Q q NC s0.heap.size) (hN : 88 ≤ NC) {M : x_M} {a2 : Int32} {z : Int32 × x_M} (h : f_X2_bringFly_67_1 NC M a2 = some z) : x_Ci l D cy q ad x_spX NC s0 yX2_bringFly (x_uw yX2_bringFly cX2_bringFly 11 (some .int)) rm_X2_bringFly_67_1 [.ref (q 67), .ref (q 1), .int a2] M z.1 z.2 := by
  refine x_meti hq (by decide) (Nat.le_of_ble_eq_true rfl) ?_
  intro p e s m args below meth c ls Q C hret hl hw
  have hx := C.1.1
  have hb := C.1.2.1
  have ho := C.1.2.2.2.1
  have hL := C.1.2.2.2.2
  have hl : lv_has ls 11 [(0, .ref (q 67)), (1, .ref (q 1)), (2, .int a2)] := hl
  have w169 : ∀ (M : x_M) (v4 : Int32) (v5 : Int32) (v6 : Int32) (v9 : Int32) (v10 : Int32) (H : Heap) (locs : List Loc) (ls : Array Slot), x_B D cy q ad x_spX NC s H locs M → lv_has ls 11 [(0, .ref (q 67)), (4, .int v4), (5, .int v5), (6, .int v6), (9, .int v9), (10, .int v10)] → f_X2_bringFly_67_1_169 NC M v4 v5 v6 v9 v10 = some z → W p l e rm_X2_bringFly_67_1 s m args below meth c H locs 0 0 Q (F0 m 169 ls []) := by
    intro M v4 v5 v6 v9 v10 H locs ls hw hl h
    unfold f_X2_bringFly_67_1_169 at h
    refine lv_aload_n hx hb dX2_bringFly_169 rfl (lv_at hl 0 rfl) ?_
    refine lv_iload hx hb dX2_bringFly_170 (lv_at hl 1 rfl) ?_
    refine lv_iload hx hb dX2_bringFly_172 (lv_at hl 4 rfl) ?_
    refine lv_iload hx hb dX2_bringFly_174 (lv_at hl 2 rfl) ?_
    refine lv_iload hx hb dX2_bringFly_176 (lv_at hl 5 rfl) ?_
    refine lv_iadd hx hb dX2_bringFly_178 ?_
    refine xh_cVv C hw (rest := []) h (fun _ hy => c_X2_come hq hN hy) ml_RX2_144 mv_X2_come sX_67 (x_lt hN rfl) rfl ⟨rfl, rfl, by decide, by decide⟩ rfl hl.1 rfl (Nat.le_of_ble_eq_true rfl) dX2_bringFly_179 (fun H locs _ M hw h => ?_)
    refine lv_aload_n hx hb dX2_bringFly_182 rfl (lv_at hl 0 rfl) ?_
    refine xh_getr C hw 67 4 sX_67 (x_lt hN rfl) rfl rfl rfl lk_RX2_28 dX2_bringFly_183 ?_
    refine lv_iload hx hb dX2_bringFly_186 (lv_at hl 1 rfl) ?_
    refine lv_iconst (v := (nI 4)) hx hb dX2_bringFly_188 (by decide) ?_
    refine lv_imul hx hb dX2_bringFly_189 ?_
    refine lv_iload hx hb dX2_bringFly_190 (lv_at hl 2 rfl) ?_
    refine lv_sipush (v := (nI 360)) hx hb dX2_bringFly_192 (by decide) ?_
    refine xh_idiv hx hb h dX2_bringFly_195 (fun h => ?_)
    refine lv_iadd hx hb dX2_bringFly_196 ?_
    refine lv_dup2_11 hx hb dX2_bringFly_197 rfl rfl ?_
    refine xh_iald C hw 73 40 h sX_73 (x_lt hN rfl) dX2_bringFly_198 (fun r198 h => ?_)
    refine lv_iload hx hb dX2_bringFly_199 (lv_at hl 4 rfl) ?_
    refine lv_iadd hx hb dX2_bringFly_201 ?_
    refine xh_iast C hw 73 40 h sX_73 (x_lt hN rfl) dX2_bringFly_202 (fun H locs M hw h => ?_)
    refine lv_aload_n hx hb dX2_bringFly_203 rfl (lv_at hl 0 rfl) ?_
    refine xh_getr C hw 67 5 sX_67 (x_lt hN rfl) rfl rfl rfl lk_RX2_31 dX2_bringFly_204 ?_
    refine lv_iload hx hb dX2_bringFly_207 (lv_at hl 3 rfl) ?_
    refine lv_bipush (v := (nI 10)) hx hb dX2_bringFly_209 (by decide) ?_
    refine xh_irem hx hb h dX2_bringFly_211 (fun h => ?_)
    refine lv_dup2_11 hx hb dX2_bringFly_212 rfl rfl ?_
    refine xh_iald C hw 74 4 h sX_74 (x_lt hN rfl) dX2_bringFly_213 (fun r213 h => ?_)
    refine lv_iload hx hb dX2_bringFly_214 (lv_at hl 4 rfl) ?_
    refine lv_iadd hx hb dX2_bringFly_216 ?_
    refine xh_iast C hw 74 4 h sX_74 (x_lt hN rfl) dX2_bringFly_217 (fun H locs M hw h => ?_)
    refine lv_iload hx hb dX2_bringFly_218 (lv_at hl 4 rfl) ?_
    exact hret dX2_bringFly_220 rfl hw h
  unfold f_X2_bringFly_67_1 at h
  refine lv_aload_n hx hb dX2_bringFly_0 rfl (lv_at hl 1 rfl) ?_
  refine xh_getr C hw 1 1 sX_1 (x_lt hN rfl) rfl rfl rfl lk_RX2_53 dX2_bringFly_1 ?_
  refine lv_astore_n (lv' := [(3, .ref (q 6)), (0, .ref (q 67)), (1, .ref (q 1)), (2, .int _)]) hx hb dX2_bringFly_4 rfl hl (by decide) rfl (fun ls hl => ?_)
  refine lv_aload_n hx hb dX2_bringFly_5 rfl (lv_at hl 0 rfl) ?_
  refine xh_getr C hw 6 1 sX_6 (x_lt hN rfl) rfl rfl rfl lk_RX2_90 dX2_bringFly_6 ?_
  refine lv_iload_n hx hb dX2_bringFly_9 rfl (lv_at hl 3 rfl) ?_
  refine xh_iald C hw 8 100 h sX_8 (x_lt hN rfl) dX2_bringFly_10 (fun r10 h => ?_)
  refine lv_istore (lv' := [(4, .int _), (3, .ref (q 6)), (0, .ref (q 67)), (1, .ref (q 1)), (2, .int _)]) hx hb dX2_bringFly_11 hl (by decide) rfl (fun ls hl => ?_)
  refine lv_aload_n hx hb dX2_bringFly_13 rfl (lv_at hl 1 rfl) ?_
  refine xh_getr C hw 6 2 sX_6 (x_lt hN rfl) rfl rfl rfl lk_RX2_67 dX2_bringFly_14 ?_
  refine lv_iload_n hx hb dX2_bringFly_17 rfl (lv_at hl 4 rfl) ?_
  refine xh_iald C hw 9 100 h sX_9 (x_lt hN rfl) dX2_bringFly_18 (fun r18 h => ?_)
  refine lv_istore (lv' := [(5, .int _), (4, .int _), (3, .ref (q 6)), (0, .ref (q 67)), (1, .ref (q 1)), (2, .int _)]) hx hb dX2_bringFly_19 hl (by decide) rfl (fun ls hl => ?_)
  refine lv_aload_n hx hb dX2_bringFly_21 rfl (lv_at hl 2 rfl) ?_
  refine xh_getr C hw 6 6 sX_6 (x_lt hN rfl) rfl rfl rfl lk_RX2_93 dX2_bringFly_22 ?_
  refine lv_iload_n hx hb dX2_bringFly_25 rfl (lv_at hl 5 rfl) ?_
  refine xh_iald C hw 13 100 h sX_13 (x_lt hN rfl) dX2_bringFly_26 (fun r26 h => ?_)
  refine lv_istore (lv' := [(6, .int _), (5, .int _), (4, .int _), (3, .ref (q 6)), (0, .ref (q 67)), (1, .ref (q 1)), (2, .int _)]) hx hb dX2_bringFly_27 hl (by decide) rfl (fun ls hl => ?_)
  refine lv_aload_n hx hb dX2_bringFly_29 rfl (lv_at hl 4 rfl) ?_
  refine lv_aload_n hx hb dX2_bringFly_30 rfl (lv_at hl 5 rfl) ?_
  refine lv_iload hx hb dX2_bringFly_31 (lv_at hl 2 rfl) ?_
  refine lv_iload hx hb dX2_bringFly_33 (lv_at hl 1 rfl) ?_
  refine xh_cVi C hw (rest := []) h (fun _ hy => c_X2_tierOf_67_1 hq hN hy) ml_RX2_96 mv_X2_tierOf sX_67 (x_lt hN rfl) rfl ⟨rfl, rfl, by decide, by decide⟩ rfl hl.1 rfl (Nat.le_of_ble_eq_true rfl) dX2_bringFly_35 (fun H locs r35 M hw h => ?_)
  refine lv_istore (lv' := [(7, .int _), (6, .int _), (5, .int _), (4, .int _), (3, .ref (q 6)), (0, .ref (q 67)), (1, .ref (q 1)), (2, .int _)]) hx hb dX2_bringFly_38 hl (by decide) rfl (fun ls hl => ?_)
  refine lv_aload_n hx hb dX2_bringFly_40 rfl (lv_at hl 6 rfl) ?_
  refine xh_getr C hw 1 2 sX_1 (x_lt hN rfl) rfl rfl rfl lk_RX2_100 dX2_bringFly_41 ?_
  refine lv_iload hx hb dX2_bringFly_44 (lv_at hl 2 rfl) ?_
  refine xh_cVr C hw (rest := []) h (fun _ hy => c_X9_inForce hq hN hy) ml_RX2_104 mv_X9_inForce sX_16 (x_lt hN rfl) rfl ⟨rfl, rfl, by decide, by decide⟩ rfl hl.1 rfl (Nat.le_of_ble_eq_true rfl) dX2_bringFly_46 (fun H locs r46 M hw h => ?_)
  refine lv_astore (lv' := [(8, .ref _), (7, .int _), (6, .int _), (5, .int _), (4, .int _), (3, .ref (q 6)), (0, .ref (q 67)), (1, .ref (q 1)), (2, .int _)]) hx hb dX2_bringFly_49 hl (by decide) rfl (fun ls hl => ?_)
  refine lv_aload_n hx hb dX2_bringFly_51 rfl (lv_at hl 6 rfl) ?_
  refine xh_getr C hw 67 0 sX_67 (x_lt hN rfl) rfl rfl rfl lk_RX2_12 dX2_bringFly_52 ?_
  refine lv_aload_n hx hb dX2_bringFly_55 rfl (lv_at hl 5 rfl) ?_
  refine xh_getr C hw 6 5 sX_6 (x_lt hN rfl) rfl rfl rfl lk_RX2_110 dX2_bringFly_56 ?_
  refine lv_iload_n hx hb dX2_bringFly_59 rfl (lv_at hl 8 rfl) ?_
  refine xh_iald C hw 12 100 h sX_12 (x_lt hN rfl) dX2_bringFly_60 (fun r60 h => ?_)
  refine lv_iload hx hb dX2_bringFly_61 (lv_at hl 2 rfl) ?_
  refine lv_bipush (v := (nI 10)) hx hb dX2_bringFly_63 (by decide) ?_
  refine xh_idiv hx hb h dX2_bringFly_65 (fun h => ?_)
  refine xh_cVv C hw (rest := []) h (fun _ hy => c_X1_forTrip hq hN hy) ml_RX2_113 mv_X1_forTrip sX_68 (x_lt hN rfl) rfl ⟨rfl, rfl, by decide, by decide⟩ rfl hl.1 rfl (Nat.le_of_ble_eq_true rfl) dX2_bringFly_66 (fun H locs _ M hw h => ?_)
  refine lv_aload_n hx hb dX2_bringFly_69 rfl (lv_at hl 6 rfl) ?_
  refine xh_getr C hw 67 0 sX_67 (x_lt hN rfl) rfl rfl rfl lk_RX2_12 dX2_bringFly_70 ?_
  refine lv_iload hx hb dX2_bringFly_73 (lv_at hl 1 rfl) ?_
  refine lv_aload_n hx hb dX2_bringFly_75 rfl (lv_at hl 7 rfl) ?_
  refine xh_getr C hw 1 0 sX_1 (x_lt hN rfl) rfl rfl rfl lk_RX2_117 dX2_bringFly_76 ?_
  refine xh_getr C hw 2 0 sX_2 (x_lt hN rfl) rfl rfl rfl lk_RX2_121 dX2_bringFly_79 ?_
  refine lv_iload hx hb dX2_bringFly_82 (lv_at hl 4 rfl) ?_
  refine xh_iald C hw 3 10 h sX_3 (x_lt hN rfl) dX2_bringFly_84 (fun r84 h => ?_)
  refine xh_cVv C hw (rest := []) h (fun _ hy => c_X1_forMember hq hN hy) ml_RX2_124 mv_X1_forMember sX_68 (x_lt hN rfl) rfl ⟨rfl, rfl, by decide, by decide⟩ rfl hl.1 rfl (Nat.le_of_ble_eq_true rfl) dX2_bringFly_85 (fun H locs _ M hw h => ?_)
  refine lv_aload_n hx hb dX2_bringFly_88 rfl (lv_at hl 6 rfl) ?_
  refine xh_getr C hw 67 0 sX_67 (x_lt hN rfl) rfl rfl rfl lk_RX2_12 dX2_bringFly_89 ?_
  refine lv_iload hx hb dX2_bringFly_92 (lv_at hl 2 rfl) ?_
  refine lv_bipush (v := (nI 10)) hx hb dX2_bringFly_94 (by decide) ?_
  refine xh_irem hx hb h dX2_bringFly_96 (fun h => ?_)
  refine xh_puti C hw 68 4 h sX_68 (x_lt hN rfl) rfl rfl rfl lk_RX2_127 rfl rfl dX2_bringFly_97 (fun H locs M hw h => ?_)
  refine lv_aload_n hx hb dX2_bringFly_100 rfl (lv_at hl 6 rfl) ?_
  refine xh_getr C hw 67 0 sX_67 (x_lt hN rfl) rfl rfl rfl lk_RX2_12 dX2_bringFly_101 ?_
  refine lv_aload_n hx hb dX2_bringFly_104 rfl (lv_at hl 5 rfl) ?_
  refine xh_getr C hw 6 7 sX_6 (x_lt hN rfl) rfl rfl rfl lk_RX2_130 dX2_bringFly_105 ?_
  refine lv_iload_n hx hb dX2_bringFly_108 rfl (lv_at hl 8 rfl) ?_
  refine xh_iald C hw 14 100 h sX_14 (x_lt hN rfl) dX2_bringFly_109 (fun r109 h => ?_)
  refine xh_puti C hw 68 5 h sX_68 (x_lt hN rfl) rfl rfl rfl lk_RX2_133 rfl rfl dX2_bringFly_110 (fun H locs M hw h => ?_)
  refine lv_aload_n hx hb dX2_bringFly_113 rfl (lv_at hl 6 rfl) ?_
  refine xh_getr C hw 67 0 sX_67 (x_lt hN rfl) rfl rfl rfl lk_RX2_12 dX2_bringFly_114 ?_
  refine lv_aload hx hb dX2_bringFly_117 (lv_at hl 0 rfl) ?_
  refine lv_iconst (v := (nI 0)) hx hb dX2_bringFly_119 (by decide) ?_
  refine xh_cVi C hw (rest := []) h (fun _ hy => c_X1_workedOut hq hN hy) ml_RX2_135 mv_X1_workedOut sX_68 (x_lt hN rfl) rfl ⟨rfl, rfl, by decide, by decide⟩ rfl hl.1 rfl (Nat.le_of_ble_eq_true rfl) dX2_bringFly_120 (fun H locs r120 M hw h => ?_)
  refine lv_iconst (v := (nI 0)) hx hb dX2_bringFly_123 (by decide) ?_
  refine lv_ldc hx hb ho (hL _ kc_RX2_139) dX2_bringFly_124 ?_
  refine xh_cNi C hw (n := 3) (rest := []) h (fun _ hy => c_X11_held hq hN hy) (host := "MilesHall") ⟨by decide +kernel, ii_RX11, cd_X11_held⟩ (by decide +kernel) st_X11_held ⟨rfl, rfl, by decide, by decide⟩ rfl hl.1 rfl (Nat.le_of_ble_eq_true rfl) dX2_bringFly_126 (fun H locs r126 M hw h => ?_)
  refine lv_istore (lv' := [(9, .int _), (8, .ref _), (7, .int _), (6, .int _), (5, .int _), (4, .int _), (3, .ref (q 6)), (0, .ref (q 67)), (1, .ref (q 1)), (2, .int _)]) hx hb dX2_bringFly_129 hl (by decide) rfl (fun ls hl => ?_)
  refine lv_sipush (v := (nI 9999)) hx hb dX2_bringFly_131 (by decide) ?_
  refine lv_istore (lv' := [(10, .int _), (9, .int _), (8, .ref _), (7, .int _), (6, .int _), (5, .int _), (4, .int _), (3, .ref (q 6)), (0, .ref (q 67)), (1, .ref (q 1)), (2, .int _)]) hx hb dX2_bringFly_134 hl (by decide) rfl (fun ls hl => ?_)
  refine lv_aload_n hx hb dX2_bringFly_136 rfl (lv_at hl 9 rfl) ?_
  refine xh_getr C hw 1 0 sX_1 (x_lt hN rfl) rfl rfl rfl lk_RX2_117 dX2_bringFly_137 ?_
  refine xh_getr C hw 2 0 sX_2 (x_lt hN rfl) rfl rfl rfl lk_RX2_121 dX2_bringFly_140 ?_
  refine lv_iload hx hb dX2_bringFly_143 (lv_at hl 6 rfl) ?_
  refine xh_iald C hw 3 10 h sX_3 (x_lt hN rfl) dX2_bringFly_145 (fun r145 h => ?_)
  refine lv_iconst (v := (nI 1)) hx hb dX2_bringFly_146 (by decide) ?_
  refine x_icmp_eq (tgt := 169) hx hb h dX2_bringFly_147 (by decide) (fun h => ?_) (fun h => ?_)
  · exact w169 _ _ _ _ _ _ _ _ _ hw (lv_sub hl [8, 6, 5, 4, 1, 0] rfl) h
  · refine lv_aload_n hx hb dX2_bringFly_150 rfl (lv_at hl 8 rfl) ?_
    refine xh_getr C hw 67 0 sX_67 (x_lt hN rfl) rfl rfl rfl lk_RX2_12 dX2_bringFly_151 ?_
    refine lv_aload hx hb dX2_bringFly_154 (lv_at hl 2 rfl) ?_
    refine lv_iconst (v := (nI 1)) hx hb dX2_bringFly_156 (by decide) ?_
    refine xh_cVi C hw (rest := []) h (fun _ hy => c_X1_workedOut hq hN hy) ml_RX2_135 mv_X1_workedOut sX_68 (x_lt hN rfl) rfl ⟨rfl, rfl, by decide, by decide⟩ rfl hl.1 rfl (Nat.le_of_ble_eq_true rfl) dX2_bringFly_157 (fun H locs r157 M hw h => ?_)
    refine lv_iconst (v := (nI 1)) hx hb dX2_bringFly_160 (by decide) ?_
    refine lv_sipush (v := (nI 9999)) hx hb dX2_bringFly_161 (by decide) ?_
    refine xh_cNi C hw (n := 3) (rest := []) h (fun _ hy => c_X11_held hq hN hy) (host := "MilesHall") ⟨by decide +kernel, ii_RX11, cd_X11_held⟩ (by decide +kernel) st_X11_held ⟨rfl, rfl, by decide, by decide⟩ rfl hl.1 rfl (Nat.le_of_ble_eq_true rfl) dX2_bringFly_164 (fun H locs r164 M hw h => ?_)
    refine lv_istore (lv' := [(10, .int _), (9, .int _), (8, .ref _), (7, .int _), (6, .int _), (5, .int _), (4, .int _), (3, .ref (q 6)), (0, .ref (q 67)), (1, .ref (q 1)), (2, .int _)]) hx hb dX2_bringFly_167 hl (by decide) rfl (fun ls hl => ?_)
    exact w169 _ _ _ _ _ _ _ _ _ hw (lv_sub hl [8, 6, 5, 4, 1, 0] rfl) h
