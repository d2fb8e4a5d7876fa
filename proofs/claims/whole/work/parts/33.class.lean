def f_X11_flight_30 (M : x_M) : Option (Int32 × x_M) := some ((-1000000001), M)
def f_X11_flight_51 (M : x_M) : Option (Int32 × x_M) := some ((-1000000001), M)
def f_X11_flight (M : x_M) (a1 : Int32) (a2 : Int32) (a3 : Int32) (a4 : Int32) : Option (Int32 × x_M) := x_gf M 1 8 (fun r5 => x_bn (f_X11_within M a1 (r5 + (nI 1)) (nI 1200)) (fun r13 M => if r13 = 0 then f_X11_flight_30 M else x_bn (f_X11_within M a2 (nI 1) (nI 9999)) (fun r24 M => if r24 = 0 then f_X11_flight_30 M else x_bn (f_X11_isPartner M a3) (fun r34 M => if r34 = 0 then f_X11_flight_51 M else x_bn (f_X11_within M a4 (nI 0) (nI 9)) (fun r45 M => if r45 = 0 then f_X11_flight_51 M else x_bn (f_X6_newFlight M a1 a2 a3 a4) (fun r66 M => some (r66, M)))))))
abbrev rm_X11_flight : Room := { frames := 2, cells := 0, slots := 0, locals := 42 }
set_option maxHeartbeats 4000000 in
set_option maxRecDepth 100000 in
theorem c_X11_flight {l : Launch} {D : va_G} {cy : Nat → ClassId} {q ad : Nat → Nat} {NC : Nat} {s0 : State} (hq : x_Q q NC s0.heap.size) (hN : 88 ≤ NC) {M : x_M} {a1 : Int32} {a2 : Int32} {a3 : Int32} {a4 : Int32} {z : Int32 × x_M} (h : f_X11_flight M a1 a2 a3 a4 = some z) : x_Ci l D cy q ad x_spX NC s0 yX11_flight (x_uw yX11_flight cX11_flight 5 (some .int)) rm_X11_flight [.ref (q 0), .int a1, .int a2, .int a3, .int a4] M z.1 z.2 := by
  refine x_meti hq (by decide) (Nat.le_of_ble_eq_true rfl) ?_
  intro p e s m args below meth c ls Q C hret hl hw
  have hx := C.1.1
  have hb := C.1.2.1
  have ho := C.1.2.2.2.1
  have hL := C.1.2.2.2.2
  have hl : lv_has ls 5 [(0, .ref (q 0)), (1, .int a1), (2, .int a2), (3, .int a3), (4, .int a4)] := hl
  have w30 : ∀ (M : x_M) (H : Heap) (locs : List Loc) (ls : Array Slot), x_B D cy q ad x_spX NC s H locs M → lv_has ls 5 [] → f_X11_flight_30 M = some z → W p l e rm_X11_flight s m args below meth c H locs 0 0 Q (F0 m 30 ls []) := by
    intro M H locs ls hw hl h
    unfold f_X11_flight_30 at h
    refine lv_ldc hx hb ho (hL _ kc_RX11_58) dX11_flight_30 ?_
    exact hret dX11_flight_32 rfl hw h
  have w51 : ∀ (M : x_M) (H : Heap) (locs : List Loc) (ls : Array Slot), x_B D cy q ad x_spX NC s H locs M → lv_has ls 5 [] → f_X11_flight_51 M = some z → W p l e rm_X11_flight s m args below meth c H locs 0 0 Q (F0 m 51 ls []) := by
    intro M H locs ls hw hl h
    unfold f_X11_flight_51 at h
    refine lv_ldc hx hb ho (hL _ kc_RX11_58) dX11_flight_51 ?_
    exact hret dX11_flight_53 rfl hw h
  unfold f_X11_flight at h
  refine lv_iload_n hx hb dX11_flight_0 rfl (lv_at hl 1 rfl) ?_
  refine lv_aload_n hx hb dX11_flight_1 rfl (lv_at hl 0 rfl) ?_
  refine xh_getr C hw 0 0 sX_0 (x_lt hN rfl) rfl rfl rfl lk_RX11_12 dX11_flight_2 ?_
  refine xh_geti C hw 1 8 h sX_1 (x_lt hN rfl) rfl rfl rfl lk_RX11_97 dX11_flight_5 (fun r5 h => ?_)
  refine lv_iconst (v := (nI 1)) hx hb dX11_flight_8 (by decide) ?_
  refine lv_iadd hx hb dX11_flight_9 ?_
  refine lv_sipush (v := (nI 1200)) hx hb dX11_flight_10 (by decide) ?_
  refine xh_cSi C hw (rest := []) h (fun _ hy => c_X11_within hq hN hy) ml_RX11_54 st_X11_within ⟨rfl, rfl, by decide, by decide⟩ rfl hl.1 rfl (Nat.le_of_ble_eq_true rfl) dX11_flight_13 (fun H locs r13 M hw h => ?_)
  refine x_if_eq (tgt := 30) hx hb h dX11_flight_16 (by decide) (fun h => ?_) (fun h => ?_)
  · exact w30 _ _ _ _ hw (lv_sub hl [] rfl) h
  · refine lv_iload_n hx hb dX11_flight_19 rfl (lv_at hl 2 rfl) ?_
    refine lv_iconst (v := (nI 1)) hx hb dX11_flight_20 (by decide) ?_
    refine lv_sipush (v := (nI 9999)) hx hb dX11_flight_21 (by decide) ?_
    refine xh_cSi C hw (rest := []) h (fun _ hy => c_X11_within hq hN hy) ml_RX11_54 st_X11_within ⟨rfl, rfl, by decide, by decide⟩ rfl hl.1 rfl (Nat.le_of_ble_eq_true rfl) dX11_flight_24 (fun H locs r24 M hw h => ?_)
    refine x_if_ne (tgt := 33) hx hb h dX11_flight_27 (by decide) (fun h => ?_) (fun h => ?_)
    · exact w30 _ _ _ _ hw (lv_sub hl [] rfl) h
    · refine lv_iload_n hx hb dX11_flight_33 rfl (lv_at hl 3 rfl) ?_
      refine xh_cSi C hw (rest := []) h (fun _ hy => c_X11_isPartner hq hN hy) ml_RX11_112 st_X11_isPartner ⟨rfl, rfl, by decide, by decide⟩ rfl hl.1 rfl (Nat.le_of_ble_eq_true rfl) dX11_flight_34 (fun H locs r34 M hw h => ?_)
      refine x_if_eq (tgt := 51) hx hb h dX11_flight_37 (by decide) (fun h => ?_) (fun h => ?_)
      · exact w51 _ _ _ _ hw (lv_sub hl [] rfl) h
      · refine lv_iload hx hb dX11_flight_40 (lv_at hl 4 rfl) ?_
        refine lv_iconst (v := (nI 0)) hx hb dX11_flight_42 (by decide) ?_
        refine lv_bipush (v := (nI 9)) hx hb dX11_flight_43 (by decide) ?_
        refine xh_cSi C hw (rest := []) h (fun _ hy => c_X11_within hq hN hy) ml_RX11_54 st_X11_within ⟨rfl, rfl, by decide, by decide⟩ rfl hl.1 rfl (Nat.le_of_ble_eq_true rfl) dX11_flight_45 (fun H locs r45 M hw h => ?_)
        refine x_if_ne (tgt := 54) hx hb h dX11_flight_48 (by decide) (fun h => ?_) (fun h => ?_)
        · exact w51 _ _ _ _ hw (lv_sub hl [] rfl) h
        · refine lv_aload_n hx hb dX11_flight_54 rfl (lv_at hl 0 rfl) ?_
          refine xh_getr C hw 0 0 sX_0 (x_lt hN rfl) rfl rfl rfl lk_RX11_12 dX11_flight_55 ?_
          refine xh_getr C hw 1 3 sX_1 (x_lt hN rfl) rfl rfl rfl lk_RX11_225 dX11_flight_58 ?_
          refine lv_iload_n hx hb dX11_flight_61 rfl (lv_at hl 1 rfl) ?_
          refine lv_iload_n hx hb dX11_flight_62 rfl (lv_at hl 2 rfl) ?_
          refine lv_iload_n hx hb dX11_flight_63 rfl (lv_at hl 3 rfl) ?_
          refine lv_iload hx hb dX11_flight_64 (lv_at hl 4 rfl) ?_
          refine xh_cVi C hw (rest := []) h (fun _ hy => c_X6_newFlight hq hN hy) ml_RX11_229 mv_X6_newFlight sX_18 (x_lt hN rfl) rfl ⟨rfl, rfl, by decide, by decide⟩ rfl hl.1 rfl (Nat.le_of_ble_eq_true rfl) dX11_flight_66 (fun H locs r66 M hw h => ?_)
          exact hret dX11_flight_69 rfl hw h
def f_X11_isFlight (M : x_M) (a1 : Int32) : Option (Int32 × x_M) := x_gf M 18 8 (fun r9 => x_bn (f_X11_within M a1 (nI 0) (r9 - (nI 1))) (fun r14 M => x_cz r14 (some (r14, M))))
abbrev rm_X11_isFlight : Room := { frames := 1, cells := 0, slots := 0, locals := 22 }
set_option maxHeartbeats 4000000 in
set_option maxRecDepth 100000 in
theorem c_X11_isFlight {l : Launch} {D : va_G} {cy : Nat → ClassId} {q ad : Nat → Nat} {NC : Nat} {s0 : State} (hq : x_Q q NC s0.heap.size) (hN : 88 ≤ NC) {M : x_M} {a1 : Int32} {z : Int32 × x_M} (h : f_X11_isFlight M a1 = some z) : x_Ci l D cy q ad x_spX NC s0 yX11_isFlight (x_uw yX11_isFlight cX11_isFlight 2 (some .boolean)) rm_X11_isFlight [.ref (q 0), .int a1] M z.1 z.2 := by
  refine x_meti hq (by decide) (Nat.le_of_ble_eq_true rfl) ?_
  intro p e s m args below meth c ls Q C hret hl hw
  have hx := C.1.1
  have hb := C.1.2.1
  have ho := C.1.2.2.2.1
  have hL := C.1.2.2.2.2
  have hl : lv_has ls 2 [(0, .ref (q 0)), (1, .int a1)] := hl
  unfold f_X11_isFlight at h
  refine lv_iload_n hx hb dX11_isFlight_0 rfl (lv_at hl 1 rfl) ?_
  refine lv_iconst (v := (nI 0)) hx hb dX11_isFlight_1 (by decide) ?_
  refine lv_aload_n hx hb dX11_isFlight_2 rfl (lv_at hl 0 rfl) ?_
  refine xh_getr C hw 0 0 sX_0 (x_lt hN rfl) rfl rfl rfl lk_RX11_12 dX11_isFlight_3 ?_
  refine xh_getr C hw 1 3 sX_1 (x_lt hN rfl) rfl rfl rfl lk_RX11_225 dX11_isFlight_6 ?_
  refine xh_geti C hw 18 8 h sX_18 (x_lt hN rfl) rfl rfl rfl lk_RX11_338 dX11_isFlight_9 (fun r9 h => ?_)
  refine lv_iconst (v := (nI 1)) hx hb dX11_isFlight_12 (by decide) ?_
  refine lv_isub hx hb dX11_isFlight_13 ?_
  refine xh_cSi C hw (rest := []) h (fun _ hy => c_X11_within hq hN hy) ml_RX11_54 st_X11_within ⟨rfl, rfl, by decide, by decide⟩ rfl hl.1 rfl (Nat.le_of_ble_eq_true rfl) dX11_isFlight_14 (fun H locs r14 M hw h => ?_)
  exact hret dX11_isFlight_17 (x_z_nar (x_cz_some h).1) hw (x_cz_some h).2
def f_X6_newAsk (M : x_M) (a1 : Int32) (a2 : Int32) (a3 : Int32) : Option (Int32 × x_M) := x_gf M 18 9 (fun r1 => if r1 < (nI 30) then x_gf M 18 9 (fun r17 => x_wr 30 M 23 r17 a1 (fun M => x_gf M 18 9 (fun r27 => x_wr 30 M 24 r27 a2 (fun M => x_gf M 18 9 (fun r37 => x_wr 30 M 25 r37 a3 (fun M => x_gf M 18 9 (fun r47 => x_wr 30 M 26 r47 (-1000000005) (fun M => x_gf M 18 9 (fun r55 => x_pf M 18 9 (r55 + (nI 1)) (fun M => x_gf M 18 9 (fun r64 => some ((r64 - (nI 1)), M)))))))))))) else some ((-1000000003), M))
abbrev rm_X6_newAsk : Room := { frames := 0, cells := 0, slots := 0, locals := 0 }
set_option maxHeartbeats 4000000 in
set_option maxRecDepth 100000 in
theorem c_X6_newAsk {l : Launch} {D : va_G} {cy : Nat → ClassId} {q ad : Nat → Nat} {NC : Nat} {s0 : State} (hq : x_Q q NC s0.heap.size) (hN : 88 ≤ NC) {M : x_M} {a1 : Int32} {a2 : Int32} {a3 : Int32} {z : Int32 × x_M} (h : f_X6_newAsk M a1 a2 a3 = some z) : x_Ci l D cy q ad x_spX NC s0 yX6_newAsk (x_uw yX6_newAsk cX6_newAsk 4 (some .int)) rm_X6_newAsk [.ref (q 18), .int a1, .int a2, .int a3] M z.1 z.2 := by
  refine x_meti hq (by decide) (Nat.le_of_ble_eq_true rfl) ?_
  intro p e s m args below meth c ls Q C hret hl hw
  have hx := C.1.1
  have hb := C.1.2.1
  have ho := C.1.2.2.2.1
  have hL := C.1.2.2.2.2
  have hl : lv_has ls 4 [(0, .ref (q 18)), (1, .int a1), (2, .int a2), (3, .int a3)] := hl
  unfold f_X6_newAsk at h
  refine lv_aload_n hx hb dX6_newAsk_0 rfl (lv_at hl 0 rfl) ?_
  refine xh_geti C hw 18 9 h sX_18 (x_lt hN rfl) rfl rfl rfl lk_RX6_41 dX6_newAsk_1 (fun r1 h => ?_)
  refine lv_bipush (v := (nI 30)) hx hb dX6_newAsk_4 (by decide) ?_
  refine x_icmp_lt (tgt := 12) hx hb h dX6_newAsk_6 (by decide) (fun h => ?_) (fun h => ?_)
  · refine lv_aload_n hx hb dX6_newAsk_12 rfl (lv_at hl 0 rfl) ?_
    refine xh_getr C hw 18 4 sX_18 (x_lt hN rfl) rfl rfl rfl lk_RX6_24 dX6_newAsk_13 ?_
    refine lv_aload_n hx hb dX6_newAsk_16 rfl (lv_at hl 0 rfl) ?_
    refine xh_geti C hw 18 9 h sX_18 (x_lt hN rfl) rfl rfl rfl lk_RX6_41 dX6_newAsk_17 (fun r17 h => ?_)
    refine lv_iload_n hx hb dX6_newAsk_20 rfl (lv_at hl 1 rfl) ?_
    refine xh_iast C hw 23 30 h sX_23 (x_lt hN rfl) dX6_newAsk_21 (fun H locs M hw h => ?_)
    refine lv_aload_n hx hb dX6_newAsk_22 rfl (lv_at hl 0 rfl) ?_
    refine xh_getr C hw 18 5 sX_18 (x_lt hN rfl) rfl rfl rfl lk_RX6_27 dX6_newAsk_23 ?_
    refine lv_aload_n hx hb dX6_newAsk_26 rfl (lv_at hl 0 rfl) ?_
    refine xh_geti C hw 18 9 h sX_18 (x_lt hN rfl) rfl rfl rfl lk_RX6_41 dX6_newAsk_27 (fun r27 h => ?_)
    refine lv_iload_n hx hb dX6_newAsk_30 rfl (lv_at hl 2 rfl) ?_
    refine xh_iast C hw 24 30 h sX_24 (x_lt hN rfl) dX6_newAsk_31 (fun H locs M hw h => ?_)
    refine lv_aload_n hx hb dX6_newAsk_32 rfl (lv_at hl 0 rfl) ?_
    refine xh_getr C hw 18 6 sX_18 (x_lt hN rfl) rfl rfl rfl lk_RX6_30 dX6_newAsk_33 ?_
    refine lv_aload_n hx hb dX6_newAsk_36 rfl (lv_at hl 0 rfl) ?_
    refine xh_geti C hw 18 9 h sX_18 (x_lt hN rfl) rfl rfl rfl lk_RX6_41 dX6_newAsk_37 (fun r37 h => ?_)
    refine lv_iload_n hx hb dX6_newAsk_40 rfl (lv_at hl 3 rfl) ?_
    refine xh_iast C hw 25 30 h sX_25 (x_lt hN rfl) dX6_newAsk_41 (fun H locs M hw h => ?_)
    refine lv_aload_n hx hb dX6_newAsk_42 rfl (lv_at hl 0 rfl) ?_
    refine xh_getr C hw 18 7 sX_18 (x_lt hN rfl) rfl rfl rfl lk_RX6_33 dX6_newAsk_43 ?_
    refine lv_aload_n hx hb dX6_newAsk_46 rfl (lv_at hl 0 rfl) ?_
    refine xh_geti C hw 18 9 h sX_18 (x_lt hN rfl) rfl rfl rfl lk_RX6_41 dX6_newAsk_47 (fun r47 h => ?_)
    refine lv_ldc hx hb ho (hL _ kc_RX6_44) dX6_newAsk_50 ?_
    refine xh_iast C hw 26 30 h sX_26 (x_lt hN rfl) dX6_newAsk_52 (fun H locs M hw h => ?_)
    refine lv_aload_n hx hb dX6_newAsk_53 rfl (lv_at hl 0 rfl) ?_
    refine lv_dup hx hb dX6_newAsk_54 rfl ?_
    refine xh_geti C hw 18 9 h sX_18 (x_lt hN rfl) rfl rfl rfl lk_RX6_41 dX6_newAsk_55 (fun r55 h => ?_)
    refine lv_iconst (v := (nI 1)) hx hb dX6_newAsk_58 (by decide) ?_
    refine lv_iadd hx hb dX6_newAsk_59 ?_
    refine xh_puti C hw 18 9 h sX_18 (x_lt hN rfl) rfl rfl rfl lk_RX6_41 rfl rfl dX6_newAsk_60 (fun H locs M hw h => ?_)
    refine lv_aload_n hx hb dX6_newAsk_63 rfl (lv_at hl 0 rfl) ?_
    refine xh_geti C hw 18 9 h sX_18 (x_lt hN rfl) rfl rfl rfl lk_RX6_41 dX6_newAsk_64 (fun r64 h => ?_)
    refine lv_iconst (v := (nI 1)) hx hb dX6_newAsk_67 (by decide) ?_
    refine lv_isub hx hb dX6_newAsk_68 ?_
    exact hret dX6_newAsk_69 rfl hw h
  · refine lv_ldc hx hb ho (hL _ kc_RX6_40) dX6_newAsk_9 ?_
    exact hret dX6_newAsk_11 rfl hw h
def f_X11_ask_25 (M : x_M) : Option (Int32 × x_M) := some ((-1000000001), M)
def f_X11_ask (M : x_M) (a1 : Int32) (a2 : Int32) (a3 : Int32) : Option (Int32 × x_M) := x_bn (f_X11_isMember M a1) (fun r2 M => if r2 = 0 then f_X11_ask_25 M else x_bn (f_X11_isFlight M a2) (fun r10 M => if r10 = 0 then f_X11_ask_25 M else x_bn (f_X11_within M a3 (nI 0) (nI 3)) (fun r19 M => if r19 = 0 then f_X11_ask_25 M else x_rd 8 (M 19) a2 (fun r39 => x_gf M 1 8 (fun r44 => if r44 < r39 then x_bn (f_X6_newAsk M a1 a2 a3) (fun r63 M => some (r63, M)) else some ((-1000000002), M))))))
abbrev rm_X11_ask : Room := { frames := 2, cells := 0, slots := 0, locals := 43 }
set_option maxHeartbeats 4000000 in
set_option maxRecDepth 100000 in
theorem c_X11_ask {l : Launch} {D : va_G} {cy : Nat → ClassId} {q ad : Nat → Nat} {NC : Nat} {s0 : State} (hq : x_Q q NC s0.heap.size) (hN : 88 ≤ NC) {M : x_M} {a1 : Int32} {a2 : Int32} {a3 : Int32} {z : Int32 × x_M} (h : f_X11_ask M a1 a2 a3 = some z) : x_Ci l D cy q ad x_spX NC s0 yX11_ask (x_uw yX11_ask cX11_ask 4 (some .int)) rm_X11_ask [.ref (q 0), .int a1, .int a2, .int a3] M z.1 z.2 := by
  refine x_meti hq (by decide) (Nat.le_of_ble_eq_true rfl) ?_
  intro p e s m args below meth c ls Q C hret hl hw
  have hx := C.1.1
  have hb := C.1.2.1
  have ho := C.1.2.2.2.1
  have hL := C.1.2.2.2.2
  have hl : lv_has ls 4 [(0, .ref (q 0)), (1, .int a1), (2, .int a2), (3, .int a3)] := hl
  have w25 : ∀ (M : x_M) (H : Heap) (locs : List Loc) (ls : Array Slot), x_B D cy q ad x_spX NC s H locs M → lv_has ls 4 [] → f_X11_ask_25 M = some z → W p l e rm_X11_ask s m args below meth c H locs 0 0 Q (F0 m 25 ls []) := by
    intro M H locs ls hw hl h
    unfold f_X11_ask_25 at h
    refine lv_ldc hx hb ho (hL _ kc_RX11_58) dX11_ask_25 ?_
    exact hret dX11_ask_27 rfl hw h
  unfold f_X11_ask at h
  refine lv_aload_n hx hb dX11_ask_0 rfl (lv_at hl 0 rfl) ?_
  refine lv_iload_n hx hb dX11_ask_1 rfl (lv_at hl 1 rfl) ?_
  refine xh_cVi C hw (rest := []) h (fun _ hy => c_X11_isMember hq hN hy) ml_RX11_69 mv_X11_isMember sX_0 (x_lt hN rfl) rfl ⟨rfl, rfl, by decide, by decide⟩ rfl hl.1 rfl (Nat.le_of_ble_eq_true rfl) dX11_ask_2 (fun H locs r2 M hw h => ?_)
  refine x_if_eq (tgt := 25) hx hb h dX11_ask_5 (by decide) (fun h => ?_) (fun h => ?_)
  · exact w25 _ _ _ _ hw (lv_sub hl [] rfl) h
  · refine lv_aload_n hx hb dX11_ask_8 rfl (lv_at hl 0 rfl) ?_
    refine lv_iload_n hx hb dX11_ask_9 rfl (lv_at hl 2 rfl) ?_
    refine xh_cVi C hw (rest := []) h (fun _ hy => c_X11_isFlight hq hN hy) ml_RX11_235 mv_X11_isFlight sX_0 (x_lt hN rfl) rfl ⟨rfl, rfl, by decide, by decide⟩ rfl hl.1 rfl (Nat.le_of_ble_eq_true rfl) dX11_ask_10 (fun H locs r10 M hw h => ?_)
    refine x_if_eq (tgt := 25) hx hb h dX11_ask_13 (by decide) (fun h => ?_) (fun h => ?_)
    · exact w25 _ _ _ _ hw (lv_sub hl [] rfl) h
    · refine lv_iload_n hx hb dX11_ask_16 rfl (lv_at hl 3 rfl) ?_
      refine lv_iconst (v := (nI 0)) hx hb dX11_ask_17 (by decide) ?_
      refine lv_iconst (v := (nI 3)) hx hb dX11_ask_18 (by decide) ?_
      refine xh_cSi C hw (rest := []) h (fun _ hy => c_X11_within hq hN hy) ml_RX11_54 st_X11_within ⟨rfl, rfl, by decide, by decide⟩ rfl hl.1 rfl (Nat.le_of_ble_eq_true rfl) dX11_ask_19 (fun H locs r19 M hw h => ?_)
      refine x_if_ne (tgt := 28) hx hb h dX11_ask_22 (by decide) (fun h => ?_) (fun h => ?_)
      · exact w25 _ _ _ _ hw (lv_sub hl [] rfl) h
      · refine lv_aload_n hx hb dX11_ask_28 rfl (lv_at hl 0 rfl) ?_
        refine xh_getr C hw 0 0 sX_0 (x_lt hN rfl) rfl rfl rfl lk_RX11_12 dX11_ask_29 ?_
        refine xh_getr C hw 1 3 sX_1 (x_lt hN rfl) rfl rfl rfl lk_RX11_225 dX11_ask_32 ?_
        refine xh_getr C hw 18 0 sX_18 (x_lt hN rfl) rfl rfl rfl lk_RX11_238 dX11_ask_35 ?_
        refine lv_iload_n hx hb dX11_ask_38 rfl (lv_at hl 2 rfl) ?_
        refine xh_iald C hw 19 8 h sX_19 (x_lt hN rfl) dX11_ask_39 (fun r39 h => ?_)
        refine lv_aload_n hx hb dX11_ask_40 rfl (lv_at hl 0 rfl) ?_
        refine xh_getr C hw 0 0 sX_0 (x_lt hN rfl) rfl rfl rfl lk_RX11_12 dX11_ask_41 ?_
        refine xh_geti C hw 1 8 h sX_1 (x_lt hN rfl) rfl rfl rfl lk_RX11_97 dX11_ask_44 (fun r44 h => ?_)
        refine x_icmp_gt (tgt := 53) hx hb h dX11_ask_47 (by decide) (fun h => ?_) (fun h => ?_)
        · refine lv_aload_n hx hb dX11_ask_53 rfl (lv_at hl 0 rfl) ?_
          refine xh_getr C hw 0 0 sX_0 (x_lt hN rfl) rfl rfl rfl lk_RX11_12 dX11_ask_54 ?_
          refine xh_getr C hw 1 3 sX_1 (x_lt hN rfl) rfl rfl rfl lk_RX11_225 dX11_ask_57 ?_
          refine lv_iload_n hx hb dX11_ask_60 rfl (lv_at hl 1 rfl) ?_
          refine lv_iload_n hx hb dX11_ask_61 rfl (lv_at hl 2 rfl) ?_
          refine lv_iload_n hx hb dX11_ask_62 rfl (lv_at hl 3 rfl) ?_
          refine xh_cVi C hw (rest := []) h (fun _ hy => c_X6_newAsk hq hN hy) ml_RX11_241 mv_X6_newAsk sX_18 (x_lt hN rfl) rfl ⟨rfl, rfl, by decide, by decide⟩ rfl hl.1 rfl (Nat.le_of_ble_eq_true rfl) dX11_ask_63 (fun H locs r63 M hw h => ?_)
          exact hret dX11_ask_66 rfl hw h
        · refine lv_ldc hx hb ho (hL _ kc_RX11_144) dX11_ask_50 ?_
          exact hret dX11_ask_52 rfl hw h
def f_X11_rankAsks_84 (NC : Nat) (k10 : x_M → Int32 → Int32 → Option (Unit × x_M)) (M : x_M) (v1 : Int32) (v3 : Int32) (t1 : Int32) (t2 : Int32) : Option (Unit × x_M) := x_wr 30 M 85 t1 t2 (fun M => k10 M v1 (v3 + (nI 1)))
def f_X11_rankAsks_44 (NC : Nat) (k10 : x_M → Int32 → Int32 → Option (Unit × x_M)) (M : x_M) (v1 : Int32) (v3 : Int32) (t0 : Int32) : Option (Unit × x_M) := if t0 = 0 then f_X11_rankAsks_84 NC k10 M v1 v3 v3 (-1) else x_rd 30 (M 23) v3 (fun r69 => x_gf M 1 8 (fun r74 => x_bn (f_X2_tierOf_67_1 NC M r69 r74) (fun r77 M => f_X11_rankAsks_84 NC k10 M v1 v3 v3 r77)))
def f_X11_rankAsks_43 (NC : Nat) (k10 : x_M → Int32 → Int32 → Option (Unit × x_M)) (M : x_M) (v1 : Int32) (v3 : Int32) : Option (Unit × x_M) := f_X11_rankAsks_44 NC k10 M v1 v3 (nI 0)
def f_X11_rankAsks_10 (NC : Nat) : Nat → x_M → Int32 → Int32 → Option (Unit × x_M)
  | 0, _, _, _ => none
  | n + 1, M, v1, v3 => x_gf M 18 9 (fun r12 => if r12 ≤ v3 then some ((), M) else x_rd 30 (M 24) v3 (fun r23 => if r23 = v1 then x_rd 30 (M 26) v3 (fun r33 => if r33 = (-1000000005) then f_X11_rankAsks_44 NC (f_X11_rankAsks_10 NC n) M v1 v3 (nI 1) else f_X11_rankAsks_43 NC (f_X11_rankAsks_10 NC n) M v1 v3) else f_X11_rankAsks_43 NC (f_X11_rankAsks_10 NC n) M v1 v3))
theorem f_X11_rankAsks_10_0 (NC : Nat) (M : x_M) (v1 : Int32) (v3 : Int32) : f_X11_rankAsks_10 NC 0 M v1 v3 = none := rfl
theorem f_X11_rankAsks_10_s (NC : Nat) (n : Nat) (M : x_M) (v1 : Int32) (v3 : Int32) : f_X11_rankAsks_10 NC (n + 1) M v1 v3 = (x_gf M 18 9 (fun r12 => if r12 ≤ v3 then some ((), M) else x_rd 30 (M 24) v3 (fun r23 => if r23 = v1 then x_rd 30 (M 26) v3 (fun r33 => if r33 = (-1000000005) then f_X11_rankAsks_44 NC (f_X11_rankAsks_10 NC n) M v1 v3 (nI 1) else f_X11_rankAsks_43 NC (f_X11_rankAsks_10 NC n) M v1 v3) else f_X11_rankAsks_43 NC (f_X11_rankAsks_10 NC n) M v1 v3))) := rfl
def f_X11_rankAsks (NC : Nat) (M : x_M) (a1 : Int32) : Option (Unit × x_M) := f_X11_rankAsks_10 NC x_FU M a1 (nI 0)
abbrev rm_X11_rankAsks : Room := { frames := 5, cells := 0, slots := 0, locals := 127 }
set_option maxHeartbeats 4000000 in
set_option maxRecDepth 100000 in
theorem c_X11_rankAsks {l : Launch} {D : va_G} {cy : Nat → ClassId} {q ad : Nat → Nat} {NC : Nat} {s0 : State} (hq : x_Q q NC s0.heap.size) (hN : 88 ≤ NC) {M : x_M} {a1 : Int32} {z : Unit × x_M} (h : f_X11_rankAsks NC M a1 = some z) : x_Cv l D cy q ad x_spX NC s0 yX11_rankAsks (x_uw yX11_rankAsks cX11_rankAsks 5 none) rm_X11_rankAsks [.ref (q 0), .int a1] M z.2 := by
  refine x_metv hq (by decide) (Nat.le_of_ble_eq_true rfl) ?_
  intro p e s m args below meth c ls Q C hret hl hw
  have hx := C.1.1
  have hb := C.1.2.1
  have ho := C.1.2.2.2.1
  have hL := C.1.2.2.2.2
  have hl : lv_has ls 5 [(0, .ref (q 0)), (1, .int a1)] := hl
  have w10 : ∀ (n : Nat) (M : x_M) (v1 : Int32) (v3 : Int32) (H : Heap) (locs : List Loc) (ls : Array Slot), x_B D cy q ad x_spX NC s H locs M → lv_has ls 5 [(0, .ref (q 0)), (1, .int v1), (2, .ref (q 18)), (3, .int v3)] → f_X11_rankAsks_10 NC n M v1 v3 = some z → W p l e rm_X11_rankAsks s m args below meth c H locs 0 0 Q (F0 m 10 ls []) := by
    intro n
    induction n with
    | zero =>
      intro M v1 v3 H locs ls hw hl h
      rw [f_X11_rankAsks_10_0] at h
      cases h
    | succ n10 ih10 =>
      have w44 : ∀ (M : x_M) (v1 : Int32) (v3 : Int32) (t0 : Int32) (H : Heap) (locs : List Loc) (ls : Array Slot), x_B D cy q ad x_spX NC s H locs M → lv_has ls 5 [(0, .ref (q 0)), (1, .int v1), (2, .ref (q 18)), (3, .int v3)] → f_X11_rankAsks_44 NC (f_X11_rankAsks_10 NC n10) M v1 v3 t0 = some z → W p l e rm_X11_rankAsks s m args below meth c H locs 0 0 Q (F0 m 44 ls [.int t0]) := by
        have w84 : ∀ (M : x_M) (v1 : Int32) (v3 : Int32) (t1 : Int32) (t2 : Int32) (H : Heap) (locs : List Loc) (ls : Array Slot), x_B D cy q ad x_spX NC s H locs M → lv_has ls 5 [(0, .ref (q 0)), (1, .int v1), (2, .ref (q 18)), (3, .int v3)] → f_X11_rankAsks_84 NC (f_X11_rankAsks_10 NC n10) M v1 v3 t1 t2 = some z → W p l e rm_X11_rankAsks s m args below meth c H locs 0 0 Q (F0 m 84 ls [.int t2, .int t1, .ref (q 85)]) := by
          intro M v1 v3 t1 t2 H locs ls hw hl h
          unfold f_X11_rankAsks_84 at h
          refine xh_iast C hw 85 30 h sX_85 (x_lt hN rfl) dX11_rankAsks_84 (fun H locs M hw h => ?_)
          refine lv_iinc (lv' := [(3, .int _), (0, .ref (q 0)), (1, .int _), (2, .ref (q 18))]) hx hb dX11_rankAsks_85 hl (k := 3) rfl (x_inc (show Int32.ofInt 1 = (nI 1) by decide) _) (by decide) rfl (fun ls hl => ?_)
          refine lv_goto (tgt := 10) hx hb dX11_rankAsks_88 (by decide) ?_
          exact ih10 _ _ _ _ _ _ hw (lv_sub hl [1, 2, 3, 0] rfl) h
        intro M v1 v3 t0 H locs ls hw hl h
        unfold f_X11_rankAsks_44 at h
        refine lv_istore (lv' := [(4, .int _), (0, .ref (q 0)), (1, .int _), (2, .ref (q 18)), (3, .int _)]) hx hb dX11_rankAsks_44 hl (by decide) rfl (fun ls hl => ?_)
        refine lv_aload_n hx hb dX11_rankAsks_46 rfl (lv_at hl 1 rfl) ?_
        refine xh_getr C hw 0 6 sX_0 (x_lt hN rfl) rfl rfl rfl lk_RX11_44 dX11_rankAsks_47 ?_
        refine lv_iload_n hx hb dX11_rankAsks_50 rfl (lv_at hl 4 rfl) ?_
        refine lv_iload hx hb dX11_rankAsks_51 (lv_at hl 0 rfl) ?_
        refine x_if_eq (tgt := 83) hx hb h dX11_rankAsks_53 (by decide) (fun h => ?_) (fun h => ?_)
        · refine lv_iconst (v := (-1)) hx hb dX11_rankAsks_83 (by decide) ?_
          exact w84 _ _ _ _ _ _ _ _ hw (lv_sub hl [1, 2, 3, 4] rfl) h
        · refine lv_aload_n hx hb dX11_rankAsks_56 rfl (lv_at hl 1 rfl) ?_
          refine xh_getr C hw 0 2 sX_0 (x_lt hN rfl) rfl rfl rfl lk_RX11_22 dX11_rankAsks_57 ?_
          refine lv_aload_n hx hb dX11_rankAsks_60 rfl (lv_at hl 1 rfl) ?_
          refine xh_getr C hw 0 0 sX_0 (x_lt hN rfl) rfl rfl rfl lk_RX11_12 dX11_rankAsks_61 ?_
          refine lv_aload_n hx hb dX11_rankAsks_64 rfl (lv_at hl 3 rfl) ?_
          refine xh_getr C hw 18 4 sX_18 (x_lt hN rfl) rfl rfl rfl lk_RX11_259 dX11_rankAsks_65 ?_
          refine lv_iload_n hx hb dX11_rankAsks_68 rfl (lv_at hl 4 rfl) ?_
          refine xh_iald C hw 23 30 h sX_23 (x_lt hN rfl) dX11_rankAsks_69 (fun r69 h => ?_)
          refine lv_aload_n hx hb dX11_rankAsks_70 rfl (lv_at hl 1 rfl) ?_
          refine xh_getr C hw 0 0 sX_0 (x_lt hN rfl) rfl rfl rfl lk_RX11_12 dX11_rankAsks_71 ?_
          refine xh_geti C hw 1 8 h sX_1 (x_lt hN rfl) rfl rfl rfl lk_RX11_97 dX11_rankAsks_74 (fun r74 h => ?_)
          refine xh_cVi C hw (rest := [_, _]) h (fun _ hy => c_X2_tierOf_67_1 hq hN hy) ml_RX11_165 mv_X2_tierOf sX_67 (x_lt hN rfl) rfl ⟨rfl, rfl, by decide, by decide⟩ rfl hl.1 rfl (Nat.le_of_ble_eq_true rfl) dX11_rankAsks_77 (fun H locs r77 M hw h => ?_)
          refine lv_goto (tgt := 84) hx hb dX11_rankAsks_80 (by decide) ?_
          exact w84 _ _ _ _ _ _ _ _ hw (lv_sub hl [1, 2, 3, 4] rfl) h
      have w43 : ∀ (M : x_M) (v1 : Int32) (v3 : Int32) (H : Heap) (locs : List Loc) (ls : Array Slot), x_B D cy q ad x_spX NC s H locs M → lv_has ls 5 [(0, .ref (q 0)), (1, .int v1), (2, .ref (q 18)), (3, .int v3)] → f_X11_rankAsks_43 NC (f_X11_rankAsks_10 NC n10) M v1 v3 = some z → W p l e rm_X11_rankAsks s m args below meth c H locs 0 0 Q (F0 m 43 ls []) := by
        intro M v1 v3 H locs ls hw hl h
        unfold f_X11_rankAsks_43 at h
        refine lv_iconst (v := (nI 0)) hx hb dX11_rankAsks_43 (by decide) ?_
        exact w44 _ _ _ _ _ _ _ hw (lv_sub hl [0, 1, 2, 3] rfl) h
      intro M v1 v3 H locs ls hw hl h
      rw [f_X11_rankAsks_10_s] at h
      refine lv_iload_n hx hb dX11_rankAsks_10 rfl (lv_at hl 3 rfl) ?_
      refine lv_aload_n hx hb dX11_rankAsks_11 rfl (lv_at hl 2 rfl) ?_
      refine xh_geti C hw 18 9 h sX_18 (x_lt hN rfl) rfl rfl rfl lk_RX11_247 dX11_rankAsks_12 (fun r12 h => ?_)
      refine x_icmp_ge (tgt := 91) hx hb h dX11_rankAsks_15 (by decide) (fun h => ?_) (fun h => ?_)
      · exact hret dX11_rankAsks_91 hw h
      · refine lv_aload_n hx hb dX11_rankAsks_18 rfl (lv_at hl 2 rfl) ?_
        refine xh_getr C hw 18 5 sX_18 (x_lt hN rfl) rfl rfl rfl lk_RX11_253 dX11_rankAsks_19 ?_
        refine lv_iload_n hx hb dX11_rankAsks_22 rfl (lv_at hl 3 rfl) ?_
        refine xh_iald C hw 24 30 h sX_24 (x_lt hN rfl) dX11_rankAsks_23 (fun r23 h => ?_)
        refine lv_iload_n hx hb dX11_rankAsks_24 rfl (lv_at hl 1 rfl) ?_
        refine x_icmp_ne (tgt := 43) hx hb h dX11_rankAsks_25 (by decide) (fun h => ?_) (fun h => ?_)
        · refine lv_aload_n hx hb dX11_rankAsks_28 rfl (lv_at hl 2 rfl) ?_
          refine xh_getr C hw 18 7 sX_18 (x_lt hN rfl) rfl rfl rfl lk_RX11_256 dX11_rankAsks_29 ?_
          refine lv_iload_n hx hb dX11_rankAsks_32 rfl (lv_at hl 3 rfl) ?_
          refine xh_iald C hw 26 30 h sX_26 (x_lt hN rfl) dX11_rankAsks_33 (fun r33 h => ?_)
          refine lv_ldc hx hb ho (hL _ kc_RX11_77) dX11_rankAsks_34 ?_
          refine x_icmp_ne (tgt := 43) hx hb h dX11_rankAsks_36 (by decide) (fun h => ?_) (fun h => ?_)
          · refine lv_iconst (v := (nI 1)) hx hb dX11_rankAsks_39 (by decide) ?_
            refine lv_goto (tgt := 44) hx hb dX11_rankAsks_40 (by decide) ?_
            exact w44 _ _ _ _ _ _ _ hw (lv_sub hl [0, 1, 2, 3] rfl) h
          · exact w43 _ _ _ _ _ _ hw (lv_sub hl [0, 1, 2, 3] rfl) h
        · exact w43 _ _ _ _ _ _ hw (lv_sub hl [0, 1, 2, 3] rfl) h
  unfold f_X11_rankAsks at h
  refine lv_aload_n hx hb dX11_rankAsks_0 rfl (lv_at hl 0 rfl) ?_
  refine xh_getr C hw 0 0 sX_0 (x_lt hN rfl) rfl rfl rfl lk_RX11_12 dX11_rankAsks_1 ?_
  refine xh_getr C hw 1 3 sX_1 (x_lt hN rfl) rfl rfl rfl lk_RX11_225 dX11_rankAsks_4 ?_
  refine lv_astore_n (lv' := [(2, .ref (q 18)), (0, .ref (q 0)), (1, .int _)]) hx hb dX11_rankAsks_7 rfl hl (by decide) rfl (fun ls hl => ?_)
  refine lv_iconst (v := (nI 0)) hx hb dX11_rankAsks_8 (by decide) ?_
  refine lv_istore_n (lv' := [(3, .int _), (2, .ref (q 18)), (0, .ref (q 0)), (1, .int _)]) hx hb dX11_rankAsks_9 rfl hl (by decide) rfl (fun ls hl => ?_)
  exact w10 _ _ _ _ _ _ _ hw (lv_sub hl [2, 3, 1, 0] rfl) h
def f_X2_priceOf_67_1 (NC : Nat) (M : x_M) (a2 : Int32) (a3 : Int32) : Option (Int32 × x_M) := x_rd 30 (M 24) a2 (fun r12 => x_rd 8 (M 20) r12 (fun r26 => x_rd 30 (M 25) a2 (fun r33 => x_bn (f_X1_forTrip M r26 r33) (fun _ M => x_rd 30 (M 23) a2 (fun r55 => x_rd 10 (M 3) r55 (fun r56 => x_bn (f_X1_forMember M a3 r56) (fun _ M => x_rd 8 (M 22) r12 (fun r71 => x_pf M 68 6 r71 (fun M => x_rd 8 (M 19) r12 (fun r86 => x_gf M 1 8 (fun r88 => x_pf M 68 7 (r86 - r88) (fun M => x_gf M 1 8 (fun r104 => x_bn (f_X9_inForce NC M r104) (fun r107 M => x_bn (f_X1_workedOut NC M r107 (nI 2)) (fun r111 M => x_bn (f_X11_held M r111 (nI 0) (nI 99999)) (fun r117 M => some (r117, M)))))))))))))))))
abbrev rm_X2_priceOf_67_1 : Room := { frames := 3, cells := 0, slots := 0, locals := 77 }
set_option maxHeartbeats 4000000 in
set_option maxRecDepth 100000 in
theorem c_X2_priceOf_67_1 {l : Launch} {D : va_G} {cy : Nat → ClassId} {q ad : Nat → Nat} {NC : Nat} {s0 : State} (hq : x_Q q NC s0.heap.size) (hN : 88 ≤ NC) {M : x_M} {a2 : Int32} {a3 : Int32} {z : Int32 × x_M} (h : f_X2_priceOf_67_1 NC M a2 a3 = some z) : x_Ci l D cy q ad x_spX NC s0 yX2_priceOf (x_uw yX2_priceOf cX2_priceOf 6 (some .int)) rm_X2_priceOf_67_1 [.ref (q 67), .ref (q 1), .int a2, .int a3] M z.1 z.2 := by
  refine x_meti hq (by decide) (Nat.le_of_ble_eq_true rfl) ?_
  intro p e s m args below meth c ls Q C hret hl hw
  have hx := C.1.1
  have hb := C.1.2.1
  have ho := C.1.2.2.2.1
  have hL := C.1.2.2.2.2
  have hl : lv_has ls 6 [(0, .ref (q 67)), (1, .ref (q 1)), (2, .int a2), (3, .int a3)] := hl
  unfold f_X2_priceOf_67_1 at h
  refine lv_aload_n hx hb dX2_priceOf_0 rfl (lv_at hl 1 rfl) ?_
  refine xh_getr C hw 1 3 sX_1 (x_lt hN rfl) rfl rfl rfl lk_RX2_191 dX2_priceOf_1 ?_
  refine lv_astore (lv' := [(4, .ref (q 18)), (0, .ref (q 67)), (1, .ref (q 1)), (2, .int _), (3, .int _)]) hx hb dX2_priceOf_4 hl (by decide) rfl (fun ls hl => ?_)
  refine lv_aload hx hb dX2_priceOf_6 (lv_at hl 0 rfl) ?_
  refine xh_getr C hw 18 5 sX_18 (x_lt hN rfl) rfl rfl rfl lk_RX2_195 dX2_priceOf_8 ?_
  refine lv_iload_n hx hb dX2_priceOf_11 rfl (lv_at hl 3 rfl) ?_
  refine xh_iald C hw 24 30 h sX_24 (x_lt hN rfl) dX2_priceOf_12 (fun r12 h => ?_)
  refine lv_istore (lv' := [(5, .int _), (4, .ref (q 18)), (0, .ref (q 67)), (1, .ref (q 1)), (2, .int _), (3, .int _)]) hx hb dX2_priceOf_13 hl (by decide) rfl (fun ls hl => ?_)
  refine lv_aload_n hx hb dX2_priceOf_15 rfl (lv_at hl 2 rfl) ?_
  refine xh_getr C hw 67 0 sX_67 (x_lt hN rfl) rfl rfl rfl lk_RX2_12 dX2_priceOf_16 ?_
  refine lv_aload hx hb dX2_priceOf_19 (lv_at hl 1 rfl) ?_
  refine xh_getr C hw 18 1 sX_18 (x_lt hN rfl) rfl rfl rfl lk_RX2_200 dX2_priceOf_21 ?_
  refine lv_iload hx hb dX2_priceOf_24 (lv_at hl 0 rfl) ?_
  refine xh_iald C hw 20 8 h sX_20 (x_lt hN rfl) dX2_priceOf_26 (fun r26 h => ?_)
  refine lv_aload hx hb dX2_priceOf_27 (lv_at hl 1 rfl) ?_
  refine xh_getr C hw 18 6 sX_18 (x_lt hN rfl) rfl rfl rfl lk_RX2_203 dX2_priceOf_29 ?_
  refine lv_iload_n hx hb dX2_priceOf_32 rfl (lv_at hl 4 rfl) ?_
  refine xh_iald C hw 25 30 h sX_25 (x_lt hN rfl) dX2_priceOf_33 (fun r33 h => ?_)
  refine xh_cVv C hw (rest := []) h (fun _ hy => c_X1_forTrip hq hN hy) ml_RX2_113 mv_X1_forTrip sX_68 (x_lt hN rfl) rfl ⟨rfl, rfl, by decide, by decide⟩ rfl hl.1 rfl (Nat.le_of_ble_eq_true rfl) dX2_priceOf_34 (fun H locs _ M hw h => ?_)
  refine lv_aload_n hx hb dX2_priceOf_37 rfl (lv_at hl 2 rfl) ?_
  refine xh_getr C hw 67 0 sX_67 (x_lt hN rfl) rfl rfl rfl lk_RX2_12 dX2_priceOf_38 ?_
  refine lv_iload_n hx hb dX2_priceOf_41 rfl (lv_at hl 5 rfl) ?_
  refine lv_aload_n hx hb dX2_priceOf_42 rfl (lv_at hl 3 rfl) ?_
  refine xh_getr C hw 1 0 sX_1 (x_lt hN rfl) rfl rfl rfl lk_RX2_117 dX2_priceOf_43 ?_
  refine xh_getr C hw 2 0 sX_2 (x_lt hN rfl) rfl rfl rfl lk_RX2_121 dX2_priceOf_46 ?_
  refine lv_aload hx hb dX2_priceOf_49 (lv_at hl 1 rfl) ?_
  refine xh_getr C hw 18 4 sX_18 (x_lt hN rfl) rfl rfl rfl lk_RX2_206 dX2_priceOf_51 ?_
  refine lv_iload_n hx hb dX2_priceOf_54 rfl (lv_at hl 4 rfl) ?_
  refine xh_iald C hw 23 30 h sX_23 (x_lt hN rfl) dX2_priceOf_55 (fun r55 h => ?_)
  refine xh_iald C hw 3 10 h sX_3 (x_lt hN rfl) dX2_priceOf_56 (fun r56 h => ?_)
  refine xh_cVv C hw (rest := []) h (fun _ hy => c_X1_forMember hq hN hy) ml_RX2_124 mv_X1_forMember sX_68 (x_lt hN rfl) rfl ⟨rfl, rfl, by decide, by decide⟩ rfl hl.1 rfl (Nat.le_of_ble_eq_true rfl) dX2_priceOf_57 (fun H locs _ M hw h => ?_)
  refine lv_aload_n hx hb dX2_priceOf_60 rfl (lv_at hl 2 rfl) ?_
  refine xh_getr C hw 67 0 sX_67 (x_lt hN rfl) rfl rfl rfl lk_RX2_12 dX2_priceOf_61 ?_
  refine lv_aload hx hb dX2_priceOf_64 (lv_at hl 1 rfl) ?_
  refine xh_getr C hw 18 3 sX_18 (x_lt hN rfl) rfl rfl rfl lk_RX2_209 dX2_priceOf_66 ?_
  refine lv_iload hx hb dX2_priceOf_69 (lv_at hl 0 rfl) ?_
  refine xh_iald C hw 22 8 h sX_22 (x_lt hN rfl) dX2_priceOf_71 (fun r71 h => ?_)
  refine xh_puti C hw 68 6 h sX_68 (x_lt hN rfl) rfl rfl rfl lk_RX2_212 rfl rfl dX2_priceOf_72 (fun H locs M hw h => ?_)
  refine lv_aload_n hx hb dX2_priceOf_75 rfl (lv_at hl 2 rfl) ?_
  refine xh_getr C hw 67 0 sX_67 (x_lt hN rfl) rfl rfl rfl lk_RX2_12 dX2_priceOf_76 ?_
  refine lv_aload hx hb dX2_priceOf_79 (lv_at hl 1 rfl) ?_
  refine xh_getr C hw 18 0 sX_18 (x_lt hN rfl) rfl rfl rfl lk_RX2_214 dX2_priceOf_81 ?_
  refine lv_iload hx hb dX2_priceOf_84 (lv_at hl 0 rfl) ?_
  refine xh_iald C hw 19 8 h sX_19 (x_lt hN rfl) dX2_priceOf_86 (fun r86 h => ?_)
  refine lv_aload_n hx hb dX2_priceOf_87 rfl (lv_at hl 3 rfl) ?_
  refine xh_geti C hw 1 8 h sX_1 (x_lt hN rfl) rfl rfl rfl lk_RX2_217 dX2_priceOf_88 (fun r88 h => ?_)
  refine lv_isub hx hb dX2_priceOf_91 ?_
  refine xh_puti C hw 68 7 h sX_68 (x_lt hN rfl) rfl rfl rfl lk_RX2_220 rfl rfl dX2_priceOf_92 (fun H locs M hw h => ?_)
  refine lv_aload_n hx hb dX2_priceOf_95 rfl (lv_at hl 2 rfl) ?_
  refine xh_getr C hw 67 0 sX_67 (x_lt hN rfl) rfl rfl rfl lk_RX2_12 dX2_priceOf_96 ?_
  refine lv_aload_n hx hb dX2_priceOf_99 rfl (lv_at hl 3 rfl) ?_
  refine xh_getr C hw 1 2 sX_1 (x_lt hN rfl) rfl rfl rfl lk_RX2_100 dX2_priceOf_100 ?_
  refine lv_aload_n hx hb dX2_priceOf_103 rfl (lv_at hl 3 rfl) ?_
  refine xh_geti C hw 1 8 h sX_1 (x_lt hN rfl) rfl rfl rfl lk_RX2_217 dX2_priceOf_104 (fun r104 h => ?_)
  refine xh_cVr C hw (rest := [_]) h (fun _ hy => c_X9_inForce hq hN hy) ml_RX2_104 mv_X9_inForce sX_16 (x_lt hN rfl) rfl ⟨rfl, rfl, by decide, by decide⟩ rfl hl.1 rfl (Nat.le_of_ble_eq_true rfl) dX2_priceOf_107 (fun H locs r107 M hw h => ?_)
  refine lv_iconst (v := (nI 2)) hx hb dX2_priceOf_110 (by decide) ?_
  refine xh_cVi C hw (rest := []) h (fun _ hy => c_X1_workedOut hq hN hy) ml_RX2_135 mv_X1_workedOut sX_68 (x_lt hN rfl) rfl ⟨rfl, rfl, by decide, by decide⟩ rfl hl.1 rfl (Nat.le_of_ble_eq_true rfl) dX2_priceOf_111 (fun H locs r111 M hw h => ?_)
  refine lv_iconst (v := (nI 0)) hx hb dX2_priceOf_114 (by decide) ?_
  refine lv_ldc hx hb ho (hL _ kc_RX2_139) dX2_priceOf_115 ?_
  refine xh_cNi C hw (n := 3) (rest := []) h (fun _ hy => c_X11_held hq hN hy) (host := "MilesHall") ⟨by decide +kernel, ii_RX11, cd_X11_held⟩ (by decide +kernel) st_X11_held ⟨rfl, rfl, by decide, by decide⟩ rfl hl.1 rfl (Nat.le_of_ble_eq_true rfl) dX2_priceOf_117 (fun H locs r117 M hw h => ?_)
  exact hret dX2_priceOf_120 rfl hw h
def f_X11_isPaid (M : x_M) (a1 : Int32) (a2 : Int32) (a3 : Int32) : Option (Int32 × x_M) := x_gf M 1 8 (fun r17 => x_bn (f_X2_there_67_2 M a1 (nI 1) r17) (fun r20 M => if a2 ≤ r20 then x_gf M 1 8 (fun r46 => x_bn (f_X2_take_67_2 M a1 (nI 1) r46 a2) (fun r50 M => x_gf M 1 8 (fun r64 => x_bn (f_X0_newLine M (nI 1) a1 r64 a2 a3 (nI 0)) (fun r70 M => some ((nI 1), M))))) else some ((nI 0), M)))
abbrev rm_X11_isPaid : Room := { frames := 3, cells := 0, slots := 0, locals := 75 }
set_option maxHeartbeats 4000000 in
set_option maxRecDepth 100000 in
theorem c_X11_isPaid {l : Launch} {D : va_G} {cy : Nat → ClassId} {q ad : Nat → Nat} {NC : Nat} {s0 : State} (hq : x_Q q NC s0.heap.size) (hN : 88 ≤ NC) {M : x_M} {a1 : Int32} {a2 : Int32} {a3 : Int32} {z : Int32 × x_M} (h : f_X11_isPaid M a1 a2 a3 = some z) : x_Ci l D cy q ad x_spX NC s0 yX11_isPaid (x_uw yX11_isPaid cX11_isPaid 4 (some .boolean)) rm_X11_isPaid [.ref (q 0), .int a1, .int a2, .int a3] M z.1 z.2 := by
  refine x_meti hq (by decide) (Nat.le_of_ble_eq_true rfl) ?_
  intro p e s m args below meth c ls Q C hret hl hw
  have hx := C.1.1
  have hb := C.1.2.1
  have ho := C.1.2.2.2.1
  have hL := C.1.2.2.2.2
  have hl : lv_has ls 4 [(0, .ref (q 0)), (1, .int a1), (2, .int a2), (3, .int a3)] := hl
  unfold f_X11_isPaid at h
  refine lv_aload_n hx hb dX11_isPaid_0 rfl (lv_at hl 0 rfl) ?_
  refine xh_getr C hw 0 2 sX_0 (x_lt hN rfl) rfl rfl rfl lk_RX11_22 dX11_isPaid_1 ?_
  refine lv_aload_n hx hb dX11_isPaid_4 rfl (lv_at hl 0 rfl) ?_
  refine xh_getr C hw 0 0 sX_0 (x_lt hN rfl) rfl rfl rfl lk_RX11_12 dX11_isPaid_5 ?_
  refine xh_getr C hw 1 0 sX_1 (x_lt hN rfl) rfl rfl rfl lk_RX11_59 dX11_isPaid_8 ?_
  refine lv_iload_n hx hb dX11_isPaid_11 rfl (lv_at hl 1 rfl) ?_
  refine lv_iconst (v := (nI 1)) hx hb dX11_isPaid_12 (by decide) ?_
  refine lv_aload_n hx hb dX11_isPaid_13 rfl (lv_at hl 0 rfl) ?_
  refine xh_getr C hw 0 0 sX_0 (x_lt hN rfl) rfl rfl rfl lk_RX11_12 dX11_isPaid_14 ?_
  refine xh_geti C hw 1 8 h sX_1 (x_lt hN rfl) rfl rfl rfl lk_RX11_97 dX11_isPaid_17 (fun r17 h => ?_)
  refine xh_cVi C hw (rest := []) h (fun _ hy => c_X2_there_67_2 hq hN hy) ml_RX11_275 mv_X2_there sX_67 (x_lt hN rfl) rfl ⟨rfl, rfl, by decide, by decide⟩ rfl hl.1 rfl (Nat.le_of_ble_eq_true rfl) dX11_isPaid_20 (fun H locs r20 M hw h => ?_)
  refine lv_iload_n hx hb dX11_isPaid_23 rfl (lv_at hl 2 rfl) ?_
  refine x_icmp_ge (tgt := 29) hx hb h dX11_isPaid_24 (by decide) (fun h => ?_) (fun h => ?_)
  · refine lv_aload_n hx hb dX11_isPaid_29 rfl (lv_at hl 0 rfl) ?_
    refine xh_getr C hw 0 2 sX_0 (x_lt hN rfl) rfl rfl rfl lk_RX11_22 dX11_isPaid_30 ?_
    refine lv_aload_n hx hb dX11_isPaid_33 rfl (lv_at hl 0 rfl) ?_
    refine xh_getr C hw 0 0 sX_0 (x_lt hN rfl) rfl rfl rfl lk_RX11_12 dX11_isPaid_34 ?_
    refine xh_getr C hw 1 0 sX_1 (x_lt hN rfl) rfl rfl rfl lk_RX11_59 dX11_isPaid_37 ?_
    refine lv_iload_n hx hb dX11_isPaid_40 rfl (lv_at hl 1 rfl) ?_
    refine lv_iconst (v := (nI 1)) hx hb dX11_isPaid_41 (by decide) ?_
    refine lv_aload_n hx hb dX11_isPaid_42 rfl (lv_at hl 0 rfl) ?_
    refine xh_getr C hw 0 0 sX_0 (x_lt hN rfl) rfl rfl rfl lk_RX11_12 dX11_isPaid_43 ?_
    refine xh_geti C hw 1 8 h sX_1 (x_lt hN rfl) rfl rfl rfl lk_RX11_97 dX11_isPaid_46 (fun r46 h => ?_)
    refine lv_iload_n hx hb dX11_isPaid_49 rfl (lv_at hl 2 rfl) ?_
    refine xh_cVi C hw (rest := []) h (fun _ hy => c_X2_take_67_2 hq hN hy) ml_RX11_279 mv_X2_take sX_67 (x_lt hN rfl) rfl ⟨rfl, rfl, by decide, by decide⟩ rfl hl.1 rfl (Nat.le_of_ble_eq_true rfl) dX11_isPaid_50 (fun H locs r50 M hw h => ?_)
    refine lv_pop hx hb dX11_isPaid_53 rfl ?_
    refine lv_aload_n hx hb dX11_isPaid_54 rfl (lv_at hl 0 rfl) ?_
    refine xh_getr C hw 0 0 sX_0 (x_lt hN rfl) rfl rfl rfl lk_RX11_12 dX11_isPaid_55 ?_
    refine lv_iconst (v := (nI 1)) hx hb dX11_isPaid_58 (by decide) ?_
    refine lv_iload_n hx hb dX11_isPaid_59 rfl (lv_at hl 1 rfl) ?_
    refine lv_aload_n hx hb dX11_isPaid_60 rfl (lv_at hl 0 rfl) ?_
    refine xh_getr C hw 0 0 sX_0 (x_lt hN rfl) rfl rfl rfl lk_RX11_12 dX11_isPaid_61 ?_
    refine xh_geti C hw 1 8 h sX_1 (x_lt hN rfl) rfl rfl rfl lk_RX11_97 dX11_isPaid_64 (fun r64 h => ?_)
    refine lv_iload_n hx hb dX11_isPaid_67 rfl (lv_at hl 2 rfl) ?_
    refine lv_iload_n hx hb dX11_isPaid_68 rfl (lv_at hl 3 rfl) ?_
    refine lv_iconst (v := (nI 0)) hx hb dX11_isPaid_69 (by decide) ?_
    refine xh_cVi C hw (rest := []) h (fun _ hy => c_X0_newLine hq hN hy) ml_RX11_115 mv_X0_newLine sX_1 (x_lt hN rfl) rfl ⟨rfl, rfl, by decide, by decide⟩ rfl hl.1 rfl (Nat.le_of_ble_eq_true rfl) dX11_isPaid_70 (fun H locs r70 M hw h => ?_)
    refine lv_pop hx hb dX11_isPaid_73 rfl ?_
    refine lv_iconst (v := (nI 1)) hx hb dX11_isPaid_74 (by decide) ?_
    exact hret dX11_isPaid_75 rfl hw h
  · refine lv_iconst (v := (nI 0)) hx hb dX11_isPaid_27 (by decide) ?_
    exact hret dX11_isPaid_28 rfl hw h
def f_X11_hasSeatNow_30 (NC : Nat) (M : x_M) : Option (Int32 × x_M) := some ((nI 0), M)
def f_X11_hasSeatNow_89 (NC : Nat) (M : x_M) (v1 : Int32) (v2 : Int32) (v3 : Int32) : Option (Int32 × x_M) := x_rd 8 (M 22) v2 (fun r101 => x_wr 8 M 22 v2 (r101 - (nI 1)) (fun M => x_wr 30 M 26 v1 v3 (fun M => some ((nI 1), M))))
def f_X11_hasSeatNow (NC : Nat) (M : x_M) (a1 : Int32) (a2 : Int32) : Option (Int32 × x_M) := x_rd 8 (M 22) a2 (fun r11 => if r11 ≤ 0 then f_X11_hasSeatNow_30 NC M else x_gf M 6 9 (fun r22 => if r22 < (nI 100) then x_rd 30 (M 85) a1 (fun r46 => x_bn (f_X2_priceOf_67_1 NC M a1 r46) (fun r47 M => if r47 ≤ 0 then f_X11_hasSeatNow_89 NC M a1 a2 r47 else x_rd 30 (M 23) a1 (fun r67 => x_rd 8 (M 21) a2 (fun r80 => x_bn (f_X11_isPaid M r67 r47 r80) (fun r81 M => if r81 = 0 then some ((nI 0), M) else f_X11_hasSeatNow_89 NC M a1 a2 r47))))) else f_X11_hasSeatNow_30 NC M))
abbrev rm_X11_hasSeatNow : Room := { frames := 4, cells := 0, slots := 0, locals := 102 }
set_option maxHeartbeats 4000000 in
set_option maxRecDepth 100000 in
theorem c_X11_hasSeatNow {l : Launch} {D : va_G} {cy : Nat → ClassId} {q ad : Nat → Nat} {NC : Nat} {s0 : State} (hq : x_Q q NC s0.heap.size) (hN : 88 ≤ NC) {M : x_M} {a1 : Int32} {a2 : Int32} {z : Int32 × x_M} (h : f_X11_hasSeatNow NC M a1 a2 = some z) : x_Ci l D cy q ad x_spX NC s0 yX11_hasSeatNow (x_uw yX11_hasSeatNow cX11_hasSeatNow 4 (some .boolean)) rm_X11_hasSeatNow [.ref (q 0), .int a1, .int a2] M z.1 z.2 := by
  refine x_meti hq (by decide) (Nat.le_of_ble_eq_true rfl) ?_
  intro p e s m args below meth c ls Q C hret hl hw
  have hx := C.1.1
  have hb := C.1.2.1
  have ho := C.1.2.2.2.1
  have hL := C.1.2.2.2.2
  have hl : lv_has ls 4 [(0, .ref (q 0)), (1, .int a1), (2, .int a2)] := hl
  have w30 : ∀ (M : x_M) (H : Heap) (locs : List Loc) (ls : Array Slot), x_B D cy q ad x_spX NC s H locs M → lv_has ls 4 [] → f_X11_hasSeatNow_30 NC M = some z → W p l e rm_X11_hasSeatNow s m args below meth c H locs 0 0 Q (F0 m 30 ls []) := by
    intro M H locs ls hw hl h
    unfold f_X11_hasSeatNow_30 at h
    refine lv_iconst (v := (nI 0)) hx hb dX11_hasSeatNow_30 (by decide) ?_
    exact hret dX11_hasSeatNow_31 rfl hw h
  have w89 : ∀ (M : x_M) (v1 : Int32) (v2 : Int32) (v3 : Int32) (H : Heap) (locs : List Loc) (ls : Array Slot), x_B D cy q ad x_spX NC s H locs M → lv_has ls 4 [(0, .ref (q 0)), (1, .int v1), (2, .int v2), (3, .int v3)] → f_X11_hasSeatNow_89 NC M v1 v2 v3 = some z → W p l e rm_X11_hasSeatNow s m args below meth c H locs 0 0 Q (F0 m 89 ls []) := by
    intro M v1 v2 v3 H locs ls hw hl h
    unfold f_X11_hasSeatNow_89 at h
    refine lv_aload_n hx hb dX11_hasSeatNow_89 rfl (lv_at hl 0 rfl) ?_
    refine xh_getr C hw 0 0 sX_0 (x_lt hN rfl) rfl rfl rfl lk_RX11_12 dX11_hasSeatNow_90 ?_
    refine xh_getr C hw 1 3 sX_1 (x_lt hN rfl) rfl rfl rfl lk_RX11_225 dX11_hasSeatNow_93 ?_
    refine xh_getr C hw 18 3 sX_18 (x_lt hN rfl) rfl rfl rfl lk_RX11_262 dX11_hasSeatNow_96 ?_
    refine lv_iload_n hx hb dX11_hasSeatNow_99 rfl (lv_at hl 2 rfl) ?_
    refine lv_dup2_11 hx hb dX11_hasSeatNow_100 rfl rfl ?_
    refine xh_iald C hw 22 8 h sX_22 (x_lt hN rfl) dX11_hasSeatNow_101 (fun r101 h => ?_)
    refine lv_iconst (v := (nI 1)) hx hb dX11_hasSeatNow_102 (by decide) ?_
    refine lv_isub hx hb dX11_hasSeatNow_103 ?_
    refine xh_iast C hw 22 8 h sX_22 (x_lt hN rfl) dX11_hasSeatNow_104 (fun H locs M hw h => ?_)
    refine lv_aload_n hx hb dX11_hasSeatNow_105 rfl (lv_at hl 0 rfl) ?_
    refine xh_getr C hw 0 0 sX_0 (x_lt hN rfl) rfl rfl rfl lk_RX11_12 dX11_hasSeatNow_106 ?_
    refine xh_getr C hw 1 3 sX_1 (x_lt hN rfl) rfl rfl rfl lk_RX11_225 dX11_hasSeatNow_109 ?_
    refine xh_getr C hw 18 7 sX_18 (x_lt hN rfl) rfl rfl rfl lk_RX11_256 dX11_hasSeatNow_112 ?_
    refine lv_iload_n hx hb dX11_hasSeatNow_115 rfl (lv_at hl 1 rfl) ?_
    refine lv_iload_n hx hb dX11_hasSeatNow_116 rfl (lv_at hl 3 rfl) ?_
    refine xh_iast C hw 26 30 h sX_26 (x_lt hN rfl) dX11_hasSeatNow_117 (fun H locs M hw h => ?_)
    refine lv_iconst (v := (nI 1)) hx hb dX11_hasSeatNow_118 (by decide) ?_
    exact hret dX11_hasSeatNow_119 rfl hw h
  unfold f_X11_hasSeatNow at h
  refine lv_aload_n hx hb dX11_hasSeatNow_0 rfl (lv_at hl 0 rfl) ?_
  refine xh_getr C hw 0 0 sX_0 (x_lt hN rfl) rfl rfl rfl lk_RX11_12 dX11_hasSeatNow_1 ?_
  refine xh_getr C hw 1 3 sX_1 (x_lt hN rfl) rfl rfl rfl lk_RX11_225 dX11_hasSeatNow_4 ?_
  refine xh_getr C hw 18 3 sX_18 (x_lt hN rfl) rfl rfl rfl lk_RX11_262 dX11_hasSeatNow_7 ?_
  refine lv_iload_n hx hb dX11_hasSeatNow_10 rfl (lv_at hl 2 rfl) ?_
  refine xh_iald C hw 22 8 h sX_22 (x_lt hN rfl) dX11_hasSeatNow_11 (fun r11 h => ?_)
  refine x_if_le (tgt := 30) hx hb h dX11_hasSeatNow_12 (by decide) (fun h => ?_) (fun h => ?_)
  · exact w30 _ _ _ _ hw (lv_sub hl [] rfl) h
  · refine lv_aload_n hx hb dX11_hasSeatNow_15 rfl (lv_at hl 0 rfl) ?_
    refine xh_getr C hw 0 0 sX_0 (x_lt hN rfl) rfl rfl rfl lk_RX11_12 dX11_hasSeatNow_16 ?_
    refine xh_getr C hw 1 1 sX_1 (x_lt hN rfl) rfl rfl rfl lk_RX11_123 dX11_hasSeatNow_19 ?_
    refine xh_geti C hw 6 9 h sX_6 (x_lt hN rfl) rfl rfl rfl lk_RX11_265 dX11_hasSeatNow_22 (fun r22 h => ?_)
    refine lv_bipush (v := (nI 100)) hx hb dX11_hasSeatNow_25 (by decide) ?_
    refine x_icmp_lt (tgt := 32) hx hb h dX11_hasSeatNow_27 (by decide) (fun h => ?_) (fun h => ?_)
    · refine lv_aload_n hx hb dX11_hasSeatNow_32 rfl (lv_at hl 0 rfl) ?_
      refine xh_getr C hw 0 2 sX_0 (x_lt hN rfl) rfl rfl rfl lk_RX11_22 dX11_hasSeatNow_33 ?_
      refine lv_aload_n hx hb dX11_hasSeatNow_36 rfl (lv_at hl 0 rfl) ?_
      refine xh_getr C hw 0 0 sX_0 (x_lt hN rfl) rfl rfl rfl lk_RX11_12 dX11_hasSeatNow_37 ?_
      refine lv_iload_n hx hb dX11_hasSeatNow_40 rfl (lv_at hl 1 rfl) ?_
      refine lv_aload_n hx hb dX11_hasSeatNow_41 rfl (lv_at hl 0 rfl) ?_
      refine xh_getr C hw 0 6 sX_0 (x_lt hN rfl) rfl rfl rfl lk_RX11_44 dX11_hasSeatNow_42 ?_
      refine lv_iload_n hx hb dX11_hasSeatNow_45 rfl (lv_at hl 1 rfl) ?_
      refine xh_iald C hw 85 30 h sX_85 (x_lt hN rfl) dX11_hasSeatNow_46 (fun r46 h => ?_)
      refine xh_cVi C hw (rest := []) h (fun _ hy => c_X2_priceOf_67_1 hq hN hy) ml_RX11_266 mv_X2_priceOf sX_67 (x_lt hN rfl) rfl ⟨rfl, rfl, by decide, by decide⟩ rfl hl.1 rfl (Nat.le_of_ble_eq_true rfl) dX11_hasSeatNow_47 (fun H locs r47 M hw h => ?_)
      refine lv_istore_n (lv' := [(3, .int _), (0, .ref (q 0)), (1, .int _), (2, .int _)]) hx hb dX11_hasSeatNow_50 rfl hl (by decide) rfl (fun ls hl => ?_)
      refine lv_iload_n hx hb dX11_hasSeatNow_51 rfl (lv_at hl 0 rfl) ?_
      refine x_if_le (tgt := 89) hx hb h dX11_hasSeatNow_52 (by decide) (fun h => ?_) (fun h => ?_)
      · exact w89 _ _ _ _ _ _ _ hw (lv_sub hl [1, 2, 3, 0] rfl) h
      · refine lv_aload_n hx hb dX11_hasSeatNow_55 rfl (lv_at hl 1 rfl) ?_
        refine lv_aload_n hx hb dX11_hasSeatNow_56 rfl (lv_at hl 1 rfl) ?_
        refine xh_getr C hw 0 0 sX_0 (x_lt hN rfl) rfl rfl rfl lk_RX11_12 dX11_hasSeatNow_57 ?_
        refine xh_getr C hw 1 3 sX_1 (x_lt hN rfl) rfl rfl rfl lk_RX11_225 dX11_hasSeatNow_60 ?_
        refine xh_getr C hw 18 4 sX_18 (x_lt hN rfl) rfl rfl rfl lk_RX11_259 dX11_hasSeatNow_63 ?_
        refine lv_iload_n hx hb dX11_hasSeatNow_66 rfl (lv_at hl 2 rfl) ?_
        refine xh_iald C hw 23 30 h sX_23 (x_lt hN rfl) dX11_hasSeatNow_67 (fun r67 h => ?_)
        refine lv_iload_n hx hb dX11_hasSeatNow_68 rfl (lv_at hl 0 rfl) ?_
        refine lv_aload_n hx hb dX11_hasSeatNow_69 rfl (lv_at hl 1 rfl) ?_
        refine xh_getr C hw 0 0 sX_0 (x_lt hN rfl) rfl rfl rfl lk_RX11_12 dX11_hasSeatNow_70 ?_
        refine xh_getr C hw 1 3 sX_1 (x_lt hN rfl) rfl rfl rfl lk_RX11_225 dX11_hasSeatNow_73 ?_
        refine xh_getr C hw 18 2 sX_18 (x_lt hN rfl) rfl rfl rfl lk_RX11_269 dX11_hasSeatNow_76 ?_
        refine lv_iload_n hx hb dX11_hasSeatNow_79 rfl (lv_at hl 3 rfl) ?_
        refine xh_iald C hw 21 8 h sX_21 (x_lt hN rfl) dX11_hasSeatNow_80 (fun r80 h => ?_)
        refine xh_cVi C hw (rest := []) h (fun _ hy => c_X11_isPaid hq hN hy) ml_RX11_272 mv_X11_isPaid sX_0 (x_lt hN rfl) rfl ⟨rfl, rfl, by decide, by decide⟩ rfl hl.1 rfl (Nat.le_of_ble_eq_true rfl) dX11_hasSeatNow_81 (fun H locs r81 M hw h => ?_)
        refine x_if_ne (tgt := 89) hx hb h dX11_hasSeatNow_84 (by decide) (fun h => ?_) (fun h => ?_)
        · refine lv_iconst (v := (nI 0)) hx hb dX11_hasSeatNow_87 (by decide) ?_
          exact hret dX11_hasSeatNow_88 rfl hw h
        · exact w89 _ _ _ _ _ _ _ hw (lv_sub hl [1, 2, 3, 0] rfl) h
    · exact w30 _ _ _ _ hw (lv_sub hl [] rfl) h
def f_X11_settle_116 (NC : Nat) (k70 : x_M → Int32 → Int32 → Int32 → Option (Int32 × x_M)) (k77 : x_M → Int32 → Int32 → Int32 → Int32 → Option (Int32 × x_M)) (M : x_M) (v1 : Int32) (v2 : Int32) (v3 : Int32) (v4 : Int32) : Option (Int32 × x_M) := k77 M v1 v2 v3 (v4 + (nI 1))
def f_X11_settle_77 (NC : Nat) (k70 : x_M → Int32 → Int32 → Int32 → Option (Int32 × x_M)) : Nat → x_M → Int32 → Int32 → Int32 → Int32 → Option (Int32 × x_M)
  | 0, _, _, _, _, _ => none
  | n + 1, M, v1, v2, v3, v4 => x_gf M 18 9 (fun r86 => if r86 ≤ v4 then k70 M v1 v2 (v3 + (-1)) else x_rd 30 (M 85) v4 (fun r98 => if r98 = v3 then x_bn (f_X11_hasSeatNow NC M v4 v1) (fun r107 M => if r107 = 0 then f_X11_settle_116 NC k70 (f_X11_settle_77 NC k70 n) M v1 v2 v3 v4 else f_X11_settle_116 NC k70 (f_X11_settle_77 NC k70 n) M v1 (v2 + (nI 1)) v3 v4) else f_X11_settle_116 NC k70 (f_X11_settle_77 NC k70 n) M v1 v2 v3 v4))
theorem f_X11_settle_77_0 (NC : Nat) (k70 : x_M → Int32 → Int32 → Int32 → Option (Int32 × x_M)) (M : x_M) (v1 : Int32) (v2 : Int32) (v3 : Int32) (v4 : Int32) : f_X11_settle_77 NC k70 0 M v1 v2 v3 v4 = none := rfl
theorem f_X11_settle_77_s (NC : Nat) (k70 : x_M → Int32 → Int32 → Int32 → Option (Int32 × x_M)) (n : Nat) (M : x_M) (v1 : Int32) (v2 : Int32) (v3 : Int32) (v4 : Int32) : f_X11_settle_77 NC k70 (n + 1) M v1 v2 v3 v4 = (x_gf M 18 9 (fun r86 => if r86 ≤ v4 then k70 M v1 v2 (v3 + (-1)) else x_rd 30 (M 85) v4 (fun r98 => if r98 = v3 then x_bn (f_X11_hasSeatNow NC M v4 v1) (fun r107 M => if r107 = 0 then f_X11_settle_116 NC k70 (f_X11_settle_77 NC k70 n) M v1 v2 v3 v4 else f_X11_settle_116 NC k70 (f_X11_settle_77 NC k70 n) M v1 (v2 + (nI 1)) v3 v4) else f_X11_settle_116 NC k70 (f_X11_settle_77 NC k70 n) M v1 v2 v3 v4))) := rfl
def f_X11_settle_70 (NC : Nat) : Nat → x_M → Int32 → Int32 → Int32 → Option (Int32 × x_M)
  | 0, _, _, _, _ => none
  | n + 1, M, v1, v2, v3 => if v3 < 0 then some (v2, M) else f_X11_settle_77 NC (f_X11_settle_70 NC n) x_FU M v1 v2 v3 (nI 0)
theorem f_X11_settle_70_0 (NC : Nat) (M : x_M) (v1 : Int32) (v2 : Int32) (v3 : Int32) : f_X11_settle_70 NC 0 M v1 v2 v3 = none := rfl
theorem f_X11_settle_70_s (NC : Nat) (n : Nat) (M : x_M) (v1 : Int32) (v2 : Int32) (v3 : Int32) : f_X11_settle_70 NC (n + 1) M v1 v2 v3 = (if v3 < 0 then some (v2, M) else f_X11_settle_77 NC (f_X11_settle_70 NC n) x_FU M v1 v2 v3 (nI 0)) := rfl
def f_X11_settle (NC : Nat) (M : x_M) (a1 : Int32) : Option (Int32 × x_M) := x_bn (f_X11_isFlight M a1) (fun r2 M => if r2 = 0 then some ((-1000000001), M) else x_rd 8 (M 19) a1 (fun r22 => x_gf M 1 8 (fun r27 => if r27 < r22 then x_gf M 1 8 (fun r48 => x_gf M 1 8 (fun r55 => x_bn (f_X2_goThrough_67_1 NC M r48 r55) (fun _ M => x_bn (f_X11_rankAsks NC M a1) (fun _ M => f_X11_settle_70 NC x_FU M a1 (nI 0) (nI 3))))) else some ((-1000000002), M))))
abbrev rm_X11_settle : Room := { frames := 7, cells := 0, slots := 0, locals := 183 }
set_option maxHeartbeats 4000000 in
set_option maxRecDepth 100000 in
theorem c_X11_settle {l : Launch} {D : va_G} {cy : Nat → ClassId} {q ad : Nat → Nat} {NC : Nat} {s0 : State} (hq : x_Q q NC s0.heap.size) (hN : 88 ≤ NC) {M : x_M} {a1 : Int32} {z : Int32 × x_M} (h : f_X11_settle NC M a1 = some z) : x_Ci l D cy q ad x_spX NC s0 yX11_settle (x_uw yX11_settle cX11_settle 5 (some .int)) rm_X11_settle [.ref (q 0), .int a1] M z.1 z.2 := by
  refine x_meti hq (by decide) (Nat.le_of_ble_eq_true rfl) ?_
  intro p e s m args below meth c ls Q C hret hl hw
  have hx := C.1.1
  have hb := C.1.2.1
  have ho := C.1.2.2.2.1
  have hL := C.1.2.2.2.2
  have hl : lv_has ls 5 [(0, .ref (q 0)), (1, .int a1)] := hl
  have w70 : ∀ (n : Nat) (M : x_M) (v1 : Int32) (v2 : Int32) (v3 : Int32) (H : Heap) (locs : List Loc) (ls : Array Slot), x_B D cy q ad x_spX NC s H locs M → lv_has ls 5 [(0, .ref (q 0)), (1, .int v1), (2, .int v2), (3, .int v3)] → f_X11_settle_70 NC n M v1 v2 v3 = some z → W p l e rm_X11_settle s m args below meth c H locs 0 0 Q (F0 m 70 ls []) := by
    intro n
    induction n with
    | zero =>
      intro M v1 v2 v3 H locs ls hw hl h
      rw [f_X11_settle_70_0] at h
      cases h
    | succ n70 ih70 =>
      have w77 : ∀ (n : Nat) (M : x_M) (v1 : Int32) (v2 : Int32) (v3 : Int32) (v4 : Int32) (H : Heap) (locs : List Loc) (ls : Array Slot), x_B D cy q ad x_spX NC s H locs M → lv_has ls 5 [(0, .ref (q 0)), (1, .int v1), (2, .int v2), (3, .int v3), (4, .int v4)] → f_X11_settle_77 NC (f_X11_settle_70 NC n70) n M v1 v2 v3 v4 = some z → W p l e rm_X11_settle s m args below meth c H locs 0 0 Q (F0 m 77 ls []) := by
        intro n
        induction n with
        | zero =>
          intro M v1 v2 v3 v4 H locs ls hw hl h
          rw [f_X11_settle_77_0] at h
          cases h
        | succ n77 ih77 =>
          have w116 : ∀ (M : x_M) (v1 : Int32) (v2 : Int32) (v3 : Int32) (v4 : Int32) (H : Heap) (locs : List Loc) (ls : Array Slot), x_B D cy q ad x_spX NC s H locs M → lv_has ls 5 [(0, .ref (q 0)), (1, .int v1), (2, .int v2), (3, .int v3), (4, .int v4)] → f_X11_settle_116 NC (f_X11_settle_70 NC n70) (f_X11_settle_77 NC (f_X11_settle_70 NC n70) n77) M v1 v2 v3 v4 = some z → W p l e rm_X11_settle s m args below meth c H locs 0 0 Q (F0 m 116 ls []) := by
            intro M v1 v2 v3 v4 H locs ls hw hl h
            unfold f_X11_settle_116 at h
            refine lv_iinc (lv' := [(4, .int _), (0, .ref (q 0)), (1, .int _), (2, .int _), (3, .int _)]) hx hb dX11_settle_116 hl (k := 4) rfl (x_inc (show Int32.ofInt 1 = (nI 1) by decide) _) (by decide) rfl (fun ls hl => ?_)
            refine lv_goto (tgt := 77) hx hb dX11_settle_119 (by decide) ?_
            exact ih77 _ _ _ _ _ _ _ _ hw (lv_sub hl [1, 2, 3, 4, 0] rfl) h
          intro M v1 v2 v3 v4 H locs ls hw hl h
          rw [f_X11_settle_77_s] at h
          refine lv_iload hx hb dX11_settle_77 (lv_at hl 4 rfl) ?_
          refine lv_aload_n hx hb dX11_settle_79 rfl (lv_at hl 0 rfl) ?_
          refine xh_getr C hw 0 0 sX_0 (x_lt hN rfl) rfl rfl rfl lk_RX11_12 dX11_settle_80 ?_
          refine xh_getr C hw 1 3 sX_1 (x_lt hN rfl) rfl rfl rfl lk_RX11_225 dX11_settle_83 ?_
          refine xh_geti C hw 18 9 h sX_18 (x_lt hN rfl) rfl rfl rfl lk_RX11_247 dX11_settle_86 (fun r86 h => ?_)
          refine x_icmp_ge (tgt := 122) hx hb h dX11_settle_89 (by decide) (fun h => ?_) (fun h => ?_)
          · refine lv_iinc (lv' := [(3, .int _), (0, .ref (q 0)), (1, .int _), (2, .int _), (4, .int _)]) hx hb dX11_settle_122 hl (k := 3) rfl (x_inc (show Int32.ofInt (-1) = (-1) by decide) _) (by decide) rfl (fun ls hl => ?_)
            refine lv_goto (tgt := 70) hx hb dX11_settle_125 (by decide) ?_
            exact ih70 _ _ _ _ _ _ _ hw (lv_sub hl [1, 2, 3, 0] rfl) h
          · refine lv_aload_n hx hb dX11_settle_92 rfl (lv_at hl 0 rfl) ?_
            refine xh_getr C hw 0 6 sX_0 (x_lt hN rfl) rfl rfl rfl lk_RX11_44 dX11_settle_93 ?_
            refine lv_iload hx hb dX11_settle_96 (lv_at hl 4 rfl) ?_
            refine xh_iald C hw 85 30 h sX_85 (x_lt hN rfl) dX11_settle_98 (fun r98 h => ?_)
            refine lv_iload_n hx hb dX11_settle_99 rfl (lv_at hl 3 rfl) ?_
            refine x_icmp_ne (tgt := 116) hx hb h dX11_settle_100 (by decide) (fun h => ?_) (fun h => ?_)
            · refine lv_aload_n hx hb dX11_settle_103 rfl (lv_at hl 0 rfl) ?_
              refine lv_iload hx hb dX11_settle_104 (lv_at hl 4 rfl) ?_
              refine lv_iload_n hx hb dX11_settle_106 rfl (lv_at hl 1 rfl) ?_
              refine xh_cVi C hw (rest := []) h (fun _ hy => c_X11_hasSeatNow hq hN hy) ml_RX11_250 mv_X11_hasSeatNow sX_0 (x_lt hN rfl) rfl ⟨rfl, rfl, by decide, by decide⟩ rfl hl.1 rfl (Nat.le_of_ble_eq_true rfl) dX11_settle_107 (fun H locs r107 M hw h => ?_)
              refine x_if_eq (tgt := 116) hx hb h dX11_settle_110 (by decide) (fun h => ?_) (fun h => ?_)
              · exact w116 _ _ _ _ _ _ _ _ hw (lv_sub hl [0, 1, 2, 3, 4] rfl) h
              · refine lv_iinc (lv' := [(2, .int _), (0, .ref (q 0)), (1, .int _), (3, .int _), (4, .int _)]) hx hb dX11_settle_113 hl (k := 2) rfl (x_inc (show Int32.ofInt 1 = (nI 1) by decide) _) (by decide) rfl (fun ls hl => ?_)
                exact w116 _ _ _ _ _ _ _ _ hw (lv_sub hl [1, 2, 0, 3, 4] rfl) h
            · exact w116 _ _ _ _ _ _ _ _ hw (lv_sub hl [0, 1, 2, 3, 4] rfl) h
      intro M v1 v2 v3 H locs ls hw hl h
      rw [f_X11_settle_70_s] at h
      refine lv_iload_n hx hb dX11_settle_70 rfl (lv_at hl 3 rfl) ?_
      refine x_if_lt (tgt := 128) hx hb h dX11_settle_71 (by decide) (fun h => ?_) (fun h => ?_)
      · refine lv_iload_n hx hb dX11_settle_128 rfl (lv_at hl 2 rfl) ?_
        exact hret dX11_settle_129 rfl hw h
      · refine lv_iconst (v := (nI 0)) hx hb dX11_settle_74 (by decide) ?_
        refine lv_istore (lv' := [(4, .int _), (0, .ref (q 0)), (1, .int _), (2, .int _), (3, .int _)]) hx hb dX11_settle_75 hl (by decide) rfl (fun ls hl => ?_)
        exact w77 _ _ _ _ _ _ _ _ _ hw (lv_sub hl [1, 2, 3, 4, 0] rfl) h
  unfold f_X11_settle at h
  refine lv_aload_n hx hb dX11_settle_0 rfl (lv_at hl 0 rfl) ?_
  refine lv_iload_n hx hb dX11_settle_1 rfl (lv_at hl 1 rfl) ?_
  refine xh_cVi C hw (rest := []) h (fun _ hy => c_X11_isFlight hq hN hy) ml_RX11_235 mv_X11_isFlight sX_0 (x_lt hN rfl) rfl ⟨rfl, rfl, by decide, by decide⟩ rfl hl.1 rfl (Nat.le_of_ble_eq_true rfl) dX11_settle_2 (fun H locs r2 M hw h => ?_)
  refine x_if_ne (tgt := 11) hx hb h dX11_settle_5 (by decide) (fun h => ?_) (fun h => ?_)
  · refine lv_ldc hx hb ho (hL _ kc_RX11_58) dX11_settle_8 ?_
    exact hret dX11_settle_10 rfl hw h
  · refine lv_aload_n hx hb dX11_settle_11 rfl (lv_at hl 0 rfl) ?_
    refine xh_getr C hw 0 0 sX_0 (x_lt hN rfl) rfl rfl rfl lk_RX11_12 dX11_settle_12 ?_
    refine xh_getr C hw 1 3 sX_1 (x_lt hN rfl) rfl rfl rfl lk_RX11_225 dX11_settle_15 ?_
    refine xh_getr C hw 18 0 sX_18 (x_lt hN rfl) rfl rfl rfl lk_RX11_238 dX11_settle_18 ?_
    refine lv_iload_n hx hb dX11_settle_21 rfl (lv_at hl 1 rfl) ?_
    refine xh_iald C hw 19 8 h sX_19 (x_lt hN rfl) dX11_settle_22 (fun r22 h => ?_)
    refine lv_aload_n hx hb dX11_settle_23 rfl (lv_at hl 0 rfl) ?_
    refine xh_getr C hw 0 0 sX_0 (x_lt hN rfl) rfl rfl rfl lk_RX11_12 dX11_settle_24 ?_
    refine xh_geti C hw 1 8 h sX_1 (x_lt hN rfl) rfl rfl rfl lk_RX11_97 dX11_settle_27 (fun r27 h => ?_)
    refine x_icmp_gt (tgt := 36) hx hb h dX11_settle_30 (by decide) (fun h => ?_) (fun h => ?_)
    · refine lv_aload_n hx hb dX11_settle_36 rfl (lv_at hl 0 rfl) ?_
      refine xh_getr C hw 0 2 sX_0 (x_lt hN rfl) rfl rfl rfl lk_RX11_22 dX11_settle_37 ?_
      refine lv_aload_n hx hb dX11_settle_40 rfl (lv_at hl 0 rfl) ?_
      refine xh_getr C hw 0 0 sX_0 (x_lt hN rfl) rfl rfl rfl lk_RX11_12 dX11_settle_41 ?_
      refine lv_aload_n hx hb dX11_settle_44 rfl (lv_at hl 0 rfl) ?_
      refine xh_getr C hw 0 0 sX_0 (x_lt hN rfl) rfl rfl rfl lk_RX11_12 dX11_settle_45 ?_
      refine xh_geti C hw 1 8 h sX_1 (x_lt hN rfl) rfl rfl rfl lk_RX11_97 dX11_settle_48 (fun r48 h => ?_)
      refine lv_aload_n hx hb dX11_settle_51 rfl (lv_at hl 0 rfl) ?_
      refine xh_getr C hw 0 0 sX_0 (x_lt hN rfl) rfl rfl rfl lk_RX11_12 dX11_settle_52 ?_
      refine xh_geti C hw 1 8 h sX_1 (x_lt hN rfl) rfl rfl rfl lk_RX11_97 dX11_settle_55 (fun r55 h => ?_)
      refine xh_cVv C hw (rest := []) h (fun _ hy => c_X2_goThrough_67_1 hq hN hy) ml_RX11_154 mv_X2_goThrough sX_67 (x_lt hN rfl) rfl ⟨rfl, rfl, by decide, by decide⟩ rfl hl.1 rfl (Nat.le_of_ble_eq_true rfl) dX11_settle_58 (fun H locs _ M hw h => ?_)
      refine lv_aload_n hx hb dX11_settle_61 rfl (lv_at hl 0 rfl) ?_
      refine lv_iload_n hx hb dX11_settle_62 rfl (lv_at hl 1 rfl) ?_
      refine xh_cVv C hw (rest := []) h (fun _ hy => c_X11_rankAsks hq hN hy) ml_RX11_244 mv_X11_rankAsks sX_0 (x_lt hN rfl) rfl ⟨rfl, rfl, by decide, by decide⟩ rfl hl.1 rfl (Nat.le_of_ble_eq_true rfl) dX11_settle_63 (fun H locs _ M hw h => ?_)
      refine lv_iconst (v := (nI 0)) hx hb dX11_settle_66 (by decide) ?_
      refine lv_istore_n (lv' := [(2, .int _), (0, .ref (q 0)), (1, .int _)]) hx hb dX11_settle_67 rfl hl (by decide) rfl (fun ls hl => ?_)
      refine lv_iconst (v := (nI 3)) hx hb dX11_settle_68 (by decide) ?_
      refine lv_istore_n (lv' := [(3, .int _), (2, .int _), (0, .ref (q 0)), (1, .int _)]) hx hb dX11_settle_69 rfl hl (by decide) rfl (fun ls hl => ?_)
      exact w70 _ _ _ _ _ _ _ _ hw (lv_sub hl [2, 3, 1, 0] rfl) h
    · refine lv_ldc hx hb ho (hL _ kc_RX11_144) dX11_settle_33 ?_
      exact hret dX11_settle_35 rfl hw h
def f_X11_asked (M : x_M) (a1 : Int32) (a2 : Int32) : Option (Int32 × x_M) := x_gf M 18 9 (fun r11 => x_bn (f_X11_within M a1 (nI 0) (r11 - (nI 1))) (fun r16 M => if r16 = 0 then some ((-1000000001), M) else if a2 = (nI 0) then x_rd 30 (M 23) a1 (fun r65 => some (r65, M)) else if a2 = (nI 1) then x_rd 30 (M 24) a1 (fun r72 => some (r72, M)) else if a2 = (nI 2) then x_rd 30 (M 25) a1 (fun r79 => some (r79, M)) else if a2 = (nI 3) then x_rd 30 (M 26) a1 (fun r86 => if r86 = (-1000000005) then some ((nI 0), M) else some ((nI 1), M)) else if a2 = (nI 4) then x_rd 30 (M 26) a1 (fun r103 => some (r103, M)) else some ((-1000000001), M)))
abbrev rm_X11_asked : Room := { frames := 1, cells := 0, slots := 0, locals := 22 }
set_option maxHeartbeats 4000000 in
set_option maxRecDepth 100000 in
theorem c_X11_asked {l : Launch} {D : va_G} {cy : Nat → ClassId} {q ad : Nat → Nat} {NC : Nat} {s0 : State} (hq : x_Q q NC s0.heap.size) (hN : 88 ≤ NC) {M : x_M} {a1 : Int32} {a2 : Int32} {z : Int32 × x_M} (h : f_X11_asked M a1 a2 = some z) : x_Ci l D cy q ad x_spX NC s0 yX11_asked (x_uw yX11_asked cX11_asked 4 (some .int)) rm_X11_asked [.ref (q 0), .int a1, .int a2] M z.1 z.2 := by
  refine x_meti hq (by decide) (Nat.le_of_ble_eq_true rfl) ?_
  intro p e s m args below meth c ls Q C hret hl hw
  have hx := C.1.1
  have hb := C.1.2.1
  have ho := C.1.2.2.2.1
  have hL := C.1.2.2.2.2
  have hl : lv_has ls 4 [(0, .ref (q 0)), (1, .int a1), (2, .int a2)] := hl
  unfold f_X11_asked at h
  refine lv_aload_n hx hb dX11_asked_0 rfl (lv_at hl 0 rfl) ?_
  refine xh_getr C hw 0 0 sX_0 (x_lt hN rfl) rfl rfl rfl lk_RX11_12 dX11_asked_1 ?_
  refine xh_getr C hw 1 3 sX_1 (x_lt hN rfl) rfl rfl rfl lk_RX11_225 dX11_asked_4 ?_
  refine lv_astore_n (lv' := [(3, .ref (q 18)), (0, .ref (q 0)), (1, .int _), (2, .int _)]) hx hb dX11_asked_7 rfl hl (by decide) rfl (fun ls hl => ?_)
  refine lv_iload_n hx hb dX11_asked_8 rfl (lv_at hl 2 rfl) ?_
  refine lv_iconst (v := (nI 0)) hx hb dX11_asked_9 (by decide) ?_
  refine lv_aload_n hx hb dX11_asked_10 rfl (lv_at hl 0 rfl) ?_
  refine xh_geti C hw 18 9 h sX_18 (x_lt hN rfl) rfl rfl rfl lk_RX11_247 dX11_asked_11 (fun r11 h => ?_)
  refine lv_iconst (v := (nI 1)) hx hb dX11_asked_14 (by decide) ?_
  refine lv_isub hx hb dX11_asked_15 ?_
  refine xh_cSi C hw (rest := []) h (fun _ hy => c_X11_within hq hN hy) ml_RX11_54 st_X11_within ⟨rfl, rfl, by decide, by decide⟩ rfl hl.1 rfl (Nat.le_of_ble_eq_true rfl) dX11_asked_16 (fun H locs r16 M hw h => ?_)
  refine x_if_ne (tgt := 25) hx hb h dX11_asked_19 (by decide) (fun h => ?_) (fun h => ?_)
  · refine lv_ldc hx hb ho (hL _ kc_RX11_58) dX11_asked_22 ?_
    exact hret dX11_asked_24 rfl hw h
  · refine lv_iload_n hx hb dX11_asked_25 rfl (lv_at hl 3 rfl) ?_
    refine (Decidable.em (a2 = (nI 0))).elim (fun c26_0 => ?_) (fun c26_0 => ?_)
    · rw [if_pos c26_0] at h
      rw [c26_0]
      refine lv_tableIn (off := 34) (tgt := 60) hx hb dX11_asked_26 (by decide) (by decide) (by decide) (by decide) ?_
      refine lv_aload_n hx hb dX11_asked_60 rfl (lv_at hl 0 rfl) ?_
      refine xh_getr C hw 18 4 sX_18 (x_lt hN rfl) rfl rfl rfl lk_RX11_259 dX11_asked_61 ?_
      refine lv_iload_n hx hb dX11_asked_64 rfl (lv_at hl 2 rfl) ?_
      refine xh_iald C hw 23 30 h sX_23 (x_lt hN rfl) dX11_asked_65 (fun r65 h => ?_)
      exact hret dX11_asked_66 rfl hw h
    rw [if_neg c26_0] at h
    refine (Decidable.em (a2 = (nI 1))).elim (fun c26_1 => ?_) (fun c26_1 => ?_)
    · rw [if_pos c26_1] at h
      rw [c26_1]
      refine lv_tableIn (off := 41) (tgt := 67) hx hb dX11_asked_26 (by decide) (by decide) (by decide) (by decide) ?_
      refine lv_aload_n hx hb dX11_asked_67 rfl (lv_at hl 0 rfl) ?_
      refine xh_getr C hw 18 5 sX_18 (x_lt hN rfl) rfl rfl rfl lk_RX11_253 dX11_asked_68 ?_
      refine lv_iload_n hx hb dX11_asked_71 rfl (lv_at hl 2 rfl) ?_
      refine xh_iald C hw 24 30 h sX_24 (x_lt hN rfl) dX11_asked_72 (fun r72 h => ?_)
      exact hret dX11_asked_73 rfl hw h
    rw [if_neg c26_1] at h
    refine (Decidable.em (a2 = (nI 2))).elim (fun c26_2 => ?_) (fun c26_2 => ?_)
    · rw [if_pos c26_2] at h
      rw [c26_2]
      refine lv_tableIn (off := 48) (tgt := 74) hx hb dX11_asked_26 (by decide) (by decide) (by decide) (by decide) ?_
      refine lv_aload_n hx hb dX11_asked_74 rfl (lv_at hl 0 rfl) ?_
      refine xh_getr C hw 18 6 sX_18 (x_lt hN rfl) rfl rfl rfl lk_RX11_283 dX11_asked_75 ?_
      refine lv_iload_n hx hb dX11_asked_78 rfl (lv_at hl 2 rfl) ?_
      refine xh_iald C hw 25 30 h sX_25 (x_lt hN rfl) dX11_asked_79 (fun r79 h => ?_)
      exact hret dX11_asked_80 rfl hw h
    rw [if_neg c26_2] at h
    refine (Decidable.em (a2 = (nI 3))).elim (fun c26_3 => ?_) (fun c26_3 => ?_)
    · rw [if_pos c26_3] at h
      rw [c26_3]
      refine lv_tableIn (off := 55) (tgt := 81) hx hb dX11_asked_26 (by decide) (by decide) (by decide) (by decide) ?_
      refine lv_aload_n hx hb dX11_asked_81 rfl (lv_at hl 0 rfl) ?_
      refine xh_getr C hw 18 7 sX_18 (x_lt hN rfl) rfl rfl rfl lk_RX11_256 dX11_asked_82 ?_
      refine lv_iload_n hx hb dX11_asked_85 rfl (lv_at hl 2 rfl) ?_
      refine xh_iald C hw 26 30 h sX_26 (x_lt hN rfl) dX11_asked_86 (fun r86 h => ?_)
      refine lv_ldc hx hb ho (hL _ kc_RX11_77) dX11_asked_87 ?_
      refine x_icmp_ne (tgt := 96) hx hb h dX11_asked_89 (by decide) (fun h => ?_) (fun h => ?_)
      · refine lv_iconst (v := (nI 0)) hx hb dX11_asked_92 (by decide) ?_
        refine lv_goto (tgt := 97) hx hb dX11_asked_93 (by decide) ?_
        exact hret dX11_asked_97 rfl hw h
      · refine lv_iconst (v := (nI 1)) hx hb dX11_asked_96 (by decide) ?_
        exact hret dX11_asked_97 rfl hw h
    rw [if_neg c26_3] at h
    refine (Decidable.em (a2 = (nI 4))).elim (fun c26_4 => ?_) (fun c26_4 => ?_)
    · rw [if_pos c26_4] at h
      rw [c26_4]
      refine lv_tableIn (off := 72) (tgt := 98) hx hb dX11_asked_26 (by decide) (by decide) (by decide) (by decide) ?_
      refine lv_aload_n hx hb dX11_asked_98 rfl (lv_at hl 0 rfl) ?_
      refine xh_getr C hw 18 7 sX_18 (x_lt hN rfl) rfl rfl rfl lk_RX11_256 dX11_asked_99 ?_
      refine lv_iload_n hx hb dX11_asked_102 rfl (lv_at hl 2 rfl) ?_
      refine xh_iald C hw 26 30 h sX_26 (x_lt hN rfl) dX11_asked_103 (fun r103 h => ?_)
      exact hret dX11_asked_104 rfl hw h
    rw [if_neg c26_4] at h
    refine lv_tableOut (tgt := 105) hx hb dX11_asked_26 (by have e0 := lv_neT c26_0 (show ((nI 0) : Int32).toInt = 0 by decide); have e1 := lv_neT c26_1 (show ((nI 1) : Int32).toInt = 1 by decide); have e2 := lv_neT c26_2 (show ((nI 2) : Int32).toInt = 2 by decide); have e3 := lv_neT c26_3 (show ((nI 3) : Int32).toInt = 3 by decide); have e4 := lv_neT c26_4 (show ((nI 4) : Int32).toInt = 4 by decide); omega) (by decide) ?_
    refine lv_ldc hx hb ho (hL _ kc_RX11_58) dX11_asked_105 ?_
    exact hret dX11_asked_107 rfl hw h
def f_X11_open (M : x_M) (a1 : Int32) : Option (Int32 × x_M) := x_bn (f_X11_isFlight M a1) (fun r2 M => if r2 = 0 then some ((-1000000001), M) else x_rd 8 (M 22) a1 (fun r19 => some (r19, M)))
abbrev rm_X11_open : Room := { frames := 2, cells := 0, slots := 0, locals := 43 }
set_option maxHeartbeats 4000000 in
set_option maxRecDepth 100000 in
theorem c_X11_open {l : Launch} {D : va_G} {cy : Nat → ClassId} {q ad : Nat → Nat} {NC : Nat} {s0 : State} (hq : x_Q q NC s0.heap.size) (hN : 88 ≤ NC) {M : x_M} {a1 : Int32} {z : Int32 × x_M} (h : f_X11_open M a1 = some z) : x_Ci l D cy q ad x_spX NC s0 yX11_open (x_uw yX11_open cX11_open 2 (some .int)) rm_X11_open [.ref (q 0), .int a1] M z.1 z.2 := by
  refine x_meti hq (by decide) (Nat.le_of_ble_eq_true rfl) ?_
  intro p e s m args below meth c ls Q C hret hl hw
  have hx := C.1.1
  have hb := C.1.2.1
  have ho := C.1.2.2.2.1
  have hL := C.1.2.2.2.2
  have hl : lv_has ls 2 [(0, .ref (q 0)), (1, .int a1)] := hl
  unfold f_X11_open at h
  refine lv_aload_n hx hb dX11_open_0 rfl (lv_at hl 0 rfl) ?_
  refine lv_iload_n hx hb dX11_open_1 rfl (lv_at hl 1 rfl) ?_
  refine xh_cVi C hw (rest := []) h (fun _ hy => c_X11_isFlight hq hN hy) ml_RX11_235 mv_X11_isFlight sX_0 (x_lt hN rfl) rfl ⟨rfl, rfl, by decide, by decide⟩ rfl hl.1 rfl (Nat.le_of_ble_eq_true rfl) dX11_open_2 (fun H locs r2 M hw h => ?_)
  refine x_if_eq (tgt := 23) hx hb h dX11_open_5 (by decide) (fun h => ?_) (fun h => ?_)
  · refine lv_ldc hx hb ho (hL _ kc_RX11_58) dX11_open_23 ?_
    exact hret dX11_open_25 rfl hw h
  · refine lv_aload_n hx hb dX11_open_8 rfl (lv_at hl 0 rfl) ?_
    refine xh_getr C hw 0 0 sX_0 (x_lt hN rfl) rfl rfl rfl lk_RX11_12 dX11_open_9 ?_
    refine xh_getr C hw 1 3 sX_1 (x_lt hN rfl) rfl rfl rfl lk_RX11_225 dX11_open_12 ?_
    refine xh_getr C hw 18 3 sX_18 (x_lt hN rfl) rfl rfl rfl lk_RX11_262 dX11_open_15 ?_
    refine lv_iload_n hx hb dX11_open_18 rfl (lv_at hl 1 rfl) ?_
    refine xh_iald C hw 22 8 h sX_22 (x_lt hN rfl) dX11_open_19 (fun r19 h => ?_)
    refine lv_goto (tgt := 25) hx hb dX11_open_20 (by decide) ?_
    exact hret dX11_open_25 rfl hw h
def f_X10_forget (M : x_M) : Option (Unit × x_M) := x_pf M 78 1 (-1) (fun M => some ((), M))
abbrev rm_X10_forget : Room := { frames := 0, cells := 0, slots := 0, locals := 0 }
set_option maxHeartbeats 4000000 in
set_option maxRecDepth 100000 in
theorem c_X10_forget {l : Launch} {D : va_G} {cy : Nat → ClassId} {q ad : Nat → Nat} {NC : Nat} {s0 : State} (hq : x_Q q NC s0.heap.size) (hN : 88 ≤ NC) {M : x_M} {z : Unit × x_M} (h : f_X10_forget M = some z) : x_Cv l D cy q ad x_spX NC s0 yX10_forget (x_uw yX10_forget cX10_forget 1 none) rm_X10_forget [.ref (q 78)] M z.2 := by
  refine x_metv hq (by decide) (Nat.le_of_ble_eq_true rfl) ?_
  intro p e s m args below meth c ls Q C hret hl hw
  have hx := C.1.1
  have hb := C.1.2.1
  have ho := C.1.2.2.2.1
  have hL := C.1.2.2.2.2
  have hl : lv_has ls 1 [(0, .ref (q 78))] := hl
  unfold f_X10_forget at h
  refine lv_aload_n hx hb dX10_forget_0 rfl (lv_at hl 0 rfl) ?_
  refine lv_iconst (v := (-1)) hx hb dX10_forget_1 (by decide) ?_
  refine xh_puti C hw 78 1 h sX_78 (x_lt hN rfl) rfl rfl rfl lk_RX10_15 rfl rfl dX10_forget_2 (fun H locs M hw h => ?_)
  exact hret dX10_forget_5 hw h
def f_X5_add (M : x_M) (a1 : Int32) (a2 : Int32) (a3 : Int32) : Option (Int32 × x_M) := x_gf M 27 3 (fun r1 => if r1 < (nI 8) then x_gf M 27 3 (fun r17 => x_wr 8 M 28 r17 a1 (fun M => x_gf M 27 3 (fun r27 => x_wr 8 M 29 r27 a2 (fun M => x_gf M 27 3 (fun r37 => x_wr 8 M 30 r37 a3 (fun M => x_gf M 27 3 (fun r44 => x_pf M 27 3 (r44 + (nI 1)) (fun M => x_gf M 27 3 (fun r53 => some ((r53 - (nI 1)), M)))))))))) else some ((-1000000003), M))
abbrev rm_X5_add : Room := { frames := 0, cells := 0, slots := 0, locals := 0 }
set_option maxHeartbeats 4000000 in
set_option maxRecDepth 100000 in
theorem c_X5_add {l : Launch} {D : va_G} {cy : Nat → ClassId} {q ad : Nat → Nat} {NC : Nat} {s0 : State} (hq : x_Q q NC s0.heap.size) (hN : 88 ≤ NC) {M : x_M} {a1 : Int32} {a2 : Int32} {a3 : Int32} {z : Int32 × x_M} (h : f_X5_add M a1 a2 a3 = some z) : x_Ci l D cy q ad x_spX NC s0 yX5_add (x_uw yX5_add cX5_add 4 (some .int)) rm_X5_add [.ref (q 27), .int a1, .int a2, .int a3] M z.1 z.2 := by
  refine x_meti hq (by decide) (Nat.le_of_ble_eq_true rfl) ?_
  intro p e s m args below meth c ls Q C hret hl hw
  have hx := C.1.1
  have hb := C.1.2.1
  have ho := C.1.2.2.2.1
  have hL := C.1.2.2.2.2
  have hl : lv_has ls 4 [(0, .ref (q 27)), (1, .int a1), (2, .int a2), (3, .int a3)] := hl
  unfold f_X5_add at h
  refine lv_aload_n hx hb dX5_add_0 rfl (lv_at hl 0 rfl) ?_
  refine xh_geti C hw 27 3 h sX_27 (x_lt hN rfl) rfl rfl rfl lk_RX5_21 dX5_add_1 (fun r1 h => ?_)
  refine lv_bipush (v := (nI 8)) hx hb dX5_add_4 (by decide) ?_
  refine x_icmp_lt (tgt := 12) hx hb h dX5_add_6 (by decide) (fun h => ?_) (fun h => ?_)
  · refine lv_aload_n hx hb dX5_add_12 rfl (lv_at hl 0 rfl) ?_
    refine xh_getr C hw 27 0 sX_27 (x_lt hN rfl) rfl rfl rfl lk_RX5_9 dX5_add_13 ?_
    refine lv_aload_n hx hb dX5_add_16 rfl (lv_at hl 0 rfl) ?_
    refine xh_geti C hw 27 3 h sX_27 (x_lt hN rfl) rfl rfl rfl lk_RX5_21 dX5_add_17 (fun r17 h => ?_)
    refine lv_iload_n hx hb dX5_add_20 rfl (lv_at hl 1 rfl) ?_
    refine xh_iast C hw 28 8 h sX_28 (x_lt hN rfl) dX5_add_21 (fun H locs M hw h => ?_)
    refine lv_aload_n hx hb dX5_add_22 rfl (lv_at hl 0 rfl) ?_
    refine xh_getr C hw 27 1 sX_27 (x_lt hN rfl) rfl rfl rfl lk_RX5_15 dX5_add_23 ?_
    refine lv_aload_n hx hb dX5_add_26 rfl (lv_at hl 0 rfl) ?_
    refine xh_geti C hw 27 3 h sX_27 (x_lt hN rfl) rfl rfl rfl lk_RX5_21 dX5_add_27 (fun r27 h => ?_)
    refine lv_iload_n hx hb dX5_add_30 rfl (lv_at hl 2 rfl) ?_
    refine xh_iast C hw 29 8 h sX_29 (x_lt hN rfl) dX5_add_31 (fun H locs M hw h => ?_)
    refine lv_aload_n hx hb dX5_add_32 rfl (lv_at hl 0 rfl) ?_
    refine xh_getr C hw 27 2 sX_27 (x_lt hN rfl) rfl rfl rfl lk_RX5_18 dX5_add_33 ?_
    refine lv_aload_n hx hb dX5_add_36 rfl (lv_at hl 0 rfl) ?_
    refine xh_geti C hw 27 3 h sX_27 (x_lt hN rfl) rfl rfl rfl lk_RX5_21 dX5_add_37 (fun r37 h => ?_)
    refine lv_iload_n hx hb dX5_add_40 rfl (lv_at hl 3 rfl) ?_
    refine xh_iast C hw 30 8 h sX_30 (x_lt hN rfl) dX5_add_41 (fun H locs M hw h => ?_)
    refine lv_aload_n hx hb dX5_add_42 rfl (lv_at hl 0 rfl) ?_
    refine lv_dup hx hb dX5_add_43 rfl ?_
    refine xh_geti C hw 27 3 h sX_27 (x_lt hN rfl) rfl rfl rfl lk_RX5_21 dX5_add_44 (fun r44 h => ?_)
    refine lv_iconst (v := (nI 1)) hx hb dX5_add_47 (by decide) ?_
    refine lv_iadd hx hb dX5_add_48 ?_
    refine xh_puti C hw 27 3 h sX_27 (x_lt hN rfl) rfl rfl rfl lk_RX5_21 rfl rfl dX5_add_49 (fun H locs M hw h => ?_)
    refine lv_aload_n hx hb dX5_add_52 rfl (lv_at hl 0 rfl) ?_
    refine xh_geti C hw 27 3 h sX_27 (x_lt hN rfl) rfl rfl rfl lk_RX5_21 dX5_add_53 (fun r53 h => ?_)
    refine lv_iconst (v := (nI 1)) hx hb dX5_add_56 (by decide) ?_
    refine lv_isub hx hb dX5_add_57 ?_
    exact hret dX5_add_58 rfl hw h
  · refine lv_ldc hx hb ho (hL _ kc_RX5_25) dX5_add_9 ?_
    exact hret dX5_add_11 rfl hw h
def f_X11_offer_32 (M : x_M) : Option (Int32 × x_M) := some ((-1000000001), M)
def f_X11_offer (M : x_M) (a1 : Int32) (a2 : Int32) (a3 : Int32) : Option (Int32 × x_M) := x_bn (f_X11_within M a1 (nI 1) (nI 9999)) (fun r5 M => if r5 = 0 then f_X11_offer_32 M else x_bn (f_X11_within M a2 (nI 1) (nI 999)) (fun r16 M => if r16 = 0 then f_X11_offer_32 M else x_bn (f_X11_within M a3 (nI 1) (nI 9)) (fun r26 M => if r26 = 0 then f_X11_offer_32 M else x_bn (f_X10_forget M) (fun _ M => x_bn (f_X5_add M a1 a2 a3) (fun r52 M => some (r52, M))))))
abbrev rm_X11_offer : Room := { frames := 1, cells := 0, slots := 0, locals := 23 }
set_option maxHeartbeats 4000000 in
set_option maxRecDepth 100000 in
theorem c_X11_offer {l : Launch} {D : va_G} {cy : Nat → ClassId} {q ad : Nat → Nat} {NC : Nat} {s0 : State} (hq : x_Q q NC s0.heap.size) (hN : 88 ≤ NC) {M : x_M} {a1 : Int32} {a2 : Int32} {a3 : Int32} {z : Int32 × x_M} (h : f_X11_offer M a1 a2 a3 = some z) : x_Ci l D cy q ad x_spX NC s0 yX11_offer (x_uw yX11_offer cX11_offer 4 (some .int)) rm_X11_offer [.ref (q 0), .int a1, .int a2, .int a3] M z.1 z.2 := by
  refine x_meti hq (by decide) (Nat.le_of_ble_eq_true rfl) ?_
  intro p e s m args below meth c ls Q C hret hl hw
  have hx := C.1.1
  have hb := C.1.2.1
  have ho := C.1.2.2.2.1
  have hL := C.1.2.2.2.2
  have hl : lv_has ls 4 [(0, .ref (q 0)), (1, .int a1), (2, .int a2), (3, .int a3)] := hl
  have w32 : ∀ (M : x_M) (H : Heap) (locs : List Loc) (ls : Array Slot), x_B D cy q ad x_spX NC s H locs M → lv_has ls 4 [] → f_X11_offer_32 M = some z → W p l e rm_X11_offer s m args below meth c H locs 0 0 Q (F0 m 32 ls []) := by
    intro M H locs ls hw hl h
    unfold f_X11_offer_32 at h
    refine lv_ldc hx hb ho (hL _ kc_RX11_58) dX11_offer_32 ?_
    exact hret dX11_offer_34 rfl hw h
  unfold f_X11_offer at h
  refine lv_iload_n hx hb dX11_offer_0 rfl (lv_at hl 1 rfl) ?_
  refine lv_iconst (v := (nI 1)) hx hb dX11_offer_1 (by decide) ?_
  refine lv_sipush (v := (nI 9999)) hx hb dX11_offer_2 (by decide) ?_
  refine xh_cSi C hw (rest := []) h (fun _ hy => c_X11_within hq hN hy) ml_RX11_54 st_X11_within ⟨rfl, rfl, by decide, by decide⟩ rfl hl.1 rfl (Nat.le_of_ble_eq_true rfl) dX11_offer_5 (fun H locs r5 M hw h => ?_)
  refine x_if_eq (tgt := 32) hx hb h dX11_offer_8 (by decide) (fun h => ?_) (fun h => ?_)
  · exact w32 _ _ _ _ hw (lv_sub hl [] rfl) h
  · refine lv_iload_n hx hb dX11_offer_11 rfl (lv_at hl 2 rfl) ?_
    refine lv_iconst (v := (nI 1)) hx hb dX11_offer_12 (by decide) ?_
    refine lv_sipush (v := (nI 999)) hx hb dX11_offer_13 (by decide) ?_
    refine xh_cSi C hw (rest := []) h (fun _ hy => c_X11_within hq hN hy) ml_RX11_54 st_X11_within ⟨rfl, rfl, by decide, by decide⟩ rfl hl.1 rfl (Nat.le_of_ble_eq_true rfl) dX11_offer_16 (fun H locs r16 M hw h => ?_)
    refine x_if_eq (tgt := 32) hx hb h dX11_offer_19 (by decide) (fun h => ?_) (fun h => ?_)
    · exact w32 _ _ _ _ hw (lv_sub hl [] rfl) h
    · refine lv_iload_n hx hb dX11_offer_22 rfl (lv_at hl 3 rfl) ?_
      refine lv_iconst (v := (nI 1)) hx hb dX11_offer_23 (by decide) ?_
      refine lv_bipush (v := (nI 9)) hx hb dX11_offer_24 (by decide) ?_
      refine xh_cSi C hw (rest := []) h (fun _ hy => c_X11_within hq hN hy) ml_RX11_54 st_X11_within ⟨rfl, rfl, by decide, by decide⟩ rfl hl.1 rfl (Nat.le_of_ble_eq_true rfl) dX11_offer_26 (fun H locs r26 M hw h => ?_)
      refine x_if_ne (tgt := 35) hx hb h dX11_offer_29 (by decide) (fun h => ?_) (fun h => ?_)
      · exact w32 _ _ _ _ hw (lv_sub hl [] rfl) h
      · refine lv_aload_n hx hb dX11_offer_35 rfl (lv_at hl 0 rfl) ?_
        refine xh_getr C hw 0 3 sX_0 (x_lt hN rfl) rfl rfl rfl lk_RX11_29 dX11_offer_36 ?_
        refine xh_cVv C hw (rest := []) h (fun _ hy => c_X10_forget hq hN hy) ml_RX11_286 mv_X10_forget sX_78 (x_lt hN rfl) rfl ⟨rfl, rfl, by decide, by decide⟩ rfl hl.1 rfl (Nat.le_of_ble_eq_true rfl) dX11_offer_39 (fun H locs _ M hw h => ?_)
        refine lv_aload_n hx hb dX11_offer_42 rfl (lv_at hl 0 rfl) ?_
        refine xh_getr C hw 0 0 sX_0 (x_lt hN rfl) rfl rfl rfl lk_RX11_12 dX11_offer_43 ?_
        refine xh_getr C hw 1 4 sX_1 (x_lt hN rfl) rfl rfl rfl lk_RX11_289 dX11_offer_46 ?_
        refine lv_iload_n hx hb dX11_offer_49 rfl (lv_at hl 1 rfl) ?_
        refine lv_iload_n hx hb dX11_offer_50 rfl (lv_at hl 2 rfl) ?_
        refine lv_iload_n hx hb dX11_offer_51 rfl (lv_at hl 3 rfl) ?_
        refine xh_cVi C hw (rest := []) h (fun _ hy => c_X5_add hq hN hy) ml_RX11_293 mv_X5_add sX_27 (x_lt hN rfl) rfl ⟨rfl, rfl, by decide, by decide⟩ rfl hl.1 rfl (Nat.le_of_ble_eq_true rfl) dX11_offer_52 (fun H locs r52 M hw h => ?_)
        exact hret dX11_offer_55 rfl hw h
def f_X11_clear (M : x_M) : Option (Int32 × x_M) := x_gf M 27 3 (fun r7 => x_pf M 27 3 (nI 0) (fun M => x_bn (f_X10_forget M) (fun _ M => some (r7, M))))
abbrev rm_X11_clear : Room := { frames := 1, cells := 0, slots := 0, locals := 20 }
set_option maxHeartbeats 4000000 in
set_option maxRecDepth 100000 in
theorem c_X11_clear {l : Launch} {D : va_G} {cy : Nat → ClassId} {q ad : Nat → Nat} {NC : Nat} {s0 : State} (hq : x_Q q NC s0.heap.size) (hN : 88 ≤ NC) {M : x_M} {z : Int32 × x_M} (h : f_X11_clear M = some z) : x_Ci l D cy q ad x_spX NC s0 yX11_clear (x_uw yX11_clear cX11_clear 2 (some .int)) rm_X11_clear [.ref (q 0)] M z.1 z.2 := by
  refine x_meti hq (by decide) (Nat.le_of_ble_eq_true rfl) ?_
  intro p e s m args below meth c ls Q C hret hl hw
  have hx := C.1.1
  have hb := C.1.2.1
  have ho := C.1.2.2.2.1
  have hL := C.1.2.2.2.2
  have hl : lv_has ls 2 [(0, .ref (q 0))] := hl
  unfold f_X11_clear at h
  refine lv_aload_n hx hb dX11_clear_0 rfl (lv_at hl 0 rfl) ?_
  refine xh_getr C hw 0 0 sX_0 (x_lt hN rfl) rfl rfl rfl lk_RX11_12 dX11_clear_1 ?_
  refine xh_getr C hw 1 4 sX_1 (x_lt hN rfl) rfl rfl rfl lk_RX11_289 dX11_clear_4 ?_
  refine xh_geti C hw 27 3 h sX_27 (x_lt hN rfl) rfl rfl rfl lk_RX11_297 dX11_clear_7 (fun r7 h => ?_)
  refine lv_istore_n (lv' := [(1, .int _), (0, .ref (q 0))]) hx hb dX11_clear_10 rfl hl (by decide) rfl (fun ls hl => ?_)
  refine lv_aload_n hx hb dX11_clear_11 rfl (lv_at hl 1 rfl) ?_
  refine xh_getr C hw 0 0 sX_0 (x_lt hN rfl) rfl rfl rfl lk_RX11_12 dX11_clear_12 ?_
  refine xh_getr C hw 1 4 sX_1 (x_lt hN rfl) rfl rfl rfl lk_RX11_289 dX11_clear_15 ?_
  refine lv_iconst (v := (nI 0)) hx hb dX11_clear_18 (by decide) ?_
  refine xh_puti C hw 27 3 h sX_27 (x_lt hN rfl) rfl rfl rfl lk_RX11_297 rfl rfl dX11_clear_19 (fun H locs M hw h => ?_)
  refine lv_aload_n hx hb dX11_clear_22 rfl (lv_at hl 1 rfl) ?_
  refine xh_getr C hw 0 3 sX_0 (x_lt hN rfl) rfl rfl rfl lk_RX11_29 dX11_clear_23 ?_
  refine xh_cVv C hw (rest := []) h (fun _ hy => c_X10_forget hq hN hy) ml_RX11_286 mv_X10_forget sX_78 (x_lt hN rfl) rfl ⟨rfl, rfl, by decide, by decide⟩ rfl hl.1 rfl (Nat.le_of_ble_eq_true rfl) dX11_clear_26 (fun H locs _ M hw h => ?_)
  refine lv_iload_n hx hb dX11_clear_29 rfl (lv_at hl 0 rfl) ?_
  exact hret dX11_clear_30 rfl hw h
def f_J7_fill_d0a16_79_6 : Nat → x_M → Int64 → Int32 → Int32 → Option (Unit × x_M)
  | 0, _, _, _, _ => none
  | n + 1, M, v1, v3, v4 => if v4 ≤ v3 then some ((), M) else x_wl 3001 M 79 v3 v1 (fun M => (f_J7_fill_d0a16_79_6 n) M v1 (v3 + (nI 1)) v4)
theorem f_J7_fill_d0a16_79_6_0 (M : x_M) (v1 : Int64) (v3 : Int32) (v4 : Int32) : f_J7_fill_d0a16_79_6 0 M v1 v3 v4 = none := rfl
theorem f_J7_fill_d0a16_79_6_s (n : Nat) (M : x_M) (v1 : Int64) (v3 : Int32) (v4 : Int32) : f_J7_fill_d0a16_79_6 (n + 1) M v1 v3 v4 = (if v4 ≤ v3 then some ((), M) else x_wl 3001 M 79 v3 v1 (fun M => (f_J7_fill_d0a16_79_6 n) M v1 (v3 + (nI 1)) v4)) := rfl
def f_J7_fill_d0a16_79 (M : x_M) (a2 : Int64) : Option (Unit × x_M) := f_J7_fill_d0a16_79_6 x_FU M a2 (nI 0) (nI 3001)
abbrev rm_J7_fill_d0a16_79 : Room := { frames := 0, cells := 0, slots := 0, locals := 0 }
set_option maxHeartbeats 4000000 in
set_option maxRecDepth 100000 in
theorem c_J7_fill_d0a16_79 {l : Launch} {D : va_G} {cy : Nat → ClassId} {q ad : Nat → Nat} {NC : Nat} {s0 : State} (hq : x_Q q NC s0.heap.size) (hN : 88 ≤ NC) {M : x_M} {a2 : Int64} {z : Unit × x_M} (h : f_J7_fill_d0a16_79 M a2 = some z) : x_Cv l D cy q ad x_spX NC s0 yJ7_fill_d0a16 (x_uw yJ7_fill_d0a16 cJ7_fill_d0a16 5 none) rm_J7_fill_d0a16_79 [.ref (q 79), .long a2] M z.2 := by
  refine x_metv hq (by decide) (Nat.le_of_ble_eq_true rfl) ?_
  intro p e s m args below meth c ls Q C hret hl hw
  have hx := C.1.1
  have hb := C.1.2.1
  have ho := C.1.2.2.2.1
  have hL := C.1.2.2.2.2
  have hl : lv_has ls 5 [(0, .ref (q 79)), (1, .long a2)] := hl
  have w6 : ∀ (n : Nat) (M : x_M) (v1 : Int64) (v3 : Int32) (v4 : Int32) (H : Heap) (locs : List Loc) (ls : Array Slot), x_B D cy q ad x_spX NC s H locs M → lv_has ls 5 [(0, .ref (q 79)), (1, .long v1), (3, .int v3), (4, .int v4)] → f_J7_fill_d0a16_79_6 n M v1 v3 v4 = some z → W p l e rm_J7_fill_d0a16_79 s m args below meth c H locs 0 0 Q (F0 m 6 ls []) := by
    intro n
    induction n with
    | zero =>
      intro M v1 v3 v4 H locs ls hw hl h
      rw [f_J7_fill_d0a16_79_6_0] at h
      cases h
    | succ n6 ih6 =>
      intro M v1 v3 v4 H locs ls hw hl h
      rw [f_J7_fill_d0a16_79_6_s] at h
      refine lv_iload_n hx hb dJ7_fill_d0a16_6 rfl (lv_at hl 2 rfl) ?_
      refine lv_iload hx hb dJ7_fill_d0a16_7 (lv_at hl 3 rfl) ?_
      refine x_icmp_ge (tgt := 22) hx hb h dJ7_fill_d0a16_9 (by decide) (fun h => ?_) (fun h => ?_)
      · exact hret dJ7_fill_d0a16_22 hw h
      · refine lv_aload_n hx hb dJ7_fill_d0a16_12 rfl (lv_at hl 0 rfl) ?_
        refine lv_iload_n hx hb dJ7_fill_d0a16_13 rfl (lv_at hl 2 rfl) ?_
        refine lv_lload_n hx hb dJ7_fill_d0a16_14 rfl (lv_at hl 1 rfl) ?_
        refine xh_last C hw 79 3001 h sX_79 (x_lt hN rfl) dJ7_fill_d0a16_15 (fun H locs M hw h => ?_)
        refine lv_iinc (lv' := [(3, .int _), (0, .ref (q 79)), (1, .long _), (4, .int _)]) hx hb dJ7_fill_d0a16_16 hl (k := 2) rfl (x_inc (show Int32.ofInt 1 = (nI 1) by decide) _) (by decide) rfl (fun ls hl => ?_)
        refine lv_goto (tgt := 6) hx hb dJ7_fill_d0a16_19 (by decide) ?_
        exact ih6 _ _ _ _ _ _ _ hw (lv_sub hl [1, 2, 0, 3] rfl) h
  unfold f_J7_fill_d0a16_79 at h
  refine lv_iconst (v := (nI 0)) hx hb dJ7_fill_d0a16_0 (by decide) ?_
  refine lv_istore_n (lv' := [(3, .int _), (0, .ref (q 79)), (1, .long _)]) hx hb dJ7_fill_d0a16_1 rfl hl (by decide) rfl (fun ls hl => ?_)
  refine lv_aload_n hx hb dJ7_fill_d0a16_2 rfl (lv_at hl 1 rfl) ?_
  refine va_alen hx hb C.2.1.1 hw.1 79 5 (by rw [x_w_get (x_lt hN rfl), sX_79]; rfl) rfl (v := nI 3001) rfl dJ7_fill_d0a16_3 ?_
  refine lv_istore (lv' := [(4, .int _), (3, .int _), (0, .ref (q 79)), (1, .long _)]) hx hb dJ7_fill_d0a16_4 hl (by decide) rfl (fun ls hl => ?_)
  exact w6 _ _ _ _ _ _ _ _ hw (lv_sub hl [2, 3, 1, 0] rfl) h
def f_X10_placeOf (M : x_M) (a1 : Int32) : Option (Int32 × x_M) := some (((nI 4) * ((nI 7) - a1)), M)
abbrev rm_X10_placeOf : Room := { frames := 0, cells := 0, slots := 0, locals := 0 }
set_option maxHeartbeats 4000000 in
set_option maxRecDepth 100000 in
theorem c_X10_placeOf {l : Launch} {D : va_G} {cy : Nat → ClassId} {q ad : Nat → Nat} {NC : Nat} {s0 : State} (hq : x_Q q NC s0.heap.size) (hN : 88 ≤ NC) {M : x_M} {a1 : Int32} {z : Int32 × x_M} (h : f_X10_placeOf M a1 = some z) : x_Ci l D cy q ad x_spX NC s0 yX10_placeOf (x_uw yX10_placeOf cX10_placeOf 1 (some .int)) rm_X10_placeOf [.int a1] M z.1 z.2 := by
  refine x_meti hq (by decide) (Nat.le_of_ble_eq_true rfl) ?_
  intro p e s m args below meth c ls Q C hret hl hw
  have hx := C.1.1
  have hb := C.1.2.1
  have ho := C.1.2.2.2.1
  have hL := C.1.2.2.2.2
  have hl : lv_has ls 1 [(0, .int a1)] := hl
  unfold f_X10_placeOf at h
  refine lv_iconst (v := (nI 4)) hx hb dX10_placeOf_0 (by decide) ?_
  refine lv_bipush (v := (nI 7)) hx hb dX10_placeOf_1 (by decide) ?_
  refine lv_iload_n hx hb dX10_placeOf_3 rfl (lv_at hl 0 rfl) ?_
  refine lv_isub hx hb dX10_placeOf_4 ?_
  refine lv_imul hx hb dX10_placeOf_5 ?_
  exact hret dX10_placeOf_6 rfl hw h
def f_X10_weight_27 (M : x_M) (a2 : Int32) : Option (Int64 × x_M) := x_rd 8 (M 28) a2 (fun r5 => x_bn (f_X10_placeOf M a2) (fun r17 M => some ((((((r5).toInt64) * (1099511627776 : Int64)) + (4294967296 : Int64)) - ((1 : Int64) <<< ((r17).toInt64 &&& 63))), M)))
abbrev rm_X10_weight_27 : Room := { frames := 1, cells := 0, slots := 0, locals := 20 }
set_option maxHeartbeats 4000000 in
set_option maxRecDepth 100000 in
theorem c_X10_weight_27 {l : Launch} {D : va_G} {cy : Nat → ClassId} {q ad : Nat → Nat} {NC : Nat} {s0 : State} (hq : x_Q q NC s0.heap.size) (hN : 88 ≤ NC) {M : x_M} {a2 : Int32} {z : Int64 × x_M} (h : f_X10_weight_27 M a2 = some z) : x_Cl l D cy q ad x_spX NC s0 yX10_weight (x_uw yX10_weight cX10_weight 2 (some .long)) rm_X10_weight_27 [.ref (q 27), .int a2] M z.1 z.2 := by
  refine x_metl hq (by decide) (Nat.le_of_ble_eq_true rfl) ?_
  intro p e s m args below meth c ls Q C hret hl hw
  have hx := C.1.1
  have hb := C.1.2.1
  have ho := C.1.2.2.2.1
  have hL := C.1.2.2.2.2
  have hl : lv_has ls 2 [(0, .ref (q 27)), (1, .int a2)] := hl
  unfold f_X10_weight_27 at h
  refine lv_aload_n hx hb dX10_weight_0 rfl (lv_at hl 0 rfl) ?_
  refine xh_getr C hw 27 0 sX_27 (x_lt hN rfl) rfl rfl rfl lk_RX10_67 dX10_weight_1 ?_
  refine lv_iload_n hx hb dX10_weight_4 rfl (lv_at hl 1 rfl) ?_
  refine xh_iald C hw 28 8 h sX_28 (x_lt hN rfl) dX10_weight_5 (fun r5 h => ?_)
  refine lv_i2l hx hb dX10_weight_6 rfl ?_
  refine lv_ldc2 hx hb ho (hL _ kl_RX10_25) dX10_weight_7 ?_
  refine lv_lmul hx hb dX10_weight_10 ?_
  refine lv_ldc2 hx hb ho (hL _ kl_RX10_70) dX10_weight_11 ?_
  refine lv_ladd hx hb dX10_weight_14 ?_
  refine lv_lconst (v := 1) hx hb dX10_weight_15 (by decide) ?_
  refine lv_iload_n hx hb dX10_weight_16 rfl (lv_at hl 1 rfl) ?_
  refine xh_cSi C hw (rest := [_, _]) h (fun _ hy => c_X10_placeOf hq hN hy) ml_RX10_27 st_X10_placeOf ⟨rfl, rfl, by decide, by decide⟩ rfl hl.1 rfl (Nat.le_of_ble_eq_true rfl) dX10_weight_17 (fun H locs r17 M hw h => ?_)
  refine lv_lshl hx hb dX10_weight_20 rfl ?_
  refine lv_lsub hx hb dX10_weight_21 ?_
  exact hret dX10_weight_22 hw h
def f_X10_addPack_53 (k3 : x_M → Int32 → Int64 → Int32 → Option (Unit × x_M)) (M : x_M) (v2 : Int32) (v3 : Int64) (v5 : Int32) : Option (Unit × x_M) := k3 M v2 v3 (v5 + (-1))
def f_X10_addPack_26 (k3 : x_M → Int32 → Int64 → Int32 → Option (Unit × x_M)) (M : x_M) (v2 : Int32) (v3 : Int64) (v5 : Int32) (t1 : Int32) : Option (Unit × x_M) := x_rl 3001 (M 79) t1 (fun r26 => x_rl 3001 (M 79) v5 (fun r39 => if 0 ≤ (lg_cmp (r26 + v3) r39) then f_X10_addPack_53 k3 M v2 v3 v5 else x_wl 3001 M 79 v5 (r26 + v3) (fun M => f_X10_addPack_53 k3 M v2 v3 v5)))
def f_X10_addPack_3 : Nat → x_M → Int32 → Int64 → Int32 → Option (Unit × x_M)
  | 0, _, _, _, _ => none
  | n + 1, M, v2, v3, v5 => if v5 ≤ 0 then some ((), M) else if v5 ≤ v2 then f_X10_addPack_26 (f_X10_addPack_3 n) M v2 v3 v5 (nI 0) else f_X10_addPack_26 (f_X10_addPack_3 n) M v2 v3 v5 (v5 - v2)
theorem f_X10_addPack_3_0 (M : x_M) (v2 : Int32) (v3 : Int64) (v5 : Int32) : f_X10_addPack_3 0 M v2 v3 v5 = none := rfl
theorem f_X10_addPack_3_s (n : Nat) (M : x_M) (v2 : Int32) (v3 : Int64) (v5 : Int32) : f_X10_addPack_3 (n + 1) M v2 v3 v5 = (if v5 ≤ 0 then some ((), M) else if v5 ≤ v2 then f_X10_addPack_26 (f_X10_addPack_3 n) M v2 v3 v5 (nI 0) else f_X10_addPack_26 (f_X10_addPack_3 n) M v2 v3 v5 (v5 - v2)) := rfl
def f_X10_addPack (M : x_M) (a1 : Int32) (a2 : Int32) (a3 : Int64) : Option (Unit × x_M) := f_X10_addPack_3 x_FU M a2 a3 a1
abbrev rm_X10_addPack : Room := { frames := 0, cells := 0, slots := 0, locals := 0 }
set_option maxHeartbeats 4000000 in
set_option maxRecDepth 100000 in
theorem c_X10_addPack {l : Launch} {D : va_G} {cy : Nat → ClassId} {q ad : Nat → Nat} {NC : Nat} {s0 : State} (hq : x_Q q NC s0.heap.size) (hN : 88 ≤ NC) {M : x_M} {a1 : Int32} {a2 : Int32} {a3 : Int64} {z : Unit × x_M} (h : f_X10_addPack M a1 a2 a3 = some z) : x_Cv l D cy q ad x_spX NC s0 yX10_addPack (x_uw yX10_addPack cX10_addPack 8 none) rm_X10_addPack [.ref (q 78), .int a1, .int a2, .long a3] M z.2 := by
  refine x_metv hq (by decide) (Nat.le_of_ble_eq_true rfl) ?_
  intro p e s m args below meth c ls Q C hret hl hw
  have hx := C.1.1
  have hb := C.1.2.1
  have ho := C.1.2.2.2.1
  have hL := C.1.2.2.2.2
  have hl : lv_has ls 8 [(0, .ref (q 78)), (1, .int a1), (2, .int a2), (3, .long a3)] := hl
  have w3 : ∀ (n : Nat) (M : x_M) (v2 : Int32) (v3 : Int64) (v5 : Int32) (H : Heap) (locs : List Loc) (ls : Array Slot), x_B D cy q ad x_spX NC s H locs M → lv_has ls 8 [(0, .ref (q 78)), (2, .int v2), (3, .long v3), (5, .int v5)] → f_X10_addPack_3 n M v2 v3 v5 = some z → W p l e rm_X10_addPack s m args below meth c H locs 0 0 Q (F0 m 3 ls []) := by
    intro n
    induction n with
    | zero =>
      intro M v2 v3 v5 H locs ls hw hl h
      rw [f_X10_addPack_3_0] at h
      cases h
    | succ n3 ih3 =>
      have w26 : ∀ (M : x_M) (v2 : Int32) (v3 : Int64) (v5 : Int32) (t1 : Int32) (H : Heap) (locs : List Loc) (ls : Array Slot), x_B D cy q ad x_spX NC s H locs M → lv_has ls 8 [(0, .ref (q 78)), (2, .int v2), (3, .long v3), (5, .int v5)] → f_X10_addPack_26 (f_X10_addPack_3 n3) M v2 v3 v5 t1 = some z → W p l e rm_X10_addPack s m args below meth c H locs 0 0 Q (F0 m 26 ls [.int t1, .ref (q 79)]) := by
        have w53 : ∀ (M : x_M) (v2 : Int32) (v3 : Int64) (v5 : Int32) (H : Heap) (locs : List Loc) (ls : Array Slot), x_B D cy q ad x_spX NC s H locs M → lv_has ls 8 [(0, .ref (q 78)), (2, .int v2), (3, .long v3), (5, .int v5)] → f_X10_addPack_53 (f_X10_addPack_3 n3) M v2 v3 v5 = some z → W p l e rm_X10_addPack s m args below meth c H locs 0 0 Q (F0 m 53 ls []) := by
          intro M v2 v3 v5 H locs ls hw hl h
          unfold f_X10_addPack_53 at h
          refine lv_iinc (lv' := [(5, .int _), (0, .ref (q 78)), (2, .int _), (3, .long _)]) hx hb dX10_addPack_53 hl (k := 3) rfl (x_inc (show Int32.ofInt (-1) = (-1) by decide) _) (by decide) rfl (fun ls hl => ?_)
          refine lv_goto (tgt := 3) hx hb dX10_addPack_56 (by decide) ?_
          exact ih3 _ _ _ _ _ _ _ hw (lv_sub hl [1, 2, 3, 0] rfl) h
        intro M v2 v3 v5 t1 H locs ls hw hl h
        unfold f_X10_addPack_26 at h
        refine xh_lald C hw 79 3001 h sX_79 (x_lt hN rfl) dX10_addPack_26 (fun r26 h => ?_)
        refine lv_lload_n hx hb dX10_addPack_27 rfl (lv_at hl 2 rfl) ?_
        refine lv_ladd hx hb dX10_addPack_28 ?_
        refine lv_lstore (lv' := [(6, .long _), (0, .ref (q 78)), (2, .int _), (3, .long _), (5, .int _)]) hx hb dX10_addPack_29 hl (by decide) rfl (fun ls hl => ?_)
        refine lv_lload hx hb dX10_addPack_31 (lv_at hl 0 rfl) ?_
        refine lv_aload_n hx hb dX10_addPack_33 rfl (lv_at hl 1 rfl) ?_
        refine xh_getr C hw 78 0 sX_78 (x_lt hN rfl) rfl rfl rfl lk_RX10_9 dX10_addPack_34 ?_
        refine lv_iload hx hb dX10_addPack_37 (lv_at hl 4 rfl) ?_
        refine xh_lald C hw 79 3001 h sX_79 (x_lt hN rfl) dX10_addPack_39 (fun r39 h => ?_)
        refine W.lcmp hx hb dX10_addPack_40 ?_
        refine x_if_ge (tgt := 53) hx hb h dX10_addPack_41 (by decide) (fun h => ?_) (fun h => ?_)
        · exact w53 _ _ _ _ _ _ _ hw (lv_sub hl [1, 2, 3, 4] rfl) h
        · refine lv_aload_n hx hb dX10_addPack_44 rfl (lv_at hl 1 rfl) ?_
          refine xh_getr C hw 78 0 sX_78 (x_lt hN rfl) rfl rfl rfl lk_RX10_9 dX10_addPack_45 ?_
          refine lv_iload hx hb dX10_addPack_48 (lv_at hl 4 rfl) ?_
          refine lv_lload hx hb dX10_addPack_50 (lv_at hl 0 rfl) ?_
          refine xh_last C hw 79 3001 h sX_79 (x_lt hN rfl) dX10_addPack_52 (fun H locs M hw h => ?_)
          exact w53 _ _ _ _ _ _ _ hw (lv_sub hl [1, 2, 3, 4] rfl) h
      intro M v2 v3 v5 H locs ls hw hl h
      rw [f_X10_addPack_3_s] at h
      refine lv_iload hx hb dX10_addPack_3 (lv_at hl 3 rfl) ?_
      refine x_if_le (tgt := 59) hx hb h dX10_addPack_5 (by decide) (fun h => ?_) (fun h => ?_)
      · exact hret dX10_addPack_59 hw h
      · refine lv_aload_n hx hb dX10_addPack_8 rfl (lv_at hl 0 rfl) ?_
        refine xh_getr C hw 78 0 sX_78 (x_lt hN rfl) rfl rfl rfl lk_RX10_9 dX10_addPack_9 ?_
        refine lv_iload hx hb dX10_addPack_12 (lv_at hl 3 rfl) ?_
        refine lv_iload_n hx hb dX10_addPack_14 rfl (lv_at hl 1 rfl) ?_
        refine x_icmp_le (tgt := 25) hx hb h dX10_addPack_15 (by decide) (fun h => ?_) (fun h => ?_)
        · refine lv_iconst (v := (nI 0)) hx hb dX10_addPack_25 (by decide) ?_
          exact w26 _ _ _ _ _ _ _ _ hw (lv_sub hl [0, 1, 2, 3] rfl) h
        · refine lv_iload hx hb dX10_addPack_18 (lv_at hl 3 rfl) ?_
          refine lv_iload_n hx hb dX10_addPack_20 rfl (lv_at hl 1 rfl) ?_
          refine lv_isub hx hb dX10_addPack_21 ?_
          refine lv_goto (tgt := 26) hx hb dX10_addPack_22 (by decide) ?_
          exact w26 _ _ _ _ _ _ _ _ hw (lv_sub hl [0, 1, 2, 3] rfl) h
  unfold f_X10_addPack at h
  refine lv_iload_n hx hb dX10_addPack_0 rfl (lv_at hl 1 rfl) ?_
  refine lv_istore (lv' := [(5, .int _), (0, .ref (q 78)), (1, .int _), (2, .int _), (3, .long _)]) hx hb dX10_addPack_1 hl (by decide) rfl (fun ls hl => ?_)
  exact w3 _ _ _ _ _ _ _ _ hw (lv_sub hl [1, 3, 4, 0] rfl) h
def f_X10_solve_78_27_40 (k21 : x_M → Int32 → Int32 → Option (Unit × x_M)) : Nat → x_M → Int32 → Int32 → Int32 → Int32 → Option (Unit × x_M)
  | 0, _, _, _, _, _ => none
  | n + 1, M, v2, v3, v4, v5 => x_rd 8 (M 30) v3 (fun r47 => if r47 < v5 then k21 M v2 (v3 + (nI 1)) else x_rd 8 (M 29) v3 (fun r69 => x_bn (f_X10_weight_27 M v3) (fun r76 M => x_bn (f_X10_addPack M v2 ((if v4 < v5 then v4 else v5) * r69) ((((if v4 < v5 then v4 else v5)).toInt64) * r76)) (fun _ M => (f_X10_solve_78_27_40 k21 n) M v2 v3 (v4 - (if v4 < v5 then v4 else v5)) (v5 * (nI 2))))))
theorem f_X10_solve_78_27_40_0 (k21 : x_M → Int32 → Int32 → Option (Unit × x_M)) (M : x_M) (v2 : Int32) (v3 : Int32) (v4 : Int32) (v5 : Int32) : f_X10_solve_78_27_40 k21 0 M v2 v3 v4 v5 = none := rfl
theorem f_X10_solve_78_27_40_s (k21 : x_M → Int32 → Int32 → Option (Unit × x_M)) (n : Nat) (M : x_M) (v2 : Int32) (v3 : Int32) (v4 : Int32) (v5 : Int32) : f_X10_solve_78_27_40 k21 (n + 1) M v2 v3 v4 v5 = (x_rd 8 (M 30) v3 (fun r47 => if r47 < v5 then k21 M v2 (v3 + (nI 1)) else x_rd 8 (M 29) v3 (fun r69 => x_bn (f_X10_weight_27 M v3) (fun r76 M => x_bn (f_X10_addPack M v2 ((if v4 < v5 then v4 else v5) * r69) ((((if v4 < v5 then v4 else v5)).toInt64) * r76)) (fun _ M => (f_X10_solve_78_27_40 k21 n) M v2 v3 (v4 - (if v4 < v5 then v4 else v5)) (v5 * (nI 2))))))) := rfl
def f_X10_solve_78_27_21 : Nat → x_M → Int32 → Int32 → Option (Unit × x_M)
  | 0, _, _, _ => none
  | n + 1, M, v2, v3 => x_gf M 27 3 (fun r23 => if r23 ≤ v3 then some ((), M) else x_rd 8 (M 30) v3 (fun r34 => f_X10_solve_78_27_40 (f_X10_solve_78_27_21 n) x_FU M v2 v3 r34 (nI 1)))
theorem f_X10_solve_78_27_21_0 (M : x_M) (v2 : Int32) (v3 : Int32) : f_X10_solve_78_27_21 0 M v2 v3 = none := rfl
theorem f_X10_solve_78_27_21_s (n : Nat) (M : x_M) (v2 : Int32) (v3 : Int32) : f_X10_solve_78_27_21 (n + 1) M v2 v3 = (x_gf M 27 3 (fun r23 => if r23 ≤ v3 then some ((), M) else x_rd 8 (M 30) v3 (fun r34 => f_X10_solve_78_27_40 (f_X10_solve_78_27_21 n) x_FU M v2 v3 r34 (nI 1)))) := rfl
def f_X10_solve_78_27 (M : x_M) (a2 : Int32) : Option (Unit × x_M) := x_bn (f_J7_fill_d0a16_79 M (4611686018427387904 : Int64)) (fun _ M => x_wl 3001 M 79 (nI 0) (2576980377 : Int64) (fun M => f_X10_solve_78_27_21 x_FU M a2 (nI 0)))
abbrev rm_X10_solve_78_27 : Room := { frames := 2, cells := 0, slots := 0, locals := 41 }
set_option maxHeartbeats 4000000 in
set_option maxRecDepth 100000 in
theorem c_X10_solve_78_27 {l : Launch} {D : va_G} {cy : Nat → ClassId} {q ad : Nat → Nat} {NC : Nat} {s0 : State} (hq : x_Q q NC s0.heap.size) (hN : 88 ≤ NC) {M : x_M} {a2 : Int32} {z : Unit × x_M} (h : f_X10_solve_78_27 M a2 = some z) : x_Cv l D cy q ad x_spX NC s0 yX10_solve (x_uw yX10_solve cX10_solve 7 none) rm_X10_solve_78_27 [.ref (q 78), .ref (q 27), .int a2] M z.2 := by
  refine x_metv hq (by decide) (Nat.le_of_ble_eq_true rfl) ?_
  intro p e s m args below meth c ls Q C hret hl hw
  have hx := C.1.1
  have hb := C.1.2.1
  have ho := C.1.2.2.2.1
  have hL := C.1.2.2.2.2
  have hl : lv_has ls 7 [(0, .ref (q 78)), (1, .ref (q 27)), (2, .int a2)] := hl
  have w21 : ∀ (n : Nat) (M : x_M) (v2 : Int32) (v3 : Int32) (H : Heap) (locs : List Loc) (ls : Array Slot), x_B D cy q ad x_spX NC s H locs M → lv_has ls 7 [(0, .ref (q 78)), (1, .ref (q 27)), (2, .int v2), (3, .int v3)] → f_X10_solve_78_27_21 n M v2 v3 = some z → W p l e rm_X10_solve_78_27 s m args below meth c H locs 0 0 Q (F0 m 21 ls []) := by
    intro n
    induction n with
    | zero =>
      intro M v2 v3 H locs ls hw hl h
      rw [f_X10_solve_78_27_21_0] at h
      cases h
    | succ n21 ih21 =>
      have w40 : ∀ (n : Nat) (M : x_M) (v2 : Int32) (v3 : Int32) (v4 : Int32) (v5 : Int32) (H : Heap) (locs : List Loc) (ls : Array Slot), x_B D cy q ad x_spX NC s H locs M → lv_has ls 7 [(0, .ref (q 78)), (1, .ref (q 27)), (2, .int v2), (3, .int v3), (4, .int v4), (5, .int v5)] → f_X10_solve_78_27_40 (f_X10_solve_78_27_21 n21) n M v2 v3 v4 v5 = some z → W p l e rm_X10_solve_78_27 s m args below meth c H locs 0 0 Q (F0 m 40 ls []) := by
        intro n
        induction n with
        | zero =>
          intro M v2 v3 v4 v5 H locs ls hw hl h
          rw [f_X10_solve_78_27_40_0] at h
          cases h
        | succ n40 ih40 =>
          intro M v2 v3 v4 v5 H locs ls hw hl h
          rw [f_X10_solve_78_27_40_s] at h
          refine lv_iload hx hb dX10_solve_40 (lv_at hl 5 rfl) ?_
          refine lv_aload_n hx hb dX10_solve_42 rfl (lv_at hl 1 rfl) ?_
          refine xh_getr C hw 27 2 sX_27 (x_lt hN rfl) rfl rfl rfl lk_RX10_46 dX10_solve_43 ?_
          refine lv_iload_n hx hb dX10_solve_46 rfl (lv_at hl 3 rfl) ?_
          refine xh_iald C hw 30 8 h sX_30 (x_lt hN rfl) dX10_solve_47 (fun r47 h => ?_)
          refine x_icmp_gt (tgt := 99) hx hb h dX10_solve_48 (by decide) (fun h => ?_) (fun h => ?_)
          · refine lv_iinc (lv' := [(3, .int _), (0, .ref (q 78)), (1, .ref (q 27)), (2, .int _), (4, .int _), (5, .int _)]) hx hb dX10_solve_99 hl (k := 3) rfl (x_inc (show Int32.ofInt 1 = (nI 1) by decide) _) (by decide) rfl (fun ls hl => ?_)
            refine lv_goto (tgt := 21) hx hb dX10_solve_102 (by decide) ?_
            exact ih21 _ _ _ _ _ _ hw (lv_sub hl [1, 2, 3, 0] rfl) h
          · refine lv_iload hx hb dX10_solve_51 (lv_at hl 5 rfl) ?_
            refine lv_iload hx hb dX10_solve_53 (lv_at hl 4 rfl) ?_
            refine xh_min C (rest := []) mw_RX10_50 hl.1 ⟨by decide, Nat.le_of_ble_eq_true rfl⟩ dX10_solve_55 ?_
            refine lv_istore (lv' := [(6, .int _), (0, .ref (q 78)), (1, .ref (q 27)), (2, .int _), (3, .int _), (4, .int _), (5, .int _)]) hx hb dX10_solve_58 hl (by decide) rfl (fun ls hl => ?_)
            refine lv_aload_n hx hb dX10_solve_60 rfl (lv_at hl 1 rfl) ?_
            refine lv_iload_n hx hb dX10_solve_61 rfl (lv_at hl 3 rfl) ?_
            refine lv_iload hx hb dX10_solve_62 (lv_at hl 0 rfl) ?_
            refine lv_aload_n hx hb dX10_solve_64 rfl (lv_at hl 2 rfl) ?_
            refine xh_getr C hw 27 1 sX_27 (x_lt hN rfl) rfl rfl rfl lk_RX10_56 dX10_solve_65 ?_
            refine lv_iload_n hx hb dX10_solve_68 rfl (lv_at hl 4 rfl) ?_
            refine xh_iald C hw 29 8 h sX_29 (x_lt hN rfl) dX10_solve_69 (fun r69 h => ?_)
            refine lv_imul hx hb dX10_solve_70 ?_
            refine lv_iload hx hb dX10_solve_71 (lv_at hl 0 rfl) ?_
            refine lv_i2l hx hb dX10_solve_73 rfl ?_
            refine lv_aload_n hx hb dX10_solve_74 rfl (lv_at hl 2 rfl) ?_
            refine lv_iload_n hx hb dX10_solve_75 rfl (lv_at hl 4 rfl) ?_
            refine xh_cSl C hw (rest := [_, _, _, _]) h (fun _ hy => c_X10_weight_27 hq hN hy) ml_RX10_59 st_X10_weight ⟨rfl, rfl, by decide, by decide⟩ rfl hl.1 rfl (Nat.le_of_ble_eq_true rfl) dX10_solve_76 (fun H locs r76 M hw h => ?_)
            refine lv_lmul hx hb dX10_solve_79 ?_
            refine xh_cVv C hw (rest := []) h (fun _ hy => c_X10_addPack hq hN hy) ml_RX10_63 mv_X10_addPack sX_78 (x_lt hN rfl) rfl ⟨rfl, rfl, by decide, by decide⟩ rfl hl.1 rfl (Nat.le_of_ble_eq_true rfl) dX10_solve_80 (fun H locs _ M hw h => ?_)
            refine lv_iload hx hb dX10_solve_83 (lv_at hl 5 rfl) ?_
            refine lv_iload hx hb dX10_solve_85 (lv_at hl 0 rfl) ?_
            refine lv_isub hx hb dX10_solve_87 ?_
            refine lv_istore (lv' := [(4, .int _), (6, .int _), (0, .ref (q 78)), (1, .ref (q 27)), (2, .int _), (3, .int _), (5, .int _)]) hx hb dX10_solve_88 hl (by decide) rfl (fun ls hl => ?_)
            refine lv_iload hx hb dX10_solve_90 (lv_at hl 6 rfl) ?_
            refine lv_iconst (v := (nI 2)) hx hb dX10_solve_92 (by decide) ?_
            refine lv_imul hx hb dX10_solve_93 ?_
            refine lv_istore (lv' := [(5, .int _), (4, .int _), (6, .int _), (0, .ref (q 78)), (1, .ref (q 27)), (2, .int _), (3, .int _)]) hx hb dX10_solve_94 hl (by decide) rfl (fun ls hl => ?_)
            refine lv_goto (tgt := 40) hx hb dX10_solve_96 (by decide) ?_
            exact ih40 _ _ _ _ _ _ _ _ hw (lv_sub hl [3, 4, 5, 6, 1, 0] rfl) h
      intro M v2 v3 H locs ls hw hl h
      rw [f_X10_solve_78_27_21_s] at h
      refine lv_iload_n hx hb dX10_solve_21 rfl (lv_at hl 3 rfl) ?_
      refine lv_aload_n hx hb dX10_solve_22 rfl (lv_at hl 1 rfl) ?_
      refine xh_geti C hw 27 3 h sX_27 (x_lt hN rfl) rfl rfl rfl lk_RX10_41 dX10_solve_23 (fun r23 h => ?_)
      refine x_icmp_ge (tgt := 105) hx hb h dX10_solve_26 (by decide) (fun h => ?_) (fun h => ?_)
      · exact hret dX10_solve_105 hw h
      · refine lv_aload_n hx hb dX10_solve_29 rfl (lv_at hl 1 rfl) ?_
        refine xh_getr C hw 27 2 sX_27 (x_lt hN rfl) rfl rfl rfl lk_RX10_46 dX10_solve_30 ?_
        refine lv_iload_n hx hb dX10_solve_33 rfl (lv_at hl 3 rfl) ?_
        refine xh_iald C hw 30 8 h sX_30 (x_lt hN rfl) dX10_solve_34 (fun r34 h => ?_)
        refine lv_istore (lv' := [(4, .int _), (0, .ref (q 78)), (1, .ref (q 27)), (2, .int _), (3, .int _)]) hx hb dX10_solve_35 hl (by decide) rfl (fun ls hl => ?_)
        refine lv_iconst (v := (nI 1)) hx hb dX10_solve_37 (by decide) ?_
        refine lv_istore (lv' := [(5, .int _), (4, .int _), (0, .ref (q 78)), (1, .ref (q 27)), (2, .int _), (3, .int _)]) hx hb dX10_solve_38 hl (by decide) rfl (fun ls hl => ?_)
        exact w40 _ _ _ _ _ _ _ _ _ hw (lv_sub hl [2, 3, 4, 5, 1, 0] rfl) h
  unfold f_X10_solve_78_27 at h
  refine lv_aload_n hx hb dX10_solve_0 rfl (lv_at hl 0 rfl) ?_
  refine xh_getr C hw 78 0 sX_78 (x_lt hN rfl) rfl rfl rfl lk_RX10_9 dX10_solve_1 ?_
  refine lv_ldc2 hx hb ho (hL _ kl_RX10_23) dX10_solve_4 ?_
  refine xh_cSv C hw (rest := []) h (fun _ hy => c_J7_fill_d0a16_79 hq hN hy) ml_RX10_33 st_J7_fill_d0a16 ⟨rfl, rfl, by decide, by decide⟩ rfl hl.1 rfl (Nat.le_of_ble_eq_true rfl) dX10_solve_7 (fun H locs _ M hw h => ?_)
  refine lv_aload_n hx hb dX10_solve_10 rfl (lv_at hl 0 rfl) ?_
  refine xh_getr C hw 78 0 sX_78 (x_lt hN rfl) rfl rfl rfl lk_RX10_9 dX10_solve_11 ?_
  refine lv_iconst (v := (nI 0)) hx hb dX10_solve_14 (by decide) ?_
  refine lv_ldc2 hx hb ho (hL _ kl_RX10_39) dX10_solve_15 ?_
  refine xh_last C hw 79 3001 h sX_79 (x_lt hN rfl) dX10_solve_18 (fun H locs M hw h => ?_)
  refine lv_iconst (v := (nI 0)) hx hb dX10_solve_19 (by decide) ?_
  refine lv_istore_n (lv' := [(3, .int _), (0, .ref (q 78)), (1, .ref (q 27)), (2, .int _)]) hx hb dX10_solve_20 rfl hl (by decide) rfl (fun ls hl => ?_)
  exact w21 _ _ _ _ _ _ _ hw (lv_sub hl [1, 2, 3, 0] rfl) h
def f_X10_isFound_78_27_35 (M : x_M) (v2 : Int32) : Option (Int32 × x_M) := x_rl 3001 (M 79) v2 (fun r40 => if (lg_cmp r40 (4611686018427387904 : Int64)) = 0 then some ((nI 0), M) else some ((nI 1), M))
def f_X10_isFound_78_27_23 (M : x_M) (v2 : Int32) (t1 : Int32) : Option (Int32 × x_M) := x_pf M 78 1 t1 (fun M => x_gf M 78 1 (fun r29 => x_bn (f_X10_solve_78_27 M r29) (fun _ M => f_X10_isFound_78_27_35 M v2)))
def f_X10_isFound_78_27 (M : x_M) (a2 : Int32) : Option (Int32 × x_M) := x_gf M 78 1 (fun r2 => if a2 ≤ r2 then f_X10_isFound_78_27_35 M a2 else x_gf M 78 1 (fun r10 => if 0 ≤ r10 then f_X10_isFound_78_27_23 M a2 (nI 3000) else f_X10_isFound_78_27_23 M a2 a2))
abbrev rm_X10_isFound_78_27 : Room := { frames := 3, cells := 0, slots := 0, locals := 67 }
set_option maxHeartbeats 4000000 in
set_option maxRecDepth 100000 in
theorem c_X10_isFound_78_27 {l : Launch} {D : va_G} {cy : Nat → ClassId} {q ad : Nat → Nat} {NC : Nat} {s0 : State} (hq : x_Q q NC s0.heap.size) (hN : 88 ≤ NC) {M : x_M} {a2 : Int32} {z : Int32 × x_M} (h : f_X10_isFound_78_27 M a2 = some z) : x_Ci l D cy q ad x_spX NC s0 yX10_isFound (x_uw yX10_isFound cX10_isFound 3 (some .boolean)) rm_X10_isFound_78_27 [.ref (q 78), .ref (q 27), .int a2] M z.1 z.2 := by
  refine x_meti hq (by decide) (Nat.le_of_ble_eq_true rfl) ?_
  intro p e s m args below meth c ls Q C hret hl hw
  have hx := C.1.1
  have hb := C.1.2.1
  have ho := C.1.2.2.2.1
  have hL := C.1.2.2.2.2
  have hl : lv_has ls 3 [(0, .ref (q 78)), (1, .ref (q 27)), (2, .int a2)] := hl
  have w35 : ∀ (M : x_M) (v2 : Int32) (H : Heap) (locs : List Loc) (ls : Array Slot), x_B D cy q ad x_spX NC s H locs M → lv_has ls 3 [(0, .ref (q 78)), (2, .int v2)] → f_X10_isFound_78_27_35 M v2 = some z → W p l e rm_X10_isFound_78_27 s m args below meth c H locs 0 0 Q (F0 m 35 ls []) := by
    intro M v2 H locs ls hw hl h
    unfold f_X10_isFound_78_27_35 at h
    refine lv_aload_n hx hb dX10_isFound_35 rfl (lv_at hl 0 rfl) ?_
    refine xh_getr C hw 78 0 sX_78 (x_lt hN rfl) rfl rfl rfl lk_RX10_9 dX10_isFound_36 ?_
    refine lv_iload_n hx hb dX10_isFound_39 rfl (lv_at hl 1 rfl) ?_
    refine xh_lald C hw 79 3001 h sX_79 (x_lt hN rfl) dX10_isFound_40 (fun r40 h => ?_)
    refine lv_ldc2 hx hb ho (hL _ kl_RX10_23) dX10_isFound_41 ?_
    refine W.lcmp hx hb dX10_isFound_44 ?_
    refine x_if_eq (tgt := 52) hx hb h dX10_isFound_45 (by decide) (fun h => ?_) (fun h => ?_)
    · refine lv_iconst (v := (nI 0)) hx hb dX10_isFound_52 (by decide) ?_
      exact hret dX10_isFound_53 rfl hw h
    · refine lv_iconst (v := (nI 1)) hx hb dX10_isFound_48 (by decide) ?_
      refine lv_goto (tgt := 53) hx hb dX10_isFound_49 (by decide) ?_
      exact hret dX10_isFound_53 rfl hw h
  have w23 : ∀ (M : x_M) (v2 : Int32) (t1 : Int32) (H : Heap) (locs : List Loc) (ls : Array Slot), x_B D cy q ad x_spX NC s H locs M → lv_has ls 3 [(0, .ref (q 78)), (1, .ref (q 27)), (2, .int v2)] → f_X10_isFound_78_27_23 M v2 t1 = some z → W p l e rm_X10_isFound_78_27 s m args below meth c H locs 0 0 Q (F0 m 23 ls [.int t1, .ref (q 78)]) := by
    intro M v2 t1 H locs ls hw hl h
    unfold f_X10_isFound_78_27_23 at h
    refine xh_puti C hw 78 1 h sX_78 (x_lt hN rfl) rfl rfl rfl lk_RX10_15 rfl rfl dX10_isFound_23 (fun H locs M hw h => ?_)
    refine lv_aload_n hx hb dX10_isFound_26 rfl (lv_at hl 0 rfl) ?_
    refine lv_aload_n hx hb dX10_isFound_27 rfl (lv_at hl 1 rfl) ?_
    refine lv_aload_n hx hb dX10_isFound_28 rfl (lv_at hl 0 rfl) ?_
    refine xh_geti C hw 78 1 h sX_78 (x_lt hN rfl) rfl rfl rfl lk_RX10_15 dX10_isFound_29 (fun r29 h => ?_)
    refine xh_cVv C hw (rest := []) h (fun _ hy => c_X10_solve_78_27 hq hN hy) ml_RX10_19 mv_X10_solve sX_78 (x_lt hN rfl) rfl ⟨rfl, rfl, by decide, by decide⟩ rfl hl.1 rfl (Nat.le_of_ble_eq_true rfl) dX10_isFound_32 (fun H locs _ M hw h => ?_)
    exact w35 _ _ _ _ _ hw (lv_sub hl [0, 2] rfl) h
  unfold f_X10_isFound_78_27 at h
  refine lv_iload_n hx hb dX10_isFound_0 rfl (lv_at hl 2 rfl) ?_
  refine lv_aload_n hx hb dX10_isFound_1 rfl (lv_at hl 0 rfl) ?_
  refine xh_geti C hw 78 1 h sX_78 (x_lt hN rfl) rfl rfl rfl lk_RX10_15 dX10_isFound_2 (fun r2 h => ?_)
  refine x_icmp_le (tgt := 35) hx hb h dX10_isFound_5 (by decide) (fun h => ?_) (fun h => ?_)
  · exact w35 _ _ _ _ _ hw (lv_sub hl [0, 2] rfl) h
  · refine lv_aload_n hx hb dX10_isFound_8 rfl (lv_at hl 0 rfl) ?_
    refine lv_aload_n hx hb dX10_isFound_9 rfl (lv_at hl 0 rfl) ?_
    refine xh_geti C hw 78 1 h sX_78 (x_lt hN rfl) rfl rfl rfl lk_RX10_15 dX10_isFound_10 (fun r10 h => ?_)
    refine x_if_ge (tgt := 20) hx hb h dX10_isFound_13 (by decide) (fun h => ?_) (fun h => ?_)
    · refine lv_sipush (v := (nI 3000)) hx hb dX10_isFound_20 (by decide) ?_
      exact w23 _ _ _ _ _ _ hw (lv_sub hl [0, 1, 2] rfl) h
    · refine lv_iload_n hx hb dX10_isFound_16 rfl (lv_at hl 2 rfl) ?_
      refine lv_goto (tgt := 23) hx hb dX10_isFound_17 (by decide) ?_
      exact w23 _ _ _ _ _ _ hw (lv_sub hl [0, 1, 2] rfl) h
def f_X10_coinsTo (M : x_M) (a1 : Int32) : Option (Int32 × x_M) := x_rl 3001 (M 79) a1 (fun r5 => x_dl (1099511627776 : Int64) (some ((((r5 / (1099511627776 : Int64))).toInt32), M)))
abbrev rm_X10_coinsTo : Room := { frames := 0, cells := 0, slots := 0, locals := 0 }
set_option maxHeartbeats 4000000 in
set_option maxRecDepth 100000 in
theorem c_X10_coinsTo {l : Launch} {D : va_G} {cy : Nat → ClassId} {q ad : Nat → Nat} {NC : Nat} {s0 : State} (hq : x_Q q NC s0.heap.size) (hN : 88 ≤ NC) {M : x_M} {a1 : Int32} {z : Int32 × x_M} (h : f_X10_coinsTo M a1 = some z) : x_Ci l D cy q ad x_spX NC s0 yX10_coinsTo (x_uw yX10_coinsTo cX10_coinsTo 2 (some .int)) rm_X10_coinsTo [.ref (q 78), .int a1] M z.1 z.2 := by
  refine x_meti hq (by decide) (Nat.le_of_ble_eq_true rfl) ?_
  intro p e s m args below meth c ls Q C hret hl hw
  have hx := C.1.1
  have hb := C.1.2.1
  have ho := C.1.2.2.2.1
  have hL := C.1.2.2.2.2
  have hl : lv_has ls 2 [(0, .ref (q 78)), (1, .int a1)] := hl
  unfold f_X10_coinsTo at h
  refine lv_aload_n hx hb dX10_coinsTo_0 rfl (lv_at hl 0 rfl) ?_
  refine xh_getr C hw 78 0 sX_78 (x_lt hN rfl) rfl rfl rfl lk_RX10_9 dX10_coinsTo_1 ?_
  refine lv_iload_n hx hb dX10_coinsTo_4 rfl (lv_at hl 1 rfl) ?_
  refine xh_lald C hw 79 3001 h sX_79 (x_lt hN rfl) dX10_coinsTo_5 (fun r5 h => ?_)
  refine lv_ldc2 hx hb ho (hL _ kl_RX10_25) dX10_coinsTo_6 ?_
  refine xh_ldiv hx hb h dX10_coinsTo_9 (fun h => ?_)
  refine lv_l2i hx hb dX10_coinsTo_10 rfl ?_
  exact hret dX10_coinsTo_11 rfl hw h
def f_X11_way (M : x_M) (a1 : Int32) : Option (Int32 × x_M) := x_bn (f_X11_within M a1 (nI 0) (nI 3000)) (fun r5 M => if r5 = 0 then some ((-1000000001), M) else x_bn (f_X10_isFound_78_27 M a1) (fun r26 M => if r26 = 0 then some ((-1000000002), M) else x_bn (f_X10_coinsTo M a1) (fun r37 M => some (r37, M))))
abbrev rm_X11_way : Room := { frames := 4, cells := 0, slots := 0, locals := 89 }
set_option maxHeartbeats 4000000 in
set_option maxRecDepth 100000 in
theorem c_X11_way {l : Launch} {D : va_G} {cy : Nat → ClassId} {q ad : Nat → Nat} {NC : Nat} {s0 : State} (hq : x_Q q NC s0.heap.size) (hN : 88 ≤ NC) {M : x_M} {a1 : Int32} {z : Int32 × x_M} (h : f_X11_way M a1 = some z) : x_Ci l D cy q ad x_spX NC s0 yX11_way (x_uw yX11_way cX11_way 2 (some .int)) rm_X11_way [.ref (q 0), .int a1] M z.1 z.2 := by
  refine x_meti hq (by decide) (Nat.le_of_ble_eq_true rfl) ?_
  intro p e s m args below meth c ls Q C hret hl hw
  have hx := C.1.1
  have hb := C.1.2.1
  have ho := C.1.2.2.2.1
  have hL := C.1.2.2.2.2
  have hl : lv_has ls 2 [(0, .ref (q 0)), (1, .int a1)] := hl
  unfold f_X11_way at h
  refine lv_iload_n hx hb dX11_way_0 rfl (lv_at hl 1 rfl) ?_
  refine lv_iconst (v := (nI 0)) hx hb dX11_way_1 (by decide) ?_
  refine lv_sipush (v := (nI 3000)) hx hb dX11_way_2 (by decide) ?_
  refine xh_cSi C hw (rest := []) h (fun _ hy => c_X11_within hq hN hy) ml_RX11_54 st_X11_within ⟨rfl, rfl, by decide, by decide⟩ rfl hl.1 rfl (Nat.le_of_ble_eq_true rfl) dX11_way_5 (fun H locs r5 M hw h => ?_)
  refine x_if_ne (tgt := 14) hx hb h dX11_way_8 (by decide) (fun h => ?_) (fun h => ?_)
  · refine lv_ldc hx hb ho (hL _ kc_RX11_58) dX11_way_11 ?_
    exact hret dX11_way_13 rfl hw h
  · refine lv_aload_n hx hb dX11_way_14 rfl (lv_at hl 0 rfl) ?_
    refine xh_getr C hw 0 3 sX_0 (x_lt hN rfl) rfl rfl rfl lk_RX11_29 dX11_way_15 ?_
    refine lv_aload_n hx hb dX11_way_18 rfl (lv_at hl 0 rfl) ?_
    refine xh_getr C hw 0 0 sX_0 (x_lt hN rfl) rfl rfl rfl lk_RX11_12 dX11_way_19 ?_
    refine xh_getr C hw 1 4 sX_1 (x_lt hN rfl) rfl rfl rfl lk_RX11_289 dX11_way_22 ?_
    refine lv_iload_n hx hb dX11_way_25 rfl (lv_at hl 1 rfl) ?_
    refine xh_cVi C hw (rest := []) h (fun _ hy => c_X10_isFound_78_27 hq hN hy) ml_RX11_298 mv_X10_isFound sX_78 (x_lt hN rfl) rfl ⟨rfl, rfl, by decide, by decide⟩ rfl hl.1 rfl (Nat.le_of_ble_eq_true rfl) dX11_way_26 (fun H locs r26 M hw h => ?_)
    refine x_if_eq (tgt := 43) hx hb h dX11_way_29 (by decide) (fun h => ?_) (fun h => ?_)
    · refine lv_ldc hx hb ho (hL _ kc_RX11_144) dX11_way_43 ?_
      exact hret dX11_way_45 rfl hw h
    · refine lv_aload_n hx hb dX11_way_32 rfl (lv_at hl 0 rfl) ?_
      refine xh_getr C hw 0 3 sX_0 (x_lt hN rfl) rfl rfl rfl lk_RX11_29 dX11_way_33 ?_
      refine lv_iload_n hx hb dX11_way_36 rfl (lv_at hl 1 rfl) ?_
      refine xh_cVi C hw (rest := []) h (fun _ hy => c_X10_coinsTo hq hN hy) ml_RX11_302 mv_X10_coinsTo sX_78 (x_lt hN rfl) rfl ⟨rfl, rfl, by decide, by decide⟩ rfl hl.1 rfl (Nat.le_of_ble_eq_true rfl) dX11_way_37 (fun H locs r37 M hw h => ?_)
      refine lv_goto (tgt := 45) hx hb dX11_way_40 (by decide) ?_
      exact hret dX11_way_45 rfl hw h
def f_X10_timesOf (M : x_M) (a1 : Int32) (a2 : Int32) : Option (Int32 × x_M) := x_rl 3001 (M 79) a1 (fun r7 => x_bn (f_X10_placeOf M a2) (fun r9 M => some (((nI 9) - ((((r7 >>> ((r9).toInt64 &&& 63)) &&& (15 : Int64))).toInt32)), M)))
abbrev rm_X10_timesOf : Room := { frames := 1, cells := 0, slots := 0, locals := 20 }
set_option maxHeartbeats 4000000 in
set_option maxRecDepth 100000 in
theorem c_X10_timesOf {l : Launch} {D : va_G} {cy : Nat → ClassId} {q ad : Nat → Nat} {NC : Nat} {s0 : State} (hq : x_Q q NC s0.heap.size) (hN : 88 ≤ NC) {M : x_M} {a1 : Int32} {a2 : Int32} {z : Int32 × x_M} (h : f_X10_timesOf M a1 a2 = some z) : x_Ci l D cy q ad x_spX NC s0 yX10_timesOf (x_uw yX10_timesOf cX10_timesOf 3 (some .int)) rm_X10_timesOf [.ref (q 78), .int a1, .int a2] M z.1 z.2 := by
  refine x_meti hq (by decide) (Nat.le_of_ble_eq_true rfl) ?_
  intro p e s m args below meth c ls Q C hret hl hw
  have hx := C.1.1
  have hb := C.1.2.1
  have ho := C.1.2.2.2.1
  have hL := C.1.2.2.2.2
  have hl : lv_has ls 3 [(0, .ref (q 78)), (1, .int a1), (2, .int a2)] := hl
  unfold f_X10_timesOf at h
  refine lv_bipush (v := (nI 9)) hx hb dX10_timesOf_0 (by decide) ?_
  refine lv_aload_n hx hb dX10_timesOf_2 rfl (lv_at hl 0 rfl) ?_
  refine xh_getr C hw 78 0 sX_78 (x_lt hN rfl) rfl rfl rfl lk_RX10_9 dX10_timesOf_3 ?_
  refine lv_iload_n hx hb dX10_timesOf_6 rfl (lv_at hl 1 rfl) ?_
  refine xh_lald C hw 79 3001 h sX_79 (x_lt hN rfl) dX10_timesOf_7 (fun r7 h => ?_)
  refine lv_iload_n hx hb dX10_timesOf_8 rfl (lv_at hl 2 rfl) ?_
  refine xh_cSi C hw (rest := [_, _]) h (fun _ hy => c_X10_placeOf hq hN hy) ml_RX10_27 st_X10_placeOf ⟨rfl, rfl, by decide, by decide⟩ rfl hl.1 rfl (Nat.le_of_ble_eq_true rfl) dX10_timesOf_9 (fun H locs r9 M hw h => ?_)
  refine lv_lshr hx hb dX10_timesOf_12 rfl ?_
  refine lv_ldc2 hx hb ho (hL _ kl_RX10_31) dX10_timesOf_13 ?_
  refine lv_land hx hb dX10_timesOf_16 ?_
  refine lv_l2i hx hb dX10_timesOf_17 rfl ?_
  refine lv_isub hx hb dX10_timesOf_18 ?_
  exact hret dX10_timesOf_19 rfl hw h
def f_X11_taken_31 (M : x_M) : Option (Int32 × x_M) := some ((-1000000001), M)
def f_X11_taken (M : x_M) (a1 : Int32) (a2 : Int32) : Option (Int32 × x_M) := x_bn (f_X11_within M a1 (nI 0) (nI 3000)) (fun r5 M => if r5 = 0 then f_X11_taken_31 M else x_gf M 27 3 (fun r20 => x_bn (f_X11_within M a2 (nI 0) (r20 - (nI 1))) (fun r25 M => if r25 = 0 then f_X11_taken_31 M else x_bn (f_X10_isFound_78_27 M a1) (fun r46 M => if r46 = 0 then some ((-1000000002), M) else x_bn (f_X10_timesOf M a1 a2) (fun r58 M => some (r58, M))))))
abbrev rm_X11_taken : Room := { frames := 4, cells := 0, slots := 0, locals := 89 }
set_option maxHeartbeats 4000000 in
set_option maxRecDepth 100000 in
theorem c_X11_taken {l : Launch} {D : va_G} {cy : Nat → ClassId} {q ad : Nat → Nat} {NC : Nat} {s0 : State} (hq : x_Q q NC s0.heap.size) (hN : 88 ≤ NC) {M : x_M} {a1 : Int32} {a2 : Int32} {z : Int32 × x_M} (h : f_X11_taken M a1 a2 = some z) : x_Ci l D cy q ad x_spX NC s0 yX11_taken (x_uw yX11_taken cX11_taken 3 (some .int)) rm_X11_taken [.ref (q 0), .int a1, .int a2] M z.1 z.2 := by
  refine x_meti hq (by decide) (Nat.le_of_ble_eq_true rfl) ?_
  intro p e s m args below meth c ls Q C hret hl hw
  have hx := C.1.1
  have hb := C.1.2.1
  have ho := C.1.2.2.2.1
  have hL := C.1.2.2.2.2
  have hl : lv_has ls 3 [(0, .ref (q 0)), (1, .int a1), (2, .int a2)] := hl
  have w31 : ∀ (M : x_M) (H : Heap) (locs : List Loc) (ls : Array Slot), x_B D cy q ad x_spX NC s H locs M → lv_has ls 3 [] → f_X11_taken_31 M = some z → W p l e rm_X11_taken s m args below meth c H locs 0 0 Q (F0 m 31 ls []) := by
    intro M H locs ls hw hl h
    unfold f_X11_taken_31 at h
    refine lv_ldc hx hb ho (hL _ kc_RX11_58) dX11_taken_31 ?_
    exact hret dX11_taken_33 rfl hw h
  unfold f_X11_taken at h
  refine lv_iload_n hx hb dX11_taken_0 rfl (lv_at hl 1 rfl) ?_
  refine lv_iconst (v := (nI 0)) hx hb dX11_taken_1 (by decide) ?_
  refine lv_sipush (v := (nI 3000)) hx hb dX11_taken_2 (by decide) ?_
  refine xh_cSi C hw (rest := []) h (fun _ hy => c_X11_within hq hN hy) ml_RX11_54 st_X11_within ⟨rfl, rfl, by decide, by decide⟩ rfl hl.1 rfl (Nat.le_of_ble_eq_true rfl) dX11_taken_5 (fun H locs r5 M hw h => ?_)
  refine x_if_eq (tgt := 31) hx hb h dX11_taken_8 (by decide) (fun h => ?_) (fun h => ?_)
  · exact w31 _ _ _ _ hw (lv_sub hl [] rfl) h
  · refine lv_iload_n hx hb dX11_taken_11 rfl (lv_at hl 2 rfl) ?_
    refine lv_iconst (v := (nI 0)) hx hb dX11_taken_12 (by decide) ?_
    refine lv_aload_n hx hb dX11_taken_13 rfl (lv_at hl 0 rfl) ?_
    refine xh_getr C hw 0 0 sX_0 (x_lt hN rfl) rfl rfl rfl lk_RX11_12 dX11_taken_14 ?_
    refine xh_getr C hw 1 4 sX_1 (x_lt hN rfl) rfl rfl rfl lk_RX11_289 dX11_taken_17 ?_
    refine xh_geti C hw 27 3 h sX_27 (x_lt hN rfl) rfl rfl rfl lk_RX11_297 dX11_taken_20 (fun r20 h => ?_)
    refine lv_iconst (v := (nI 1)) hx hb dX11_taken_23 (by decide) ?_
    refine lv_isub hx hb dX11_taken_24 ?_
    refine xh_cSi C hw (rest := []) h (fun _ hy => c_X11_within hq hN hy) ml_RX11_54 st_X11_within ⟨rfl, rfl, by decide, by decide⟩ rfl hl.1 rfl (Nat.le_of_ble_eq_true rfl) dX11_taken_25 (fun H locs r25 M hw h => ?_)
    refine x_if_ne (tgt := 34) hx hb h dX11_taken_28 (by decide) (fun h => ?_) (fun h => ?_)
    · exact w31 _ _ _ _ hw (lv_sub hl [] rfl) h
    · refine lv_aload_n hx hb dX11_taken_34 rfl (lv_at hl 0 rfl) ?_
      refine xh_getr C hw 0 3 sX_0 (x_lt hN rfl) rfl rfl rfl lk_RX11_29 dX11_taken_35 ?_
      refine lv_aload_n hx hb dX11_taken_38 rfl (lv_at hl 0 rfl) ?_
      refine xh_getr C hw 0 0 sX_0 (x_lt hN rfl) rfl rfl rfl lk_RX11_12 dX11_taken_39 ?_
      refine xh_getr C hw 1 4 sX_1 (x_lt hN rfl) rfl rfl rfl lk_RX11_289 dX11_taken_42 ?_
      refine lv_iload_n hx hb dX11_taken_45 rfl (lv_at hl 1 rfl) ?_
      refine xh_cVi C hw (rest := []) h (fun _ hy => c_X10_isFound_78_27 hq hN hy) ml_RX11_298 mv_X10_isFound sX_78 (x_lt hN rfl) rfl ⟨rfl, rfl, by decide, by decide⟩ rfl hl.1 rfl (Nat.le_of_ble_eq_true rfl) dX11_taken_46 (fun H locs r46 M hw h => ?_)
      refine x_if_eq (tgt := 64) hx hb h dX11_taken_49 (by decide) (fun h => ?_) (fun h => ?_)
      · refine lv_ldc hx hb ho (hL _ kc_RX11_144) dX11_taken_64 ?_
        exact hret dX11_taken_66 rfl hw h
      · refine lv_aload_n hx hb dX11_taken_52 rfl (lv_at hl 0 rfl) ?_
        refine xh_getr C hw 0 3 sX_0 (x_lt hN rfl) rfl rfl rfl lk_RX11_29 dX11_taken_53 ?_
        refine lv_iload_n hx hb dX11_taken_56 rfl (lv_at hl 1 rfl) ?_
        refine lv_iload_n hx hb dX11_taken_57 rfl (lv_at hl 2 rfl) ?_
        refine xh_cVi C hw (rest := []) h (fun _ hy => c_X10_timesOf hq hN hy) ml_RX11_306 mv_X10_timesOf sX_78 (x_lt hN rfl) rfl ⟨rfl, rfl, by decide, by decide⟩ rfl hl.1 rfl (Nat.le_of_ble_eq_true rfl) dX11_taken_58 (fun H locs r58 M hw h => ?_)
        refine lv_goto (tgt := 66) hx hb dX11_taken_61 (by decide) ?_
        exact hret dX11_taken_66 rfl hw h
def f_X11_tell (M : x_M) (a1 : Int32) : Option (Int32 × x_M) := x_gf M 0 9 (fun r1 => if r1 < (nI 16) then x_gf M 0 9 (fun r17 => x_wr 16 M 84 r17 a1 (fun M => x_gf M 0 9 (fun r24 => x_pf M 0 9 (r24 + (nI 1)) (fun M => x_gf M 0 9 (fun r33 => some (r33, M)))))) else some ((-1000000003), M))
abbrev rm_X11_tell : Room := { frames := 0, cells := 0, slots := 0, locals := 0 }
set_option maxHeartbeats 4000000 in
set_option maxRecDepth 100000 in
theorem c_X11_tell {l : Launch} {D : va_G} {cy : Nat → ClassId} {q ad : Nat → Nat} {NC : Nat} {s0 : State} (hq : x_Q q NC s0.heap.size) (hN : 88 ≤ NC) {M : x_M} {a1 : Int32} {z : Int32 × x_M} (h : f_X11_tell M a1 = some z) : x_Ci l D cy q ad x_spX NC s0 yX11_tell (x_uw yX11_tell cX11_tell 2 (some .int)) rm_X11_tell [.ref (q 0), .int a1] M z.1 z.2 := by
  refine x_meti hq (by decide) (Nat.le_of_ble_eq_true rfl) ?_
  intro p e s m args below meth c ls Q C hret hl hw
  have hx := C.1.1
  have hb := C.1.2.1
  have ho := C.1.2.2.2.1
  have hL := C.1.2.2.2.2
  have hl : lv_has ls 2 [(0, .ref (q 0)), (1, .int a1)] := hl
  unfold f_X11_tell at h
  refine lv_aload_n hx hb dX11_tell_0 rfl (lv_at hl 0 rfl) ?_
  refine xh_geti C hw 0 9 h sX_0 (x_lt hN rfl) rfl rfl rfl lk_RX11_309 dX11_tell_1 (fun r1 h => ?_)
  refine lv_bipush (v := (nI 16)) hx hb dX11_tell_4 (by decide) ?_
  refine x_icmp_lt (tgt := 12) hx hb h dX11_tell_6 (by decide) (fun h => ?_) (fun h => ?_)
  · refine lv_aload_n hx hb dX11_tell_12 rfl (lv_at hl 0 rfl) ?_
    refine xh_getr C hw 0 5 sX_0 (x_lt hN rfl) rfl rfl rfl lk_RX11_40 dX11_tell_13 ?_
    refine lv_aload_n hx hb dX11_tell_16 rfl (lv_at hl 0 rfl) ?_
    refine xh_geti C hw 0 9 h sX_0 (x_lt hN rfl) rfl rfl rfl lk_RX11_309 dX11_tell_17 (fun r17 h => ?_)
    refine lv_iload_n hx hb dX11_tell_20 rfl (lv_at hl 1 rfl) ?_
    refine xh_iast C hw 84 16 h sX_84 (x_lt hN rfl) dX11_tell_21 (fun H locs M hw h => ?_)
    refine lv_aload_n hx hb dX11_tell_22 rfl (lv_at hl 0 rfl) ?_
    refine lv_dup hx hb dX11_tell_23 rfl ?_
    refine xh_geti C hw 0 9 h sX_0 (x_lt hN rfl) rfl rfl rfl lk_RX11_309 dX11_tell_24 (fun r24 h => ?_)
    refine lv_iconst (v := (nI 1)) hx hb dX11_tell_27 (by decide) ?_
    refine lv_iadd hx hb dX11_tell_28 ?_
    refine xh_puti C hw 0 9 h sX_0 (x_lt hN rfl) rfl rfl rfl lk_RX11_309 rfl rfl dX11_tell_29 (fun H locs M hw h => ?_)
    refine lv_aload_n hx hb dX11_tell_32 rfl (lv_at hl 0 rfl) ?_
    refine xh_geti C hw 0 9 h sX_0 (x_lt hN rfl) rfl rfl rfl lk_RX11_309 dX11_tell_33 (fun r33 h => ?_)
    exact hret dX11_tell_36 rfl hw h
  · refine lv_ldc hx hb ho (hL _ kc_RX11_192) dX11_tell_9 ?_
    exact hret dX11_tell_11 rfl hw h
def f_X11_check_119 (M : x_M) (v4 : Int32) : Option (Int32 × x_M) := some (((nI 1) + v4), M)
def f_X11_check_103 (M : x_M) (v2 : Int32) (v3 : Int32) (v4 : Int32) : Option (Int32 × x_M) := if v4 = v2 then if v4 = v3 then some ((nI 0), M) else f_X11_check_119 M v4 else f_X11_check_119 M v4
def f_X11_check_62 : Nat → x_M → Int32 → Int32 → Int32 → Int32 → Int32 → Option (Int32 × x_M)
  | 0, _, _, _, _, _, _ => none
  | n + 1, M, v1, v2, v3, v4, v5 => if v2 ≤ v5 then f_X11_check_103 M v2 v3 v4 else if v3 ≤ v5 then f_X11_check_103 M v2 v3 v4 else x_rd 16 (M 84) v5 (fun r80 => x_bn (f_X10_timesOf M v1 v5) (fun r88 M => if r80 = r88 then (f_X11_check_62 n) M v1 v2 v3 (v4 + (nI 1)) (v5 + (nI 1)) else f_X11_check_103 M v2 v3 v4))
theorem f_X11_check_62_0 (M : x_M) (v1 : Int32) (v2 : Int32) (v3 : Int32) (v4 : Int32) (v5 : Int32) : f_X11_check_62 0 M v1 v2 v3 v4 v5 = none := rfl
theorem f_X11_check_62_s (n : Nat) (M : x_M) (v1 : Int32) (v2 : Int32) (v3 : Int32) (v4 : Int32) (v5 : Int32) : f_X11_check_62 (n + 1) M v1 v2 v3 v4 v5 = (if v2 ≤ v5 then f_X11_check_103 M v2 v3 v4 else if v3 ≤ v5 then f_X11_check_103 M v2 v3 v4 else x_rd 16 (M 84) v5 (fun r80 => x_bn (f_X10_timesOf M v1 v5) (fun r88 M => if r80 = r88 then (f_X11_check_62 n) M v1 v2 v3 (v4 + (nI 1)) (v5 + (nI 1)) else f_X11_check_103 M v2 v3 v4))) := rfl
def f_X11_check (M : x_M) (a1 : Int32) : Option (Int32 × x_M) := x_gf M 0 9 (fun r1 => x_pf M 0 9 (nI 0) (fun M => x_bn (f_X11_within M a1 (nI 0) (nI 3000)) (fun r15 M => if r15 = 0 then some ((-1000000001), M) else x_bn (f_X10_isFound_78_27 M a1) (fun r36 M => if r36 = 0 then some ((-1000000002), M) else x_gf M 27 3 (fun r52 => f_X11_check_62 x_FU M a1 r1 r52 (nI 0) (nI 0))))))
abbrev rm_X11_check : Room := { frames := 4, cells := 0, slots := 0, locals := 89 }
set_option maxHeartbeats 4000000 in
set_option maxRecDepth 100000 in
theorem c_X11_check {l : Launch} {D : va_G} {cy : Nat → ClassId} {q ad : Nat → Nat} {NC : Nat} {s0 : State} (hq : x_Q q NC s0.heap.size) (hN : 88 ≤ NC) {M : x_M} {a1 : Int32} {z : Int32 × x_M} (h : f_X11_check M a1 = some z) : x_Ci l D cy q ad x_spX NC s0 yX11_check (x_uw yX11_check cX11_check 6 (some .int)) rm_X11_check [.ref (q 0), .int a1] M z.1 z.2 := by
  refine x_meti hq (by decide) (Nat.le_of_ble_eq_true rfl) ?_
  intro p e s m args below meth c ls Q C hret hl hw
  have hx := C.1.1
  have hb := C.1.2.1
  have ho := C.1.2.2.2.1
  have hL := C.1.2.2.2.2
  have hl : lv_has ls 6 [(0, .ref (q 0)), (1, .int a1)] := hl
  have w62 : ∀ (n : Nat) (M : x_M) (v1 : Int32) (v2 : Int32) (v3 : Int32) (v4 : Int32) (v5 : Int32) (H : Heap) (locs : List Loc) (ls : Array Slot), x_B D cy q ad x_spX NC s H locs M → lv_has ls 6 [(0, .ref (q 0)), (1, .int v1), (2, .int v2), (3, .int v3), (4, .int v4), (5, .int v5)] → f_X11_check_62 n M v1 v2 v3 v4 v5 = some z → W p l e rm_X11_check s m args below meth c H locs 0 0 Q (F0 m 62 ls []) := by
    intro n
    induction n with
    | zero =>
      intro M v1 v2 v3 v4 v5 H locs ls hw hl h
      rw [f_X11_check_62_0] at h
      cases h
    | succ n62 ih62 =>
      have w103 : ∀ (M : x_M) (v2 : Int32) (v3 : Int32) (v4 : Int32) (H : Heap) (locs : List Loc) (ls : Array Slot), x_B D cy q ad x_spX NC s H locs M → lv_has ls 6 [(2, .int v2), (3, .int v3), (4, .int v4)] → f_X11_check_103 M v2 v3 v4 = some z → W p l e rm_X11_check s m args below meth c H locs 0 0 Q (F0 m 103 ls []) := by
        have w119 : ∀ (M : x_M) (v4 : Int32) (H : Heap) (locs : List Loc) (ls : Array Slot), x_B D cy q ad x_spX NC s H locs M → lv_has ls 6 [(4, .int v4)] → f_X11_check_119 M v4 = some z → W p l e rm_X11_check s m args below meth c H locs 0 0 Q (F0 m 119 ls []) := by
          intro M v4 H locs ls hw hl h
          unfold f_X11_check_119 at h
          refine lv_iconst (v := (nI 1)) hx hb dX11_check_119 (by decide) ?_
          refine lv_iload hx hb dX11_check_120 (lv_at hl 0 rfl) ?_
          refine lv_iadd hx hb dX11_check_122 ?_
          exact hret dX11_check_123 rfl hw h
        intro M v2 v3 v4 H locs ls hw hl h
        unfold f_X11_check_103 at h
        refine lv_iload hx hb dX11_check_103 (lv_at hl 2 rfl) ?_
        refine lv_iload_n hx hb dX11_check_105 rfl (lv_at hl 0 rfl) ?_
        refine x_icmp_ne (tgt := 119) hx hb h dX11_check_106 (by decide) (fun h => ?_) (fun h => ?_)
        · refine lv_iload hx hb dX11_check_109 (lv_at hl 2 rfl) ?_
          refine lv_iload_n hx hb dX11_check_111 rfl (lv_at hl 1 rfl) ?_
          refine x_icmp_ne (tgt := 119) hx hb h dX11_check_112 (by decide) (fun h => ?_) (fun h => ?_)
          · refine lv_iconst (v := (nI 0)) hx hb dX11_check_115 (by decide) ?_
            refine lv_goto (tgt := 123) hx hb dX11_check_116 (by decide) ?_
            exact hret dX11_check_123 rfl hw h
          · exact w119 _ _ _ _ _ hw (lv_sub hl [2] rfl) h
        · exact w119 _ _ _ _ _ hw (lv_sub hl [2] rfl) h
      intro M v1 v2 v3 v4 v5 H locs ls hw hl h
      rw [f_X11_check_62_s] at h
      refine lv_iload hx hb dX11_check_62 (lv_at hl 5 rfl) ?_
      refine lv_iload_n hx hb dX11_check_64 rfl (lv_at hl 2 rfl) ?_
      refine x_icmp_ge (tgt := 103) hx hb h dX11_check_65 (by decide) (fun h => ?_) (fun h => ?_)
      · exact w103 _ _ _ _ _ _ _ hw (lv_sub hl [2, 3, 4] rfl) h
      · refine lv_iload hx hb dX11_check_68 (lv_at hl 5 rfl) ?_
        refine lv_iload_n hx hb dX11_check_70 rfl (lv_at hl 3 rfl) ?_
        refine x_icmp_ge (tgt := 103) hx hb h dX11_check_71 (by decide) (fun h => ?_) (fun h => ?_)
        · exact w103 _ _ _ _ _ _ _ hw (lv_sub hl [2, 3, 4] rfl) h
        · refine lv_aload_n hx hb dX11_check_74 rfl (lv_at hl 0 rfl) ?_
          refine xh_getr C hw 0 5 sX_0 (x_lt hN rfl) rfl rfl rfl lk_RX11_40 dX11_check_75 ?_
          refine lv_iload hx hb dX11_check_78 (lv_at hl 5 rfl) ?_
          refine xh_iald C hw 84 16 h sX_84 (x_lt hN rfl) dX11_check_80 (fun r80 h => ?_)
          refine lv_aload_n hx hb dX11_check_81 rfl (lv_at hl 0 rfl) ?_
          refine xh_getr C hw 0 3 sX_0 (x_lt hN rfl) rfl rfl rfl lk_RX11_29 dX11_check_82 ?_
          refine lv_iload_n hx hb dX11_check_85 rfl (lv_at hl 1 rfl) ?_
          refine lv_iload hx hb dX11_check_86 (lv_at hl 5 rfl) ?_
          refine xh_cVi C hw (rest := [_]) h (fun _ hy => c_X10_timesOf hq hN hy) ml_RX11_306 mv_X10_timesOf sX_78 (x_lt hN rfl) rfl ⟨rfl, rfl, by decide, by decide⟩ rfl hl.1 rfl (Nat.le_of_ble_eq_true rfl) dX11_check_88 (fun H locs r88 M hw h => ?_)
          refine x_icmp_ne (tgt := 103) hx hb h dX11_check_91 (by decide) (fun h => ?_) (fun h => ?_)
          · refine lv_iinc (lv' := [(4, .int _), (0, .ref (q 0)), (1, .int _), (2, .int _), (3, .int _), (5, .int _)]) hx hb dX11_check_94 hl (k := 4) rfl (x_inc (show Int32.ofInt 1 = (nI 1) by decide) _) (by decide) rfl (fun ls hl => ?_)
            refine lv_iinc (lv' := [(5, .int _), (4, .int _), (0, .ref (q 0)), (1, .int _), (2, .int _), (3, .int _)]) hx hb dX11_check_97 hl (k := 5) rfl (x_inc (show Int32.ofInt 1 = (nI 1) by decide) _) (by decide) rfl (fun ls hl => ?_)
            refine lv_goto (tgt := 62) hx hb dX11_check_100 (by decide) ?_
            exact ih62 _ _ _ _ _ _ _ _ _ hw (lv_sub hl [2, 3, 4, 5, 1, 0] rfl) h
          · exact w103 _ _ _ _ _ _ _ hw (lv_sub hl [2, 3, 4] rfl) h
  unfold f_X11_check at h
  refine lv_aload_n hx hb dX11_check_0 rfl (lv_at hl 0 rfl) ?_
  refine xh_geti C hw 0 9 h sX_0 (x_lt hN rfl) rfl rfl rfl lk_RX11_309 dX11_check_1 (fun r1 h => ?_)
  refine lv_istore_n (lv' := [(2, .int _), (0, .ref (q 0)), (1, .int _)]) hx hb dX11_check_4 rfl hl (by decide) rfl (fun ls hl => ?_)
  refine lv_aload_n hx hb dX11_check_5 rfl (lv_at hl 1 rfl) ?_
  refine lv_iconst (v := (nI 0)) hx hb dX11_check_6 (by decide) ?_
  refine xh_puti C hw 0 9 h sX_0 (x_lt hN rfl) rfl rfl rfl lk_RX11_309 rfl rfl dX11_check_7 (fun H locs M hw h => ?_)
  refine lv_iload_n hx hb dX11_check_10 rfl (lv_at hl 2 rfl) ?_
  refine lv_iconst (v := (nI 0)) hx hb dX11_check_11 (by decide) ?_
  refine lv_sipush (v := (nI 3000)) hx hb dX11_check_12 (by decide) ?_
  refine xh_cSi C hw (rest := []) h (fun _ hy => c_X11_within hq hN hy) ml_RX11_54 st_X11_within ⟨rfl, rfl, by decide, by decide⟩ rfl hl.1 rfl (Nat.le_of_ble_eq_true rfl) dX11_check_15 (fun H locs r15 M hw h => ?_)
  refine x_if_ne (tgt := 24) hx hb h dX11_check_18 (by decide) (fun h => ?_) (fun h => ?_)
  · refine lv_ldc hx hb ho (hL _ kc_RX11_58) dX11_check_21 ?_
    exact hret dX11_check_23 rfl hw h
  · refine lv_aload_n hx hb dX11_check_24 rfl (lv_at hl 1 rfl) ?_
    refine xh_getr C hw 0 3 sX_0 (x_lt hN rfl) rfl rfl rfl lk_RX11_29 dX11_check_25 ?_
    refine lv_aload_n hx hb dX11_check_28 rfl (lv_at hl 1 rfl) ?_
    refine xh_getr C hw 0 0 sX_0 (x_lt hN rfl) rfl rfl rfl lk_RX11_12 dX11_check_29 ?_
    refine xh_getr C hw 1 4 sX_1 (x_lt hN rfl) rfl rfl rfl lk_RX11_289 dX11_check_32 ?_
    refine lv_iload_n hx hb dX11_check_35 rfl (lv_at hl 2 rfl) ?_
    refine xh_cVi C hw (rest := []) h (fun _ hy => c_X10_isFound_78_27 hq hN hy) ml_RX11_298 mv_X10_isFound sX_78 (x_lt hN rfl) rfl ⟨rfl, rfl, by decide, by decide⟩ rfl hl.1 rfl (Nat.le_of_ble_eq_true rfl) dX11_check_36 (fun H locs r36 M hw h => ?_)
    refine x_if_ne (tgt := 45) hx hb h dX11_check_39 (by decide) (fun h => ?_) (fun h => ?_)
    · refine lv_ldc hx hb ho (hL _ kc_RX11_144) dX11_check_42 ?_
      exact hret dX11_check_44 rfl hw h
    · refine lv_aload_n hx hb dX11_check_45 rfl (lv_at hl 1 rfl) ?_
      refine xh_getr C hw 0 0 sX_0 (x_lt hN rfl) rfl rfl rfl lk_RX11_12 dX11_check_46 ?_
      refine xh_getr C hw 1 4 sX_1 (x_lt hN rfl) rfl rfl rfl lk_RX11_289 dX11_check_49 ?_
      refine xh_geti C hw 27 3 h sX_27 (x_lt hN rfl) rfl rfl rfl lk_RX11_297 dX11_check_52 (fun r52 h => ?_)
      refine lv_istore_n (lv' := [(3, .int _), (2, .int _), (0, .ref (q 0)), (1, .int _)]) hx hb dX11_check_55 rfl hl (by decide) rfl (fun ls hl => ?_)
      refine lv_iconst (v := (nI 0)) hx hb dX11_check_56 (by decide) ?_
      refine lv_istore (lv' := [(4, .int _), (3, .int _), (2, .int _), (0, .ref (q 0)), (1, .int _)]) hx hb dX11_check_57 hl (by decide) rfl (fun ls hl => ?_)
      refine lv_iconst (v := (nI 0)) hx hb dX11_check_59 (by decide) ?_
      refine lv_istore (lv' := [(5, .int _), (4, .int _), (3, .int _), (2, .int _), (0, .ref (q 0)), (1, .int _)]) hx hb dX11_check_60 hl (by decide) rfl (fun ls hl => ?_)
      exact w62 _ _ _ _ _ _ _ _ _ _ hw (lv_sub hl [4, 5, 3, 2, 1, 0] rfl) h
def f_X4_hangingWith_64 (k14 : x_M → Int32 → Int32 → Int32 → Option (Int32 × x_M)) (k26 : x_M → Int32 → Int32 → Int32 → Int32 → Option (Int32 × x_M)) (M : x_M) (v2 : Int32) (v3 : Int32) (v4 : Int32) (v5 : Int32) : Option (Int32 × x_M) := k26 M v2 v3 v4 (v5 + (nI 1))
def f_X4_hangingWith_26 (k14 : x_M → Int32 → Int32 → Int32 → Option (Int32 × x_M)) : Nat → x_M → Int32 → Int32 → Int32 → Int32 → Option (Int32 × x_M)
  | 0, _, _, _, _, _ => none
  | n + 1, M, v2, v3, v4, v5 => x_gf M 2 3 (fun r29 => if r29 ≤ v5 then k14 M v2 v3 (v4 + (nI 1)) else x_rd 10 (M 4) v5 (fun r41 => if (r41 &&& v3) = 0 then f_X4_hangingWith_64 k14 (f_X4_hangingWith_26 k14 n) M v2 v3 v4 v5 else x_rd 10 (M 4) v5 (fun r61 => f_X4_hangingWith_64 k14 (f_X4_hangingWith_26 k14 n) M (v2 ||| ((nI 1) <<< (v5 &&& 31))) (v3 ||| r61) v4 v5)))
theorem f_X4_hangingWith_26_0 (k14 : x_M → Int32 → Int32 → Int32 → Option (Int32 × x_M)) (M : x_M) (v2 : Int32) (v3 : Int32) (v4 : Int32) (v5 : Int32) : f_X4_hangingWith_26 k14 0 M v2 v3 v4 v5 = none := rfl
theorem f_X4_hangingWith_26_s (k14 : x_M → Int32 → Int32 → Int32 → Option (Int32 × x_M)) (n : Nat) (M : x_M) (v2 : Int32) (v3 : Int32) (v4 : Int32) (v5 : Int32) : f_X4_hangingWith_26 k14 (n + 1) M v2 v3 v4 v5 = (x_gf M 2 3 (fun r29 => if r29 ≤ v5 then k14 M v2 v3 (v4 + (nI 1)) else x_rd 10 (M 4) v5 (fun r41 => if (r41 &&& v3) = 0 then f_X4_hangingWith_64 k14 (f_X4_hangingWith_26 k14 n) M v2 v3 v4 v5 else x_rd 10 (M 4) v5 (fun r61 => f_X4_hangingWith_64 k14 (f_X4_hangingWith_26 k14 n) M (v2 ||| ((nI 1) <<< (v5 &&& 31))) (v3 ||| r61) v4 v5)))) := rfl
def f_X4_hangingWith_14 : Nat → x_M → Int32 → Int32 → Int32 → Option (Int32 × x_M)
  | 0, _, _, _, _ => none
  | n + 1, M, v2, v3, v4 => x_gf M 2 3 (fun r17 => if r17 ≤ v4 then some (v2, M) else f_X4_hangingWith_26 (f_X4_hangingWith_14 n) x_FU M v2 v3 v4 (nI 0))
theorem f_X4_hangingWith_14_0 (M : x_M) (v2 : Int32) (v3 : Int32) (v4 : Int32) : f_X4_hangingWith_14 0 M v2 v3 v4 = none := rfl
theorem f_X4_hangingWith_14_s (n : Nat) (M : x_M) (v2 : Int32) (v3 : Int32) (v4 : Int32) : f_X4_hangingWith_14 (n + 1) M v2 v3 v4 = (x_gf M 2 3 (fun r17 => if r17 ≤ v4 then some (v2, M) else f_X4_hangingWith_26 (f_X4_hangingWith_14 n) x_FU M v2 v3 v4 (nI 0))) := rfl
def f_X4_hangingWith (M : x_M) (a1 : Int32) : Option (Int32 × x_M) := x_rd 10 (M 4) a1 (fun r9 => f_X4_hangingWith_14 x_FU M ((nI 1) <<< (a1 &&& 31)) r9 (nI 0))
abbrev rm_X4_hangingWith : Room := { frames := 0, cells := 0, slots := 0, locals := 0 }
set_option maxHeartbeats 4000000 in
set_option maxRecDepth 100000 in
theorem c_X4_hangingWith {l : Launch} {D : va_G} {cy : Nat → ClassId} {q ad : Nat → Nat} {NC : Nat} {s0 : State} (hq : x_Q q NC s0.heap.size) (hN : 88 ≤ NC) {M : x_M} {a1 : Int32} {z : Int32 × x_M} (h : f_X4_hangingWith M a1 = some z) : x_Ci l D cy q ad x_spX NC s0 yX4_hangingWith (x_uw yX4_hangingWith cX4_hangingWith 6 (some .int)) rm_X4_hangingWith [.ref (q 2), .int a1] M z.1 z.2 := by
  refine x_meti hq (by decide) (Nat.le_of_ble_eq_true rfl) ?_
  intro p e s m args below meth c ls Q C hret hl hw
  have hx := C.1.1
  have hb := C.1.2.1
  have ho := C.1.2.2.2.1
  have hL := C.1.2.2.2.2
  have hl : lv_has ls 6 [(0, .ref (q 2)), (1, .int a1)] := hl
  have w14 : ∀ (n : Nat) (M : x_M) (v2 : Int32) (v3 : Int32) (v4 : Int32) (H : Heap) (locs : List Loc) (ls : Array Slot), x_B D cy q ad x_spX NC s H locs M → lv_has ls 6 [(0, .ref (q 2)), (2, .int v2), (3, .int v3), (4, .int v4)] → f_X4_hangingWith_14 n M v2 v3 v4 = some z → W p l e rm_X4_hangingWith s m args below meth c H locs 0 0 Q (F0 m 14 ls []) := by
    intro n
    induction n with
    | zero =>
      intro M v2 v3 v4 H locs ls hw hl h
      rw [f_X4_hangingWith_14_0] at h
      cases h
    | succ n14 ih14 =>
      have w26 : ∀ (n : Nat) (M : x_M) (v2 : Int32) (v3 : Int32) (v4 : Int32) (v5 : Int32) (H : Heap) (locs : List Loc) (ls : Array Slot), x_B D cy q ad x_spX NC s H locs M → lv_has ls 6 [(0, .ref (q 2)), (2, .int v2), (3, .int v3), (4, .int v4), (5, .int v5)] → f_X4_hangingWith_26 (f_X4_hangingWith_14 n14) n M v2 v3 v4 v5 = some z → W p l e rm_X4_hangingWith s m args below meth c H locs 0 0 Q (F0 m 26 ls []) := by
        intro n
        induction n with
        | zero =>
          intro M v2 v3 v4 v5 H locs ls hw hl h
          rw [f_X4_hangingWith_26_0] at h
          cases h
        | succ n26 ih26 =>
          have w64 : ∀ (M : x_M) (v2 : Int32) (v3 : Int32) (v4 : Int32) (v5 : Int32) (H : Heap) (locs : List Loc) (ls : Array Slot), x_B D cy q ad x_spX NC s H locs M → lv_has ls 6 [(0, .ref (q 2)), (2, .int v2), (3, .int v3), (4, .int v4), (5, .int v5)] → f_X4_hangingWith_64 (f_X4_hangingWith_14 n14) (f_X4_hangingWith_26 (f_X4_hangingWith_14 n14) n26) M v2 v3 v4 v5 = some z → W p l e rm_X4_hangingWith s m args below meth c H locs 0 0 Q (F0 m 64 ls []) := by
            intro M v2 v3 v4 v5 H locs ls hw hl h
            unfold f_X4_hangingWith_64 at h
            refine lv_iinc (lv' := [(5, .int _), (0, .ref (q 2)), (2, .int _), (3, .int _), (4, .int _)]) hx hb dX4_hangingWith_64 hl (k := 4) rfl (x_inc (show Int32.ofInt 1 = (nI 1) by decide) _) (by decide) rfl (fun ls hl => ?_)
            refine lv_goto (tgt := 26) hx hb dX4_hangingWith_67 (by decide) ?_
            exact ih26 _ _ _ _ _ _ _ _ hw (lv_sub hl [1, 2, 3, 4, 0] rfl) h
          intro M v2 v3 v4 v5 H locs ls hw hl h
          rw [f_X4_hangingWith_26_s] at h
          refine lv_iload hx hb dX4_hangingWith_26 (lv_at hl 4 rfl) ?_
          refine lv_aload_n hx hb dX4_hangingWith_28 rfl (lv_at hl 0 rfl) ?_
          refine xh_geti C hw 2 3 h sX_2 (x_lt hN rfl) rfl rfl rfl lk_RX4_21 dX4_hangingWith_29 (fun r29 h => ?_)
          refine x_icmp_ge (tgt := 70) hx hb h dX4_hangingWith_32 (by decide) (fun h => ?_) (fun h => ?_)
          · refine lv_iinc (lv' := [(4, .int _), (0, .ref (q 2)), (2, .int _), (3, .int _), (5, .int _)]) hx hb dX4_hangingWith_70 hl (k := 3) rfl (x_inc (show Int32.ofInt 1 = (nI 1) by decide) _) (by decide) rfl (fun ls hl => ?_)
            refine lv_goto (tgt := 14) hx hb dX4_hangingWith_73 (by decide) ?_
            exact ih14 _ _ _ _ _ _ _ hw (lv_sub hl [1, 2, 3, 0] rfl) h
          · refine lv_aload_n hx hb dX4_hangingWith_35 rfl (lv_at hl 0 rfl) ?_
            refine xh_getr C hw 2 1 sX_2 (x_lt hN rfl) rfl rfl rfl lk_RX4_15 dX4_hangingWith_36 ?_
            refine lv_iload hx hb dX4_hangingWith_39 (lv_at hl 4 rfl) ?_
            refine xh_iald C hw 4 10 h sX_4 (x_lt hN rfl) dX4_hangingWith_41 (fun r41 h => ?_)
            refine lv_iload_n hx hb dX4_hangingWith_42 rfl (lv_at hl 2 rfl) ?_
            refine lv_iand hx hb dX4_hangingWith_43 ?_
            refine x_if_eq (tgt := 64) hx hb h dX4_hangingWith_44 (by decide) (fun h => ?_) (fun h => ?_)
            · exact w64 _ _ _ _ _ _ _ _ hw (lv_sub hl [0, 1, 2, 3, 4] rfl) h
            · refine lv_iload_n hx hb dX4_hangingWith_47 rfl (lv_at hl 1 rfl) ?_
              refine lv_iconst (v := (nI 1)) hx hb dX4_hangingWith_48 (by decide) ?_
              refine lv_iload hx hb dX4_hangingWith_49 (lv_at hl 4 rfl) ?_
              refine lv_ishl hx hb dX4_hangingWith_51 ?_
              refine lv_ior hx hb dX4_hangingWith_52 ?_
              refine lv_istore_n (lv' := [(2, .int _), (0, .ref (q 2)), (3, .int _), (4, .int _), (5, .int _)]) hx hb dX4_hangingWith_53 rfl hl (by decide) rfl (fun ls hl => ?_)
              refine lv_iload_n hx hb dX4_hangingWith_54 rfl (lv_at hl 2 rfl) ?_
              refine lv_aload_n hx hb dX4_hangingWith_55 rfl (lv_at hl 1 rfl) ?_
              refine xh_getr C hw 2 1 sX_2 (x_lt hN rfl) rfl rfl rfl lk_RX4_15 dX4_hangingWith_56 ?_
              refine lv_iload hx hb dX4_hangingWith_59 (lv_at hl 4 rfl) ?_
              refine xh_iald C hw 4 10 h sX_4 (x_lt hN rfl) dX4_hangingWith_61 (fun r61 h => ?_)
              refine lv_ior hx hb dX4_hangingWith_62 ?_
              refine lv_istore_n (lv' := [(3, .int _), (2, .int _), (0, .ref (q 2)), (4, .int _), (5, .int _)]) hx hb dX4_hangingWith_63 rfl hl (by decide) rfl (fun ls hl => ?_)
              exact w64 _ _ _ _ _ _ _ _ hw (lv_sub hl [2, 1, 0, 3, 4] rfl) h
      intro M v2 v3 v4 H locs ls hw hl h
      rw [f_X4_hangingWith_14_s] at h
      refine lv_iload hx hb dX4_hangingWith_14 (lv_at hl 3 rfl) ?_
      refine lv_aload_n hx hb dX4_hangingWith_16 rfl (lv_at hl 0 rfl) ?_
      refine xh_geti C hw 2 3 h sX_2 (x_lt hN rfl) rfl rfl rfl lk_RX4_21 dX4_hangingWith_17 (fun r17 h => ?_)
      refine x_icmp_ge (tgt := 76) hx hb h dX4_hangingWith_20 (by decide) (fun h => ?_) (fun h => ?_)
      · refine lv_iload_n hx hb dX4_hangingWith_76 rfl (lv_at hl 1 rfl) ?_
        exact hret dX4_hangingWith_77 rfl hw h
      · refine lv_iconst (v := (nI 0)) hx hb dX4_hangingWith_23 (by decide) ?_
        refine lv_istore (lv' := [(5, .int _), (0, .ref (q 2)), (2, .int _), (3, .int _), (4, .int _)]) hx hb dX4_hangingWith_24 hl (by decide) rfl (fun ls hl => ?_)
        exact w26 _ _ _ _ _ _ _ _ _ hw (lv_sub hl [1, 2, 3, 4, 0] rfl) h
  unfold f_X4_hangingWith at h
  refine lv_iconst (v := (nI 1)) hx hb dX4_hangingWith_0 (by decide) ?_
  refine lv_iload_n hx hb dX4_hangingWith_1 rfl (lv_at hl 1 rfl) ?_
  refine lv_ishl hx hb dX4_hangingWith_2 ?_
  refine lv_istore_n (lv' := [(2, .int _), (0, .ref (q 2)), (1, .int _)]) hx hb dX4_hangingWith_3 rfl hl (by decide) rfl (fun ls hl => ?_)
  refine lv_aload_n hx hb dX4_hangingWith_4 rfl (lv_at hl 1 rfl) ?_
  refine xh_getr C hw 2 1 sX_2 (x_lt hN rfl) rfl rfl rfl lk_RX4_15 dX4_hangingWith_5 ?_
  refine lv_iload_n hx hb dX4_hangingWith_8 rfl (lv_at hl 2 rfl) ?_
  refine xh_iald C hw 4 10 h sX_4 (x_lt hN rfl) dX4_hangingWith_9 (fun r9 h => ?_)
  refine lv_istore_n (lv' := [(3, .int _), (2, .int _), (0, .ref (q 2)), (1, .int _)]) hx hb dX4_hangingWith_10 rfl hl (by decide) rfl (fun ls hl => ?_)
  refine lv_iconst (v := (nI 0)) hx hb dX4_hangingWith_11 (by decide) ?_
  refine lv_istore (lv' := [(4, .int _), (3, .int _), (2, .int _), (0, .ref (q 2)), (1, .int _)]) hx hb dX4_hangingWith_12 hl (by decide) rfl (fun ls hl => ?_)
  exact w14 _ _ _ _ _ _ _ _ hw (lv_sub hl [3, 2, 1, 0] rfl) h
