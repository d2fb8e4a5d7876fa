def f_J6_bitCount_0f7a4 (M : x_M) (a1 : Int32) : Option (Int32 × x_M) := some (((((((((a1 - ((a1.toUInt32 >>> ((nI 1).toUInt32 &&& Int32.toUInt32 31)).toInt32 &&& (nI 1431655765))) &&& (nI 858993459)) + (((a1 - ((a1.toUInt32 >>> ((nI 1).toUInt32 &&& Int32.toUInt32 31)).toInt32 &&& (nI 1431655765))).toUInt32 >>> ((nI 2).toUInt32 &&& Int32.toUInt32 31)).toInt32 &&& (nI 858993459))) + ((((a1 - ((a1.toUInt32 >>> ((nI 1).toUInt32 &&& Int32.toUInt32 31)).toInt32 &&& (nI 1431655765))) &&& (nI 858993459)) + (((a1 - ((a1.toUInt32 >>> ((nI 1).toUInt32 &&& Int32.toUInt32 31)).toInt32 &&& (nI 1431655765))).toUInt32 >>> ((nI 2).toUInt32 &&& Int32.toUInt32 31)).toInt32 &&& (nI 858993459))).toUInt32 >>> ((nI 4).toUInt32 &&& Int32.toUInt32 31)).toInt32) &&& (nI 252645135)) + ((((((a1 - ((a1.toUInt32 >>> ((nI 1).toUInt32 &&& Int32.toUInt32 31)).toInt32 &&& (nI 1431655765))) &&& (nI 858993459)) + (((a1 - ((a1.toUInt32 >>> ((nI 1).toUInt32 &&& Int32.toUInt32 31)).toInt32 &&& (nI 1431655765))).toUInt32 >>> ((nI 2).toUInt32 &&& Int32.toUInt32 31)).toInt32 &&& (nI 858993459))) + ((((a1 - ((a1.toUInt32 >>> ((nI 1).toUInt32 &&& Int32.toUInt32 31)).toInt32 &&& (nI 1431655765))) &&& (nI 858993459)) + (((a1 - ((a1.toUInt32 >>> ((nI 1).toUInt32 &&& Int32.toUInt32 31)).toInt32 &&& (nI 1431655765))).toUInt32 >>> ((nI 2).toUInt32 &&& Int32.toUInt32 31)).toInt32 &&& (nI 858993459))).toUInt32 >>> ((nI 4).toUInt32 &&& Int32.toUInt32 31)).toInt32) &&& (nI 252645135)).toUInt32 >>> ((nI 8).toUInt32 &&& Int32.toUInt32 31)).toInt32) + (((((((a1 - ((a1.toUInt32 >>> ((nI 1).toUInt32 &&& Int32.toUInt32 31)).toInt32 &&& (nI 1431655765))) &&& (nI 858993459)) + (((a1 - ((a1.toUInt32 >>> ((nI 1).toUInt32 &&& Int32.toUInt32 31)).toInt32 &&& (nI 1431655765))).toUInt32 >>> ((nI 2).toUInt32 &&& Int32.toUInt32 31)).toInt32 &&& (nI 858993459))) + ((((a1 - ((a1.toUInt32 >>> ((nI 1).toUInt32 &&& Int32.toUInt32 31)).toInt32 &&& (nI 1431655765))) &&& (nI 858993459)) + (((a1 - ((a1.toUInt32 >>> ((nI 1).toUInt32 &&& Int32.toUInt32 31)).toInt32 &&& (nI 1431655765))).toUInt32 >>> ((nI 2).toUInt32 &&& Int32.toUInt32 31)).toInt32 &&& (nI 858993459))).toUInt32 >>> ((nI 4).toUInt32 &&& Int32.toUInt32 31)).toInt32) &&& (nI 252645135)) + ((((((a1 - ((a1.toUInt32 >>> ((nI 1).toUInt32 &&& Int32.toUInt32 31)).toInt32 &&& (nI 1431655765))) &&& (nI 858993459)) + (((a1 - ((a1.toUInt32 >>> ((nI 1).toUInt32 &&& Int32.toUInt32 31)).toInt32 &&& (nI 1431655765))).toUInt32 >>> ((nI 2).toUInt32 &&& Int32.toUInt32 31)).toInt32 &&& (nI 858993459))) + ((((a1 - ((a1.toUInt32 >>> ((nI 1).toUInt32 &&& Int32.toUInt32 31)).toInt32 &&& (nI 1431655765))) &&& (nI 858993459)) + (((a1 - ((a1.toUInt32 >>> ((nI 1).toUInt32 &&& Int32.toUInt32 31)).toInt32 &&& (nI 1431655765))).toUInt32 >>> ((nI 2).toUInt32 &&& Int32.toUInt32 31)).toInt32 &&& (nI 858993459))).toUInt32 >>> ((nI 4).toUInt32 &&& Int32.toUInt32 31)).toInt32) &&& (nI 252645135)).toUInt32 >>> ((nI 8).toUInt32 &&& Int32.toUInt32 31)).toInt32).toUInt32 >>> ((nI 16).toUInt32 &&& Int32.toUInt32 31)).toInt32) &&& (nI 63)), M)
abbrev rm_J6_bitCount_0f7a4 : Room := { frames := 0, cells := 0, slots := 0, locals := 0 }
set_option maxHeartbeats 4000000 in
set_option maxRecDepth 100000 in
theorem c_J6_bitCount_0f7a4 {l : Launch} {D : va_G} {cy : Nat → ClassId} {q ad : Nat → Nat} {NC : Nat} {s0 : State} (hq : x_Q q NC s0.heap.size) (hN : 88 ≤ NC) {M : x_M} {a1 : Int32} {z : Int32 × x_M} (h : f_J6_bitCount_0f7a4 M a1 = some z) : x_Ci l D cy q ad x_spX NC s0 yJ6_bitCount_0f7a4 (x_uw yJ6_bitCount_0f7a4 cJ6_bitCount_0f7a4 1 (some .int)) rm_J6_bitCount_0f7a4 [.int a1] M z.1 z.2 := by
  refine x_meti hq (by decide) (Nat.le_of_ble_eq_true rfl) ?_
  intro p e s m args below meth c ls Q C hret hl hw
  have hx := C.1.1
  have hb := C.1.2.1
  have ho := C.1.2.2.2.1
  have hL := C.1.2.2.2.2
  have hl : lv_has ls 1 [(0, .int a1)] := hl
  unfold f_J6_bitCount_0f7a4 at h
  refine lv_iload_n hx hb dJ6_bitCount_0f7a4_0 rfl (lv_at hl 0 rfl) ?_
  refine lv_iload_n hx hb dJ6_bitCount_0f7a4_1 rfl (lv_at hl 0 rfl) ?_
  refine lv_iconst (v := (nI 1)) hx hb dJ6_bitCount_0f7a4_2 (by decide) ?_
  refine lv_iushr hx hb dJ6_bitCount_0f7a4_3 rfl ?_
  refine lv_ldcw hx hb ho (hL _ kc_RJ6_265) dJ6_bitCount_0f7a4_4 ?_
  refine lv_iand hx hb dJ6_bitCount_0f7a4_7 ?_
  refine lv_isub hx hb dJ6_bitCount_0f7a4_8 ?_
  refine lv_istore_n (lv' := [(0, .int _)]) hx hb dJ6_bitCount_0f7a4_9 rfl hl (by decide) rfl (fun ls hl => ?_)
  refine lv_iload_n hx hb dJ6_bitCount_0f7a4_10 rfl (lv_at hl 0 rfl) ?_
  refine lv_ldcw hx hb ho (hL _ kc_RJ6_266) dJ6_bitCount_0f7a4_11 ?_
  refine lv_iand hx hb dJ6_bitCount_0f7a4_14 ?_
  refine lv_iload_n hx hb dJ6_bitCount_0f7a4_15 rfl (lv_at hl 0 rfl) ?_
  refine lv_iconst (v := (nI 2)) hx hb dJ6_bitCount_0f7a4_16 (by decide) ?_
  refine lv_iushr hx hb dJ6_bitCount_0f7a4_17 rfl ?_
  refine lv_ldcw hx hb ho (hL _ kc_RJ6_266) dJ6_bitCount_0f7a4_18 ?_
  refine lv_iand hx hb dJ6_bitCount_0f7a4_21 ?_
  refine lv_iadd hx hb dJ6_bitCount_0f7a4_22 ?_
  refine lv_istore_n (lv' := [(0, .int _)]) hx hb dJ6_bitCount_0f7a4_23 rfl hl (by decide) rfl (fun ls hl => ?_)
  refine lv_iload_n hx hb dJ6_bitCount_0f7a4_24 rfl (lv_at hl 0 rfl) ?_
  refine lv_iload_n hx hb dJ6_bitCount_0f7a4_25 rfl (lv_at hl 0 rfl) ?_
  refine lv_iconst (v := (nI 4)) hx hb dJ6_bitCount_0f7a4_26 (by decide) ?_
  refine lv_iushr hx hb dJ6_bitCount_0f7a4_27 rfl ?_
  refine lv_iadd hx hb dJ6_bitCount_0f7a4_28 ?_
  refine lv_ldcw hx hb ho (hL _ kc_RJ6_267) dJ6_bitCount_0f7a4_29 ?_
  refine lv_iand hx hb dJ6_bitCount_0f7a4_32 ?_
  refine lv_istore_n (lv' := [(0, .int _)]) hx hb dJ6_bitCount_0f7a4_33 rfl hl (by decide) rfl (fun ls hl => ?_)
  refine lv_iload_n hx hb dJ6_bitCount_0f7a4_34 rfl (lv_at hl 0 rfl) ?_
  refine lv_iload_n hx hb dJ6_bitCount_0f7a4_35 rfl (lv_at hl 0 rfl) ?_
  refine lv_bipush (v := (nI 8)) hx hb dJ6_bitCount_0f7a4_36 (by decide) ?_
  refine lv_iushr hx hb dJ6_bitCount_0f7a4_38 rfl ?_
  refine lv_iadd hx hb dJ6_bitCount_0f7a4_39 ?_
  refine lv_istore_n (lv' := [(0, .int _)]) hx hb dJ6_bitCount_0f7a4_40 rfl hl (by decide) rfl (fun ls hl => ?_)
  refine lv_iload_n hx hb dJ6_bitCount_0f7a4_41 rfl (lv_at hl 0 rfl) ?_
  refine lv_iload_n hx hb dJ6_bitCount_0f7a4_42 rfl (lv_at hl 0 rfl) ?_
  refine lv_bipush (v := (nI 16)) hx hb dJ6_bitCount_0f7a4_43 (by decide) ?_
  refine lv_iushr hx hb dJ6_bitCount_0f7a4_45 rfl ?_
  refine lv_iadd hx hb dJ6_bitCount_0f7a4_46 ?_
  refine lv_istore_n (lv' := [(0, .int _)]) hx hb dJ6_bitCount_0f7a4_47 rfl hl (by decide) rfl (fun ls hl => ?_)
  refine lv_iload_n hx hb dJ6_bitCount_0f7a4_48 rfl (lv_at hl 0 rfl) ?_
  refine lv_bipush (v := (nI 63)) hx hb dJ6_bitCount_0f7a4_49 (by decide) ?_
  refine lv_iand hx hb dJ6_bitCount_0f7a4_51 ?_
  exact hret dJ6_bitCount_0f7a4_52 rfl hw h
def f_X4_ringAt_58 (k7 : x_M → Int32 → Int32 → Int32 → Int32 → Option (Int32 × x_M)) (M : x_M) (v1 : Int32) (v2 : Int32) (v3 : Int32) (v4 : Int32) : Option (Int32 × x_M) := k7 M v1 v2 v3 (v4 + (nI 1))
def f_X4_ringAt_7 : Nat → x_M → Int32 → Int32 → Int32 → Int32 → Option (Int32 × x_M)
  | 0, _, _, _, _, _ => none
  | n + 1, M, v1, v2, v3, v4 => x_gf M 2 3 (fun r10 => if r10 ≤ v4 then some ((-1000000005), M) else if ((v2 >>> (v4 &&& 31)) &&& (nI 1)) = 0 then x_bn (f_X4_hangingWith M v4) (fun r28 M => x_bn (f_J6_bitCount_0f7a4 M r28) (fun r40 M => if r40 < (nI 3) then f_X4_ringAt_58 (f_X4_ringAt_7 n) M v1 (v2 ||| r28) v3 v4 else if v3 = v1 then some (r28, M) else f_X4_ringAt_58 (f_X4_ringAt_7 n) M v1 (v2 ||| r28) (v3 + (nI 1)) v4)) else f_X4_ringAt_58 (f_X4_ringAt_7 n) M v1 v2 v3 v4)
theorem f_X4_ringAt_7_0 (M : x_M) (v1 : Int32) (v2 : Int32) (v3 : Int32) (v4 : Int32) : f_X4_ringAt_7 0 M v1 v2 v3 v4 = none := rfl
theorem f_X4_ringAt_7_s (n : Nat) (M : x_M) (v1 : Int32) (v2 : Int32) (v3 : Int32) (v4 : Int32) : f_X4_ringAt_7 (n + 1) M v1 v2 v3 v4 = (x_gf M 2 3 (fun r10 => if r10 ≤ v4 then some ((-1000000005), M) else if ((v2 >>> (v4 &&& 31)) &&& (nI 1)) = 0 then x_bn (f_X4_hangingWith M v4) (fun r28 M => x_bn (f_J6_bitCount_0f7a4 M r28) (fun r40 M => if r40 < (nI 3) then f_X4_ringAt_58 (f_X4_ringAt_7 n) M v1 (v2 ||| r28) v3 v4 else if v3 = v1 then some (r28, M) else f_X4_ringAt_58 (f_X4_ringAt_7 n) M v1 (v2 ||| r28) (v3 + (nI 1)) v4)) else f_X4_ringAt_58 (f_X4_ringAt_7 n) M v1 v2 v3 v4)) := rfl
def f_X4_ringAt (M : x_M) (a1 : Int32) : Option (Int32 × x_M) := f_X4_ringAt_7 x_FU M a1 (nI 0) (nI 0) (nI 0)
abbrev rm_X4_ringAt : Room := { frames := 1, cells := 0, slots := 0, locals := 25 }
set_option maxHeartbeats 4000000 in
set_option maxRecDepth 100000 in
theorem c_X4_ringAt {l : Launch} {D : va_G} {cy : Nat → ClassId} {q ad : Nat → Nat} {NC : Nat} {s0 : State} (hq : x_Q q NC s0.heap.size) (hN : 88 ≤ NC) {M : x_M} {a1 : Int32} {z : Int32 × x_M} (h : f_X4_ringAt M a1 = some z) : x_Ci l D cy q ad x_spX NC s0 yX4_ringAt (x_uw yX4_ringAt cX4_ringAt 6 (some .int)) rm_X4_ringAt [.ref (q 2), .int a1] M z.1 z.2 := by
  refine x_meti hq (by decide) (Nat.le_of_ble_eq_true rfl) ?_
  intro p e s m args below meth c ls Q C hret hl hw
  have hx := C.1.1
  have hb := C.1.2.1
  have ho := C.1.2.2.2.1
  have hL := C.1.2.2.2.2
  have hl : lv_has ls 6 [(0, .ref (q 2)), (1, .int a1)] := hl
  have w7 : ∀ (n : Nat) (M : x_M) (v1 : Int32) (v2 : Int32) (v3 : Int32) (v4 : Int32) (H : Heap) (locs : List Loc) (ls : Array Slot), x_B D cy q ad x_spX NC s H locs M → lv_has ls 6 [(0, .ref (q 2)), (1, .int v1), (2, .int v2), (3, .int v3), (4, .int v4)] → f_X4_ringAt_7 n M v1 v2 v3 v4 = some z → W p l e rm_X4_ringAt s m args below meth c H locs 0 0 Q (F0 m 7 ls []) := by
    intro n
    induction n with
    | zero =>
      intro M v1 v2 v3 v4 H locs ls hw hl h
      rw [f_X4_ringAt_7_0] at h
      cases h
    | succ n7 ih7 =>
      have w58 : ∀ (M : x_M) (v1 : Int32) (v2 : Int32) (v3 : Int32) (v4 : Int32) (H : Heap) (locs : List Loc) (ls : Array Slot), x_B D cy q ad x_spX NC s H locs M → lv_has ls 6 [(0, .ref (q 2)), (1, .int v1), (2, .int v2), (3, .int v3), (4, .int v4)] → f_X4_ringAt_58 (f_X4_ringAt_7 n7) M v1 v2 v3 v4 = some z → W p l e rm_X4_ringAt s m args below meth c H locs 0 0 Q (F0 m 58 ls []) := by
        intro M v1 v2 v3 v4 H locs ls hw hl h
        unfold f_X4_ringAt_58 at h
        refine lv_iinc (lv' := [(4, .int _), (0, .ref (q 2)), (1, .int _), (2, .int _), (3, .int _)]) hx hb dX4_ringAt_58 hl (k := 4) rfl (x_inc (show Int32.ofInt 1 = (nI 1) by decide) _) (by decide) rfl (fun ls hl => ?_)
        refine lv_goto (tgt := 7) hx hb dX4_ringAt_61 (by decide) ?_
        exact ih7 _ _ _ _ _ _ _ _ hw (lv_sub hl [1, 2, 3, 4, 0] rfl) h
      intro M v1 v2 v3 v4 H locs ls hw hl h
      rw [f_X4_ringAt_7_s] at h
      refine lv_iload hx hb dX4_ringAt_7 (lv_at hl 4 rfl) ?_
      refine lv_aload_n hx hb dX4_ringAt_9 rfl (lv_at hl 0 rfl) ?_
      refine xh_geti C hw 2 3 h sX_2 (x_lt hN rfl) rfl rfl rfl lk_RX4_21 dX4_ringAt_10 (fun r10 h => ?_)
      refine x_icmp_ge (tgt := 64) hx hb h dX4_ringAt_13 (by decide) (fun h => ?_) (fun h => ?_)
      · refine lv_ldc hx hb ho (hL _ kc_RX4_26) dX4_ringAt_64 ?_
        exact hret dX4_ringAt_66 rfl hw h
      · refine lv_iload_n hx hb dX4_ringAt_16 rfl (lv_at hl 2 rfl) ?_
        refine lv_iload hx hb dX4_ringAt_17 (lv_at hl 4 rfl) ?_
        refine lv_ishr hx hb dX4_ringAt_19 ?_
        refine lv_iconst (v := (nI 1)) hx hb dX4_ringAt_20 (by decide) ?_
        refine lv_iand hx hb dX4_ringAt_21 ?_
        refine x_if_ne (tgt := 58) hx hb h dX4_ringAt_22 (by decide) (fun h => ?_) (fun h => ?_)
        · refine lv_aload_n hx hb dX4_ringAt_25 rfl (lv_at hl 0 rfl) ?_
          refine lv_iload hx hb dX4_ringAt_26 (lv_at hl 4 rfl) ?_
          refine xh_cVi C hw (rest := []) h (fun _ hy => c_X4_hangingWith hq hN hy) ml_RX4_27 mv_X4_hangingWith sX_2 (x_lt hN rfl) rfl ⟨rfl, rfl, by decide, by decide⟩ rfl hl.1 rfl (Nat.le_of_ble_eq_true rfl) dX4_ringAt_28 (fun H locs r28 M hw h => ?_)
          refine lv_istore (lv' := [(5, .int _), (0, .ref (q 2)), (1, .int _), (2, .int _), (3, .int _), (4, .int _)]) hx hb dX4_ringAt_31 hl (by decide) rfl (fun ls hl => ?_)
          refine lv_iload_n hx hb dX4_ringAt_33 rfl (lv_at hl 3 rfl) ?_
          refine lv_iload hx hb dX4_ringAt_34 (lv_at hl 0 rfl) ?_
          refine lv_ior hx hb dX4_ringAt_36 ?_
          refine lv_istore_n (lv' := [(2, .int _), (5, .int _), (0, .ref (q 2)), (1, .int _), (3, .int _), (4, .int _)]) hx hb dX4_ringAt_37 rfl hl (by decide) rfl (fun ls hl => ?_)
          refine lv_iload hx hb dX4_ringAt_38 (lv_at hl 1 rfl) ?_
          refine xh_cSi C hw (rest := []) h (fun _ hy => c_J6_bitCount_0f7a4 hq hN hy) ml_RX4_31 st_J6_bitCount_0f7a4 ⟨rfl, rfl, by decide, by decide⟩ rfl hl.1 rfl (Nat.le_of_ble_eq_true rfl) dX4_ringAt_40 (fun H locs r40 M hw h => ?_)
          refine lv_iconst (v := (nI 3)) hx hb dX4_ringAt_43 (by decide) ?_
          refine x_icmp_lt (tgt := 58) hx hb h dX4_ringAt_44 (by decide) (fun h => ?_) (fun h => ?_)
          · exact w58 _ _ _ _ _ _ _ _ hw (lv_sub hl [2, 3, 0, 4, 5] rfl) h
          · refine lv_iload_n hx hb dX4_ringAt_47 rfl (lv_at hl 4 rfl) ?_
            refine lv_iload_n hx hb dX4_ringAt_48 rfl (lv_at hl 3 rfl) ?_
            refine x_icmp_ne (tgt := 55) hx hb h dX4_ringAt_49 (by decide) (fun h => ?_) (fun h => ?_)
            · refine lv_iload hx hb dX4_ringAt_52 (lv_at hl 1 rfl) ?_
              exact hret dX4_ringAt_54 rfl hw h
            · refine lv_iinc (lv' := [(3, .int _), (2, .int _), (5, .int _), (0, .ref (q 2)), (1, .int _), (4, .int _)]) hx hb dX4_ringAt_55 hl (k := 4) rfl (x_inc (show Int32.ofInt 1 = (nI 1) by decide) _) (by decide) rfl (fun ls hl => ?_)
              exact w58 _ _ _ _ _ _ _ _ hw (lv_sub hl [3, 4, 1, 0, 5] rfl) h
        · exact w58 _ _ _ _ _ _ _ _ hw (lv_sub hl [0, 1, 2, 3, 4] rfl) h
  unfold f_X4_ringAt at h
  refine lv_iconst (v := (nI 0)) hx hb dX4_ringAt_0 (by decide) ?_
  refine lv_istore_n (lv' := [(2, .int _), (0, .ref (q 2)), (1, .int _)]) hx hb dX4_ringAt_1 rfl hl (by decide) rfl (fun ls hl => ?_)
  refine lv_iconst (v := (nI 0)) hx hb dX4_ringAt_2 (by decide) ?_
  refine lv_istore_n (lv' := [(3, .int _), (2, .int _), (0, .ref (q 2)), (1, .int _)]) hx hb dX4_ringAt_3 rfl hl (by decide) rfl (fun ls hl => ?_)
  refine lv_iconst (v := (nI 0)) hx hb dX4_ringAt_4 (by decide) ?_
  refine lv_istore (lv' := [(4, .int _), (3, .int _), (2, .int _), (0, .ref (q 2)), (1, .int _)]) hx hb dX4_ringAt_5 hl (by decide) rfl (fun ls hl => ?_)
  exact w7 _ _ _ _ _ _ _ _ _ hw (lv_sub hl [3, 4, 2, 1, 0] rfl) h
def f_X11_ring (M : x_M) (a1 : Int32) : Option (Int32 × x_M) := if 0 ≤ a1 then x_bn (f_X4_ringAt M a1) (fun r17 M => some (r17, M)) else some ((-1000000001), M)
abbrev rm_X11_ring : Room := { frames := 2, cells := 0, slots := 0, locals := 50 }
set_option maxHeartbeats 4000000 in
set_option maxRecDepth 100000 in
theorem c_X11_ring {l : Launch} {D : va_G} {cy : Nat → ClassId} {q ad : Nat → Nat} {NC : Nat} {s0 : State} (hq : x_Q q NC s0.heap.size) (hN : 88 ≤ NC) {M : x_M} {a1 : Int32} {z : Int32 × x_M} (h : f_X11_ring M a1 = some z) : x_Ci l D cy q ad x_spX NC s0 yX11_ring (x_uw yX11_ring cX11_ring 2 (some .int)) rm_X11_ring [.ref (q 0), .int a1] M z.1 z.2 := by
  refine x_meti hq (by decide) (Nat.le_of_ble_eq_true rfl) ?_
  intro p e s m args below meth c ls Q C hret hl hw
  have hx := C.1.1
  have hb := C.1.2.1
  have ho := C.1.2.2.2.1
  have hL := C.1.2.2.2.2
  have hl : lv_has ls 2 [(0, .ref (q 0)), (1, .int a1)] := hl
  unfold f_X11_ring at h
  refine lv_iload_n hx hb dX11_ring_0 rfl (lv_at hl 1 rfl) ?_
  refine x_if_ge (tgt := 9) hx hb h dX11_ring_1 (by decide) (fun h => ?_) (fun h => ?_)
  · refine lv_aload_n hx hb dX11_ring_9 rfl (lv_at hl 0 rfl) ?_
    refine xh_getr C hw 0 0 sX_0 (x_lt hN rfl) rfl rfl rfl lk_RX11_12 dX11_ring_10 ?_
    refine xh_getr C hw 1 0 sX_1 (x_lt hN rfl) rfl rfl rfl lk_RX11_59 dX11_ring_13 ?_
    refine lv_iload_n hx hb dX11_ring_16 rfl (lv_at hl 1 rfl) ?_
    refine xh_cVi C hw (rest := []) h (fun _ hy => c_X4_ringAt hq hN hy) ml_RX11_312 mv_X4_ringAt sX_2 (x_lt hN rfl) rfl ⟨rfl, rfl, by decide, by decide⟩ rfl hl.1 rfl (Nat.le_of_ble_eq_true rfl) dX11_ring_17 (fun H locs r17 M hw h => ?_)
    exact hret dX11_ring_20 rfl hw h
  · refine lv_ldc hx hb ho (hL _ kc_RX11_58) dX11_ring_4 ?_
    refine lv_goto (tgt := 20) hx hb dX11_ring_6 (by decide) ?_
    exact hret dX11_ring_20 rfl hw h
def f_X0_overwrite_36_3 (M : x_M) : Option (Unit × x_M) := x_ac 10 10 M 3 (nI 0) 36 (nI 0) (if (nI 10) < (nI 10) then (nI 10) else (nI 10)) (fun M => some ((), M))
abbrev rm_X0_overwrite_36_3 : Room := { frames := 1, cells := 0, slots := 0, locals := 200 }
set_option maxHeartbeats 4000000 in
set_option maxRecDepth 100000 in
theorem c_X0_overwrite_36_3 {l : Launch} {D : va_G} {cy : Nat → ClassId} {q ad : Nat → Nat} {NC : Nat} {s0 : State} (hq : x_Q q NC s0.heap.size) (hN : 88 ≤ NC) {M : x_M} {z : Unit × x_M} (h : f_X0_overwrite_36_3 M = some z) : x_Cv l D cy q ad x_spX NC s0 yX0_overwrite (x_uw yX0_overwrite cX0_overwrite 2 none) rm_X0_overwrite_36_3 [.ref (q 36), .ref (q 3)] M z.2 := by
  refine x_metv hq (by decide) (Nat.le_of_ble_eq_true rfl) ?_
  intro p e s m args below meth c ls Q C hret hl hw
  have hx := C.1.1
  have hb := C.1.2.1
  have ho := C.1.2.2.2.1
  have hL := C.1.2.2.2.2
  have hl : lv_has ls 2 [(0, .ref (q 36)), (1, .ref (q 3))] := hl
  unfold f_X0_overwrite_36_3 at h
  refine lv_aload_n hx hb dX0_overwrite_0 rfl (lv_at hl 1 rfl) ?_
  refine lv_iconst (v := (nI 0)) hx hb dX0_overwrite_1 (by decide) ?_
  refine lv_aload_n hx hb dX0_overwrite_2 rfl (lv_at hl 0 rfl) ?_
  refine lv_iconst (v := (nI 0)) hx hb dX0_overwrite_3 (by decide) ?_
  refine lv_aload_n hx hb dX0_overwrite_4 rfl (lv_at hl 1 rfl) ?_
  refine va_alen hx hb C.2.1.1 hw.1 3 0 (by rw [x_w_get (x_lt hN rfl), sX_3]; rfl) rfl (v := nI 10) rfl dX0_overwrite_5 ?_
  refine lv_aload_n hx hb dX0_overwrite_6 rfl (lv_at hl 0 rfl) ?_
  refine va_alen hx hb C.2.1.1 hw.1 36 0 (by rw [x_w_get (x_lt hN rfl), sX_36]; rfl) rfl (v := nI 10) rfl dX0_overwrite_7 ?_
  refine xh_min C (rest := [_, _, _, _]) mw_RX0_82 hl.1 ⟨by decide, Nat.le_of_ble_eq_true rfl⟩ dX0_overwrite_8 ?_
  refine xh_copy C hw (rest := []) 3 36 10 10 h sX_3 sX_36 (x_lt hN rfl) (x_lt hN rfl) ac_RX0_88 hl.1 ⟨by decide, Nat.le_of_ble_eq_true rfl⟩ dX0_overwrite_11 (fun H locs M hw h => ?_)
  exact hret dX0_overwrite_14 hw h
def f_X0_overwrite_37_4 (M : x_M) : Option (Unit × x_M) := x_ac 10 10 M 4 (nI 0) 37 (nI 0) (if (nI 10) < (nI 10) then (nI 10) else (nI 10)) (fun M => some ((), M))
abbrev rm_X0_overwrite_37_4 : Room := { frames := 1, cells := 0, slots := 0, locals := 200 }
set_option maxHeartbeats 4000000 in
set_option maxRecDepth 100000 in
theorem c_X0_overwrite_37_4 {l : Launch} {D : va_G} {cy : Nat → ClassId} {q ad : Nat → Nat} {NC : Nat} {s0 : State} (hq : x_Q q NC s0.heap.size) (hN : 88 ≤ NC) {M : x_M} {z : Unit × x_M} (h : f_X0_overwrite_37_4 M = some z) : x_Cv l D cy q ad x_spX NC s0 yX0_overwrite (x_uw yX0_overwrite cX0_overwrite 2 none) rm_X0_overwrite_37_4 [.ref (q 37), .ref (q 4)] M z.2 := by
  refine x_metv hq (by decide) (Nat.le_of_ble_eq_true rfl) ?_
  intro p e s m args below meth c ls Q C hret hl hw
  have hx := C.1.1
  have hb := C.1.2.1
  have ho := C.1.2.2.2.1
  have hL := C.1.2.2.2.2
  have hl : lv_has ls 2 [(0, .ref (q 37)), (1, .ref (q 4))] := hl
  unfold f_X0_overwrite_37_4 at h
  refine lv_aload_n hx hb dX0_overwrite_0 rfl (lv_at hl 1 rfl) ?_
  refine lv_iconst (v := (nI 0)) hx hb dX0_overwrite_1 (by decide) ?_
  refine lv_aload_n hx hb dX0_overwrite_2 rfl (lv_at hl 0 rfl) ?_
  refine lv_iconst (v := (nI 0)) hx hb dX0_overwrite_3 (by decide) ?_
  refine lv_aload_n hx hb dX0_overwrite_4 rfl (lv_at hl 1 rfl) ?_
  refine va_alen hx hb C.2.1.1 hw.1 4 0 (by rw [x_w_get (x_lt hN rfl), sX_4]; rfl) rfl (v := nI 10) rfl dX0_overwrite_5 ?_
  refine lv_aload_n hx hb dX0_overwrite_6 rfl (lv_at hl 0 rfl) ?_
  refine va_alen hx hb C.2.1.1 hw.1 37 0 (by rw [x_w_get (x_lt hN rfl), sX_37]; rfl) rfl (v := nI 10) rfl dX0_overwrite_7 ?_
  refine xh_min C (rest := [_, _, _, _]) mw_RX0_82 hl.1 ⟨by decide, Nat.le_of_ble_eq_true rfl⟩ dX0_overwrite_8 ?_
  refine xh_copy C hw (rest := []) 4 37 10 10 h sX_4 sX_37 (x_lt hN rfl) (x_lt hN rfl) ac_RX0_88 hl.1 ⟨by decide, Nat.le_of_ble_eq_true rfl⟩ dX0_overwrite_11 (fun H locs M hw h => ?_)
  exact hret dX0_overwrite_14 hw h
def f_X0_overwrite_38_5 (M : x_M) : Option (Unit × x_M) := x_ac 10 10 M 5 (nI 0) 38 (nI 0) (if (nI 10) < (nI 10) then (nI 10) else (nI 10)) (fun M => some ((), M))
abbrev rm_X0_overwrite_38_5 : Room := { frames := 1, cells := 0, slots := 0, locals := 200 }
set_option maxHeartbeats 4000000 in
set_option maxRecDepth 100000 in
theorem c_X0_overwrite_38_5 {l : Launch} {D : va_G} {cy : Nat → ClassId} {q ad : Nat → Nat} {NC : Nat} {s0 : State} (hq : x_Q q NC s0.heap.size) (hN : 88 ≤ NC) {M : x_M} {z : Unit × x_M} (h : f_X0_overwrite_38_5 M = some z) : x_Cv l D cy q ad x_spX NC s0 yX0_overwrite (x_uw yX0_overwrite cX0_overwrite 2 none) rm_X0_overwrite_38_5 [.ref (q 38), .ref (q 5)] M z.2 := by
  refine x_metv hq (by decide) (Nat.le_of_ble_eq_true rfl) ?_
  intro p e s m args below meth c ls Q C hret hl hw
  have hx := C.1.1
  have hb := C.1.2.1
  have ho := C.1.2.2.2.1
  have hL := C.1.2.2.2.2
  have hl : lv_has ls 2 [(0, .ref (q 38)), (1, .ref (q 5))] := hl
  unfold f_X0_overwrite_38_5 at h
  refine lv_aload_n hx hb dX0_overwrite_0 rfl (lv_at hl 1 rfl) ?_
  refine lv_iconst (v := (nI 0)) hx hb dX0_overwrite_1 (by decide) ?_
  refine lv_aload_n hx hb dX0_overwrite_2 rfl (lv_at hl 0 rfl) ?_
  refine lv_iconst (v := (nI 0)) hx hb dX0_overwrite_3 (by decide) ?_
  refine lv_aload_n hx hb dX0_overwrite_4 rfl (lv_at hl 1 rfl) ?_
  refine va_alen hx hb C.2.1.1 hw.1 5 0 (by rw [x_w_get (x_lt hN rfl), sX_5]; rfl) rfl (v := nI 10) rfl dX0_overwrite_5 ?_
  refine lv_aload_n hx hb dX0_overwrite_6 rfl (lv_at hl 0 rfl) ?_
  refine va_alen hx hb C.2.1.1 hw.1 38 0 (by rw [x_w_get (x_lt hN rfl), sX_38]; rfl) rfl (v := nI 10) rfl dX0_overwrite_7 ?_
  refine xh_min C (rest := [_, _, _, _]) mw_RX0_82 hl.1 ⟨by decide, Nat.le_of_ble_eq_true rfl⟩ dX0_overwrite_8 ?_
  refine xh_copy C hw (rest := []) 5 38 10 10 h sX_5 sX_38 (x_lt hN rfl) (x_lt hN rfl) ac_RX0_88 hl.1 ⟨by decide, Nat.le_of_ble_eq_true rfl⟩ dX0_overwrite_11 (fun H locs M hw h => ?_)
  exact hret dX0_overwrite_14 hw h
def f_X4_become_35_2 (M : x_M) : Option (Unit × x_M) := x_bn (f_X0_overwrite_36_3 M) (fun _ M => x_bn (f_X0_overwrite_37_4 M) (fun _ M => x_bn (f_X0_overwrite_38_5 M) (fun _ M => x_gf M 2 3 (fun r35 => x_pf M 35 3 r35 (fun M => some ((), M))))))
abbrev rm_X4_become_35_2 : Room := { frames := 2, cells := 0, slots := 0, locals := 221 }
set_option maxHeartbeats 4000000 in
set_option maxRecDepth 100000 in
theorem c_X4_become_35_2 {l : Launch} {D : va_G} {cy : Nat → ClassId} {q ad : Nat → Nat} {NC : Nat} {s0 : State} (hq : x_Q q NC s0.heap.size) (hN : 88 ≤ NC) {M : x_M} {z : Unit × x_M} (h : f_X4_become_35_2 M = some z) : x_Cv l D cy q ad x_spX NC s0 yX4_become (x_uw yX4_become cX4_become 2 none) rm_X4_become_35_2 [.ref (q 35), .ref (q 2)] M z.2 := by
  refine x_metv hq (by decide) (Nat.le_of_ble_eq_true rfl) ?_
  intro p e s m args below meth c ls Q C hret hl hw
  have hx := C.1.1
  have hb := C.1.2.1
  have ho := C.1.2.2.2.1
  have hL := C.1.2.2.2.2
  have hl : lv_has ls 2 [(0, .ref (q 35)), (1, .ref (q 2))] := hl
  unfold f_X4_become_35_2 at h
  refine lv_aload_n hx hb dX4_become_0 rfl (lv_at hl 0 rfl) ?_
  refine xh_getr C hw 35 0 sX_35 (x_lt hN rfl) rfl rfl rfl lk_RX4_9 dX4_become_1 ?_
  refine lv_aload_n hx hb dX4_become_4 rfl (lv_at hl 1 rfl) ?_
  refine xh_getr C hw 2 0 sX_2 (x_lt hN rfl) rfl rfl rfl lk_RX4_9 dX4_become_5 ?_
  refine xh_cSv C hw (rest := []) h (fun _ hy => c_X0_overwrite_36_3 hq hN hy) ml_RX4_36 st_X0_overwrite ⟨rfl, rfl, by decide, by decide⟩ rfl hl.1 rfl (Nat.le_of_ble_eq_true rfl) dX4_become_8 (fun H locs _ M hw h => ?_)
  refine lv_aload_n hx hb dX4_become_11 rfl (lv_at hl 0 rfl) ?_
  refine xh_getr C hw 35 1 sX_35 (x_lt hN rfl) rfl rfl rfl lk_RX4_15 dX4_become_12 ?_
  refine lv_aload_n hx hb dX4_become_15 rfl (lv_at hl 1 rfl) ?_
  refine xh_getr C hw 2 1 sX_2 (x_lt hN rfl) rfl rfl rfl lk_RX4_15 dX4_become_16 ?_
  refine xh_cSv C hw (rest := []) h (fun _ hy => c_X0_overwrite_37_4 hq hN hy) ml_RX4_36 st_X0_overwrite ⟨rfl, rfl, by decide, by decide⟩ rfl hl.1 rfl (Nat.le_of_ble_eq_true rfl) dX4_become_19 (fun H locs _ M hw h => ?_)
  refine lv_aload_n hx hb dX4_become_22 rfl (lv_at hl 0 rfl) ?_
  refine xh_getr C hw 35 2 sX_35 (x_lt hN rfl) rfl rfl rfl lk_RX4_18 dX4_become_23 ?_
  refine lv_aload_n hx hb dX4_become_26 rfl (lv_at hl 1 rfl) ?_
  refine xh_getr C hw 2 2 sX_2 (x_lt hN rfl) rfl rfl rfl lk_RX4_18 dX4_become_27 ?_
  refine xh_cSv C hw (rest := []) h (fun _ hy => c_X0_overwrite_38_5 hq hN hy) ml_RX4_36 st_X0_overwrite ⟨rfl, rfl, by decide, by decide⟩ rfl hl.1 rfl (Nat.le_of_ble_eq_true rfl) dX4_become_30 (fun H locs _ M hw h => ?_)
  refine lv_aload_n hx hb dX4_become_33 rfl (lv_at hl 0 rfl) ?_
  refine lv_aload_n hx hb dX4_become_34 rfl (lv_at hl 1 rfl) ?_
  refine xh_geti C hw 2 3 h sX_2 (x_lt hN rfl) rfl rfl rfl lk_RX4_21 dX4_become_35 (fun r35 h => ?_)
  refine xh_puti C hw 35 3 h sX_35 (x_lt hN rfl) rfl rfl rfl lk_RX4_21 rfl rfl dX4_become_38 (fun H locs M hw h => ?_)
  exact hret dX4_become_41 hw h
def f_X0_overwrite_40_7 (M : x_M) : Option (Unit × x_M) := x_ac 100 100 M 7 (nI 0) 40 (nI 0) (if (nI 100) < (nI 100) then (nI 100) else (nI 100)) (fun M => some ((), M))
abbrev rm_X0_overwrite_40_7 : Room := { frames := 1, cells := 0, slots := 0, locals := 200 }
set_option maxHeartbeats 4000000 in
set_option maxRecDepth 100000 in
theorem c_X0_overwrite_40_7 {l : Launch} {D : va_G} {cy : Nat → ClassId} {q ad : Nat → Nat} {NC : Nat} {s0 : State} (hq : x_Q q NC s0.heap.size) (hN : 88 ≤ NC) {M : x_M} {z : Unit × x_M} (h : f_X0_overwrite_40_7 M = some z) : x_Cv l D cy q ad x_spX NC s0 yX0_overwrite (x_uw yX0_overwrite cX0_overwrite 2 none) rm_X0_overwrite_40_7 [.ref (q 40), .ref (q 7)] M z.2 := by
  refine x_metv hq (by decide) (Nat.le_of_ble_eq_true rfl) ?_
  intro p e s m args below meth c ls Q C hret hl hw
  have hx := C.1.1
  have hb := C.1.2.1
  have ho := C.1.2.2.2.1
  have hL := C.1.2.2.2.2
  have hl : lv_has ls 2 [(0, .ref (q 40)), (1, .ref (q 7))] := hl
  unfold f_X0_overwrite_40_7 at h
  refine lv_aload_n hx hb dX0_overwrite_0 rfl (lv_at hl 1 rfl) ?_
  refine lv_iconst (v := (nI 0)) hx hb dX0_overwrite_1 (by decide) ?_
  refine lv_aload_n hx hb dX0_overwrite_2 rfl (lv_at hl 0 rfl) ?_
  refine lv_iconst (v := (nI 0)) hx hb dX0_overwrite_3 (by decide) ?_
  refine lv_aload_n hx hb dX0_overwrite_4 rfl (lv_at hl 1 rfl) ?_
  refine va_alen hx hb C.2.1.1 hw.1 7 0 (by rw [x_w_get (x_lt hN rfl), sX_7]; rfl) rfl (v := nI 100) rfl dX0_overwrite_5 ?_
  refine lv_aload_n hx hb dX0_overwrite_6 rfl (lv_at hl 0 rfl) ?_
  refine va_alen hx hb C.2.1.1 hw.1 40 0 (by rw [x_w_get (x_lt hN rfl), sX_40]; rfl) rfl (v := nI 100) rfl dX0_overwrite_7 ?_
  refine xh_min C (rest := [_, _, _, _]) mw_RX0_82 hl.1 ⟨by decide, Nat.le_of_ble_eq_true rfl⟩ dX0_overwrite_8 ?_
  refine xh_copy C hw (rest := []) 7 40 100 100 h sX_7 sX_40 (x_lt hN rfl) (x_lt hN rfl) ac_RX0_88 hl.1 ⟨by decide, Nat.le_of_ble_eq_true rfl⟩ dX0_overwrite_11 (fun H locs M hw h => ?_)
  exact hret dX0_overwrite_14 hw h
def f_X0_overwrite_41_8 (M : x_M) : Option (Unit × x_M) := x_ac 100 100 M 8 (nI 0) 41 (nI 0) (if (nI 100) < (nI 100) then (nI 100) else (nI 100)) (fun M => some ((), M))
abbrev rm_X0_overwrite_41_8 : Room := { frames := 1, cells := 0, slots := 0, locals := 200 }
set_option maxHeartbeats 4000000 in
set_option maxRecDepth 100000 in
theorem c_X0_overwrite_41_8 {l : Launch} {D : va_G} {cy : Nat → ClassId} {q ad : Nat → Nat} {NC : Nat} {s0 : State} (hq : x_Q q NC s0.heap.size) (hN : 88 ≤ NC) {M : x_M} {z : Unit × x_M} (h : f_X0_overwrite_41_8 M = some z) : x_Cv l D cy q ad x_spX NC s0 yX0_overwrite (x_uw yX0_overwrite cX0_overwrite 2 none) rm_X0_overwrite_41_8 [.ref (q 41), .ref (q 8)] M z.2 := by
  refine x_metv hq (by decide) (Nat.le_of_ble_eq_true rfl) ?_
  intro p e s m args below meth c ls Q C hret hl hw
  have hx := C.1.1
  have hb := C.1.2.1
  have ho := C.1.2.2.2.1
  have hL := C.1.2.2.2.2
  have hl : lv_has ls 2 [(0, .ref (q 41)), (1, .ref (q 8))] := hl
  unfold f_X0_overwrite_41_8 at h
  refine lv_aload_n hx hb dX0_overwrite_0 rfl (lv_at hl 1 rfl) ?_
  refine lv_iconst (v := (nI 0)) hx hb dX0_overwrite_1 (by decide) ?_
  refine lv_aload_n hx hb dX0_overwrite_2 rfl (lv_at hl 0 rfl) ?_
  refine lv_iconst (v := (nI 0)) hx hb dX0_overwrite_3 (by decide) ?_
  refine lv_aload_n hx hb dX0_overwrite_4 rfl (lv_at hl 1 rfl) ?_
  refine va_alen hx hb C.2.1.1 hw.1 8 0 (by rw [x_w_get (x_lt hN rfl), sX_8]; rfl) rfl (v := nI 100) rfl dX0_overwrite_5 ?_
  refine lv_aload_n hx hb dX0_overwrite_6 rfl (lv_at hl 0 rfl) ?_
  refine va_alen hx hb C.2.1.1 hw.1 41 0 (by rw [x_w_get (x_lt hN rfl), sX_41]; rfl) rfl (v := nI 100) rfl dX0_overwrite_7 ?_
  refine xh_min C (rest := [_, _, _, _]) mw_RX0_82 hl.1 ⟨by decide, Nat.le_of_ble_eq_true rfl⟩ dX0_overwrite_8 ?_
  refine xh_copy C hw (rest := []) 8 41 100 100 h sX_8 sX_41 (x_lt hN rfl) (x_lt hN rfl) ac_RX0_88 hl.1 ⟨by decide, Nat.le_of_ble_eq_true rfl⟩ dX0_overwrite_11 (fun H locs M hw h => ?_)
  exact hret dX0_overwrite_14 hw h
def f_X0_overwrite_42_9 (M : x_M) : Option (Unit × x_M) := x_ac 100 100 M 9 (nI 0) 42 (nI 0) (if (nI 100) < (nI 100) then (nI 100) else (nI 100)) (fun M => some ((), M))
abbrev rm_X0_overwrite_42_9 : Room := { frames := 1, cells := 0, slots := 0, locals := 200 }
set_option maxHeartbeats 4000000 in
set_option maxRecDepth 100000 in
theorem c_X0_overwrite_42_9 {l : Launch} {D : va_G} {cy : Nat → ClassId} {q ad : Nat → Nat} {NC : Nat} {s0 : State} (hq : x_Q q NC s0.heap.size) (hN : 88 ≤ NC) {M : x_M} {z : Unit × x_M} (h : f_X0_overwrite_42_9 M = some z) : x_Cv l D cy q ad x_spX NC s0 yX0_overwrite (x_uw yX0_overwrite cX0_overwrite 2 none) rm_X0_overwrite_42_9 [.ref (q 42), .ref (q 9)] M z.2 := by
  refine x_metv hq (by decide) (Nat.le_of_ble_eq_true rfl) ?_
  intro p e s m args below meth c ls Q C hret hl hw
  have hx := C.1.1
  have hb := C.1.2.1
  have ho := C.1.2.2.2.1
  have hL := C.1.2.2.2.2
  have hl : lv_has ls 2 [(0, .ref (q 42)), (1, .ref (q 9))] := hl
  unfold f_X0_overwrite_42_9 at h
  refine lv_aload_n hx hb dX0_overwrite_0 rfl (lv_at hl 1 rfl) ?_
  refine lv_iconst (v := (nI 0)) hx hb dX0_overwrite_1 (by decide) ?_
  refine lv_aload_n hx hb dX0_overwrite_2 rfl (lv_at hl 0 rfl) ?_
  refine lv_iconst (v := (nI 0)) hx hb dX0_overwrite_3 (by decide) ?_
  refine lv_aload_n hx hb dX0_overwrite_4 rfl (lv_at hl 1 rfl) ?_
  refine va_alen hx hb C.2.1.1 hw.1 9 0 (by rw [x_w_get (x_lt hN rfl), sX_9]; rfl) rfl (v := nI 100) rfl dX0_overwrite_5 ?_
  refine lv_aload_n hx hb dX0_overwrite_6 rfl (lv_at hl 0 rfl) ?_
  refine va_alen hx hb C.2.1.1 hw.1 42 0 (by rw [x_w_get (x_lt hN rfl), sX_42]; rfl) rfl (v := nI 100) rfl dX0_overwrite_7 ?_
  refine xh_min C (rest := [_, _, _, _]) mw_RX0_82 hl.1 ⟨by decide, Nat.le_of_ble_eq_true rfl⟩ dX0_overwrite_8 ?_
  refine xh_copy C hw (rest := []) 9 42 100 100 h sX_9 sX_42 (x_lt hN rfl) (x_lt hN rfl) ac_RX0_88 hl.1 ⟨by decide, Nat.le_of_ble_eq_true rfl⟩ dX0_overwrite_11 (fun H locs M hw h => ?_)
  exact hret dX0_overwrite_14 hw h
def f_X0_overwrite_43_10 (M : x_M) : Option (Unit × x_M) := x_ac 100 100 M 10 (nI 0) 43 (nI 0) (if (nI 100) < (nI 100) then (nI 100) else (nI 100)) (fun M => some ((), M))
abbrev rm_X0_overwrite_43_10 : Room := { frames := 1, cells := 0, slots := 0, locals := 200 }
set_option maxHeartbeats 4000000 in
set_option maxRecDepth 100000 in
theorem c_X0_overwrite_43_10 {l : Launch} {D : va_G} {cy : Nat → ClassId} {q ad : Nat → Nat} {NC : Nat} {s0 : State} (hq : x_Q q NC s0.heap.size) (hN : 88 ≤ NC) {M : x_M} {z : Unit × x_M} (h : f_X0_overwrite_43_10 M = some z) : x_Cv l D cy q ad x_spX NC s0 yX0_overwrite (x_uw yX0_overwrite cX0_overwrite 2 none) rm_X0_overwrite_43_10 [.ref (q 43), .ref (q 10)] M z.2 := by
  refine x_metv hq (by decide) (Nat.le_of_ble_eq_true rfl) ?_
  intro p e s m args below meth c ls Q C hret hl hw
  have hx := C.1.1
  have hb := C.1.2.1
  have ho := C.1.2.2.2.1
  have hL := C.1.2.2.2.2
  have hl : lv_has ls 2 [(0, .ref (q 43)), (1, .ref (q 10))] := hl
  unfold f_X0_overwrite_43_10 at h
  refine lv_aload_n hx hb dX0_overwrite_0 rfl (lv_at hl 1 rfl) ?_
  refine lv_iconst (v := (nI 0)) hx hb dX0_overwrite_1 (by decide) ?_
  refine lv_aload_n hx hb dX0_overwrite_2 rfl (lv_at hl 0 rfl) ?_
  refine lv_iconst (v := (nI 0)) hx hb dX0_overwrite_3 (by decide) ?_
  refine lv_aload_n hx hb dX0_overwrite_4 rfl (lv_at hl 1 rfl) ?_
  refine va_alen hx hb C.2.1.1 hw.1 10 0 (by rw [x_w_get (x_lt hN rfl), sX_10]; rfl) rfl (v := nI 100) rfl dX0_overwrite_5 ?_
  refine lv_aload_n hx hb dX0_overwrite_6 rfl (lv_at hl 0 rfl) ?_
  refine va_alen hx hb C.2.1.1 hw.1 43 0 (by rw [x_w_get (x_lt hN rfl), sX_43]; rfl) rfl (v := nI 100) rfl dX0_overwrite_7 ?_
  refine xh_min C (rest := [_, _, _, _]) mw_RX0_82 hl.1 ⟨by decide, Nat.le_of_ble_eq_true rfl⟩ dX0_overwrite_8 ?_
  refine xh_copy C hw (rest := []) 10 43 100 100 h sX_10 sX_43 (x_lt hN rfl) (x_lt hN rfl) ac_RX0_88 hl.1 ⟨by decide, Nat.le_of_ble_eq_true rfl⟩ dX0_overwrite_11 (fun H locs M hw h => ?_)
  exact hret dX0_overwrite_14 hw h
def f_X0_overwrite_44_11 (M : x_M) : Option (Unit × x_M) := x_ac 100 100 M 11 (nI 0) 44 (nI 0) (if (nI 100) < (nI 100) then (nI 100) else (nI 100)) (fun M => some ((), M))
abbrev rm_X0_overwrite_44_11 : Room := { frames := 1, cells := 0, slots := 0, locals := 200 }
set_option maxHeartbeats 4000000 in
set_option maxRecDepth 100000 in
theorem c_X0_overwrite_44_11 {l : Launch} {D : va_G} {cy : Nat → ClassId} {q ad : Nat → Nat} {NC : Nat} {s0 : State} (hq : x_Q q NC s0.heap.size) (hN : 88 ≤ NC) {M : x_M} {z : Unit × x_M} (h : f_X0_overwrite_44_11 M = some z) : x_Cv l D cy q ad x_spX NC s0 yX0_overwrite (x_uw yX0_overwrite cX0_overwrite 2 none) rm_X0_overwrite_44_11 [.ref (q 44), .ref (q 11)] M z.2 := by
  refine x_metv hq (by decide) (Nat.le_of_ble_eq_true rfl) ?_
  intro p e s m args below meth c ls Q C hret hl hw
  have hx := C.1.1
  have hb := C.1.2.1
  have ho := C.1.2.2.2.1
  have hL := C.1.2.2.2.2
  have hl : lv_has ls 2 [(0, .ref (q 44)), (1, .ref (q 11))] := hl
  unfold f_X0_overwrite_44_11 at h
  refine lv_aload_n hx hb dX0_overwrite_0 rfl (lv_at hl 1 rfl) ?_
  refine lv_iconst (v := (nI 0)) hx hb dX0_overwrite_1 (by decide) ?_
  refine lv_aload_n hx hb dX0_overwrite_2 rfl (lv_at hl 0 rfl) ?_
  refine lv_iconst (v := (nI 0)) hx hb dX0_overwrite_3 (by decide) ?_
  refine lv_aload_n hx hb dX0_overwrite_4 rfl (lv_at hl 1 rfl) ?_
  refine va_alen hx hb C.2.1.1 hw.1 11 0 (by rw [x_w_get (x_lt hN rfl), sX_11]; rfl) rfl (v := nI 100) rfl dX0_overwrite_5 ?_
  refine lv_aload_n hx hb dX0_overwrite_6 rfl (lv_at hl 0 rfl) ?_
  refine va_alen hx hb C.2.1.1 hw.1 44 0 (by rw [x_w_get (x_lt hN rfl), sX_44]; rfl) rfl (v := nI 100) rfl dX0_overwrite_7 ?_
  refine xh_min C (rest := [_, _, _, _]) mw_RX0_82 hl.1 ⟨by decide, Nat.le_of_ble_eq_true rfl⟩ dX0_overwrite_8 ?_
  refine xh_copy C hw (rest := []) 11 44 100 100 h sX_11 sX_44 (x_lt hN rfl) (x_lt hN rfl) ac_RX0_88 hl.1 ⟨by decide, Nat.le_of_ble_eq_true rfl⟩ dX0_overwrite_11 (fun H locs M hw h => ?_)
  exact hret dX0_overwrite_14 hw h
def f_X0_overwrite_45_12 (M : x_M) : Option (Unit × x_M) := x_ac 100 100 M 12 (nI 0) 45 (nI 0) (if (nI 100) < (nI 100) then (nI 100) else (nI 100)) (fun M => some ((), M))
abbrev rm_X0_overwrite_45_12 : Room := { frames := 1, cells := 0, slots := 0, locals := 200 }
set_option maxHeartbeats 4000000 in
set_option maxRecDepth 100000 in
theorem c_X0_overwrite_45_12 {l : Launch} {D : va_G} {cy : Nat → ClassId} {q ad : Nat → Nat} {NC : Nat} {s0 : State} (hq : x_Q q NC s0.heap.size) (hN : 88 ≤ NC) {M : x_M} {z : Unit × x_M} (h : f_X0_overwrite_45_12 M = some z) : x_Cv l D cy q ad x_spX NC s0 yX0_overwrite (x_uw yX0_overwrite cX0_overwrite 2 none) rm_X0_overwrite_45_12 [.ref (q 45), .ref (q 12)] M z.2 := by
  refine x_metv hq (by decide) (Nat.le_of_ble_eq_true rfl) ?_
  intro p e s m args below meth c ls Q C hret hl hw
  have hx := C.1.1
  have hb := C.1.2.1
  have ho := C.1.2.2.2.1
  have hL := C.1.2.2.2.2
  have hl : lv_has ls 2 [(0, .ref (q 45)), (1, .ref (q 12))] := hl
  unfold f_X0_overwrite_45_12 at h
  refine lv_aload_n hx hb dX0_overwrite_0 rfl (lv_at hl 1 rfl) ?_
  refine lv_iconst (v := (nI 0)) hx hb dX0_overwrite_1 (by decide) ?_
  refine lv_aload_n hx hb dX0_overwrite_2 rfl (lv_at hl 0 rfl) ?_
  refine lv_iconst (v := (nI 0)) hx hb dX0_overwrite_3 (by decide) ?_
  refine lv_aload_n hx hb dX0_overwrite_4 rfl (lv_at hl 1 rfl) ?_
  refine va_alen hx hb C.2.1.1 hw.1 12 0 (by rw [x_w_get (x_lt hN rfl), sX_12]; rfl) rfl (v := nI 100) rfl dX0_overwrite_5 ?_
  refine lv_aload_n hx hb dX0_overwrite_6 rfl (lv_at hl 0 rfl) ?_
  refine va_alen hx hb C.2.1.1 hw.1 45 0 (by rw [x_w_get (x_lt hN rfl), sX_45]; rfl) rfl (v := nI 100) rfl dX0_overwrite_7 ?_
  refine xh_min C (rest := [_, _, _, _]) mw_RX0_82 hl.1 ⟨by decide, Nat.le_of_ble_eq_true rfl⟩ dX0_overwrite_8 ?_
  refine xh_copy C hw (rest := []) 12 45 100 100 h sX_12 sX_45 (x_lt hN rfl) (x_lt hN rfl) ac_RX0_88 hl.1 ⟨by decide, Nat.le_of_ble_eq_true rfl⟩ dX0_overwrite_11 (fun H locs M hw h => ?_)
  exact hret dX0_overwrite_14 hw h
def f_X0_overwrite_46_13 (M : x_M) : Option (Unit × x_M) := x_ac 100 100 M 13 (nI 0) 46 (nI 0) (if (nI 100) < (nI 100) then (nI 100) else (nI 100)) (fun M => some ((), M))
abbrev rm_X0_overwrite_46_13 : Room := { frames := 1, cells := 0, slots := 0, locals := 200 }
set_option maxHeartbeats 4000000 in
set_option maxRecDepth 100000 in
theorem c_X0_overwrite_46_13 {l : Launch} {D : va_G} {cy : Nat → ClassId} {q ad : Nat → Nat} {NC : Nat} {s0 : State} (hq : x_Q q NC s0.heap.size) (hN : 88 ≤ NC) {M : x_M} {z : Unit × x_M} (h : f_X0_overwrite_46_13 M = some z) : x_Cv l D cy q ad x_spX NC s0 yX0_overwrite (x_uw yX0_overwrite cX0_overwrite 2 none) rm_X0_overwrite_46_13 [.ref (q 46), .ref (q 13)] M z.2 := by
  refine x_metv hq (by decide) (Nat.le_of_ble_eq_true rfl) ?_
  intro p e s m args below meth c ls Q C hret hl hw
  have hx := C.1.1
  have hb := C.1.2.1
  have ho := C.1.2.2.2.1
  have hL := C.1.2.2.2.2
  have hl : lv_has ls 2 [(0, .ref (q 46)), (1, .ref (q 13))] := hl
  unfold f_X0_overwrite_46_13 at h
  refine lv_aload_n hx hb dX0_overwrite_0 rfl (lv_at hl 1 rfl) ?_
  refine lv_iconst (v := (nI 0)) hx hb dX0_overwrite_1 (by decide) ?_
  refine lv_aload_n hx hb dX0_overwrite_2 rfl (lv_at hl 0 rfl) ?_
  refine lv_iconst (v := (nI 0)) hx hb dX0_overwrite_3 (by decide) ?_
  refine lv_aload_n hx hb dX0_overwrite_4 rfl (lv_at hl 1 rfl) ?_
  refine va_alen hx hb C.2.1.1 hw.1 13 0 (by rw [x_w_get (x_lt hN rfl), sX_13]; rfl) rfl (v := nI 100) rfl dX0_overwrite_5 ?_
  refine lv_aload_n hx hb dX0_overwrite_6 rfl (lv_at hl 0 rfl) ?_
  refine va_alen hx hb C.2.1.1 hw.1 46 0 (by rw [x_w_get (x_lt hN rfl), sX_46]; rfl) rfl (v := nI 100) rfl dX0_overwrite_7 ?_
  refine xh_min C (rest := [_, _, _, _]) mw_RX0_82 hl.1 ⟨by decide, Nat.le_of_ble_eq_true rfl⟩ dX0_overwrite_8 ?_
  refine xh_copy C hw (rest := []) 13 46 100 100 h sX_13 sX_46 (x_lt hN rfl) (x_lt hN rfl) ac_RX0_88 hl.1 ⟨by decide, Nat.le_of_ble_eq_true rfl⟩ dX0_overwrite_11 (fun H locs M hw h => ?_)
  exact hret dX0_overwrite_14 hw h
def f_X0_overwrite_47_14 (M : x_M) : Option (Unit × x_M) := x_ac 100 100 M 14 (nI 0) 47 (nI 0) (if (nI 100) < (nI 100) then (nI 100) else (nI 100)) (fun M => some ((), M))
abbrev rm_X0_overwrite_47_14 : Room := { frames := 1, cells := 0, slots := 0, locals := 200 }
set_option maxHeartbeats 4000000 in
set_option maxRecDepth 100000 in
theorem c_X0_overwrite_47_14 {l : Launch} {D : va_G} {cy : Nat → ClassId} {q ad : Nat → Nat} {NC : Nat} {s0 : State} (hq : x_Q q NC s0.heap.size) (hN : 88 ≤ NC) {M : x_M} {z : Unit × x_M} (h : f_X0_overwrite_47_14 M = some z) : x_Cv l D cy q ad x_spX NC s0 yX0_overwrite (x_uw yX0_overwrite cX0_overwrite 2 none) rm_X0_overwrite_47_14 [.ref (q 47), .ref (q 14)] M z.2 := by
  refine x_metv hq (by decide) (Nat.le_of_ble_eq_true rfl) ?_
  intro p e s m args below meth c ls Q C hret hl hw
  have hx := C.1.1
  have hb := C.1.2.1
  have ho := C.1.2.2.2.1
  have hL := C.1.2.2.2.2
  have hl : lv_has ls 2 [(0, .ref (q 47)), (1, .ref (q 14))] := hl
  unfold f_X0_overwrite_47_14 at h
  refine lv_aload_n hx hb dX0_overwrite_0 rfl (lv_at hl 1 rfl) ?_
  refine lv_iconst (v := (nI 0)) hx hb dX0_overwrite_1 (by decide) ?_
  refine lv_aload_n hx hb dX0_overwrite_2 rfl (lv_at hl 0 rfl) ?_
  refine lv_iconst (v := (nI 0)) hx hb dX0_overwrite_3 (by decide) ?_
  refine lv_aload_n hx hb dX0_overwrite_4 rfl (lv_at hl 1 rfl) ?_
  refine va_alen hx hb C.2.1.1 hw.1 14 0 (by rw [x_w_get (x_lt hN rfl), sX_14]; rfl) rfl (v := nI 100) rfl dX0_overwrite_5 ?_
  refine lv_aload_n hx hb dX0_overwrite_6 rfl (lv_at hl 0 rfl) ?_
  refine va_alen hx hb C.2.1.1 hw.1 47 0 (by rw [x_w_get (x_lt hN rfl), sX_47]; rfl) rfl (v := nI 100) rfl dX0_overwrite_7 ?_
  refine xh_min C (rest := [_, _, _, _]) mw_RX0_82 hl.1 ⟨by decide, Nat.le_of_ble_eq_true rfl⟩ dX0_overwrite_8 ?_
  refine xh_copy C hw (rest := []) 14 47 100 100 h sX_14 sX_47 (x_lt hN rfl) (x_lt hN rfl) ac_RX0_88 hl.1 ⟨by decide, Nat.le_of_ble_eq_true rfl⟩ dX0_overwrite_11 (fun H locs M hw h => ?_)
  exact hret dX0_overwrite_14 hw h
def f_X0_overwrite_48_15 (M : x_M) : Option (Unit × x_M) := x_ac 100 100 M 15 (nI 0) 48 (nI 0) (if (nI 100) < (nI 100) then (nI 100) else (nI 100)) (fun M => some ((), M))
abbrev rm_X0_overwrite_48_15 : Room := { frames := 1, cells := 0, slots := 0, locals := 200 }
set_option maxHeartbeats 4000000 in
set_option maxRecDepth 100000 in
theorem c_X0_overwrite_48_15 {l : Launch} {D : va_G} {cy : Nat → ClassId} {q ad : Nat → Nat} {NC : Nat} {s0 : State} (hq : x_Q q NC s0.heap.size) (hN : 88 ≤ NC) {M : x_M} {z : Unit × x_M} (h : f_X0_overwrite_48_15 M = some z) : x_Cv l D cy q ad x_spX NC s0 yX0_overwrite (x_uw yX0_overwrite cX0_overwrite 2 none) rm_X0_overwrite_48_15 [.ref (q 48), .ref (q 15)] M z.2 := by
  refine x_metv hq (by decide) (Nat.le_of_ble_eq_true rfl) ?_
  intro p e s m args below meth c ls Q C hret hl hw
  have hx := C.1.1
  have hb := C.1.2.1
  have ho := C.1.2.2.2.1
  have hL := C.1.2.2.2.2
  have hl : lv_has ls 2 [(0, .ref (q 48)), (1, .ref (q 15))] := hl
  unfold f_X0_overwrite_48_15 at h
  refine lv_aload_n hx hb dX0_overwrite_0 rfl (lv_at hl 1 rfl) ?_
  refine lv_iconst (v := (nI 0)) hx hb dX0_overwrite_1 (by decide) ?_
  refine lv_aload_n hx hb dX0_overwrite_2 rfl (lv_at hl 0 rfl) ?_
  refine lv_iconst (v := (nI 0)) hx hb dX0_overwrite_3 (by decide) ?_
  refine lv_aload_n hx hb dX0_overwrite_4 rfl (lv_at hl 1 rfl) ?_
  refine va_alen hx hb C.2.1.1 hw.1 15 0 (by rw [x_w_get (x_lt hN rfl), sX_15]; rfl) rfl (v := nI 100) rfl dX0_overwrite_5 ?_
  refine lv_aload_n hx hb dX0_overwrite_6 rfl (lv_at hl 0 rfl) ?_
  refine va_alen hx hb C.2.1.1 hw.1 48 0 (by rw [x_w_get (x_lt hN rfl), sX_48]; rfl) rfl (v := nI 100) rfl dX0_overwrite_7 ?_
  refine xh_min C (rest := [_, _, _, _]) mw_RX0_82 hl.1 ⟨by decide, Nat.le_of_ble_eq_true rfl⟩ dX0_overwrite_8 ?_
  refine xh_copy C hw (rest := []) 15 48 100 100 h sX_15 sX_48 (x_lt hN rfl) (x_lt hN rfl) ac_RX0_88 hl.1 ⟨by decide, Nat.le_of_ble_eq_true rfl⟩ dX0_overwrite_11 (fun H locs M hw h => ?_)
  exact hret dX0_overwrite_14 hw h
def f_X3_become_39_6 (M : x_M) : Option (Unit × x_M) := x_bn (f_X0_overwrite_40_7 M) (fun _ M => x_bn (f_X0_overwrite_41_8 M) (fun _ M => x_bn (f_X0_overwrite_42_9 M) (fun _ M => x_bn (f_X0_overwrite_43_10 M) (fun _ M => x_bn (f_X0_overwrite_44_11 M) (fun _ M => x_bn (f_X0_overwrite_45_12 M) (fun _ M => x_bn (f_X0_overwrite_46_13 M) (fun _ M => x_bn (f_X0_overwrite_47_14 M) (fun _ M => x_bn (f_X0_overwrite_48_15 M) (fun _ M => x_gf M 6 9 (fun r101 => x_pf M 39 9 r101 (fun M => some ((), M))))))))))))
abbrev rm_X3_become_39_6 : Room := { frames := 2, cells := 0, slots := 0, locals := 221 }
set_option maxHeartbeats 4000000 in
set_option maxRecDepth 100000 in
theorem c_X3_become_39_6 {l : Launch} {D : va_G} {cy : Nat → ClassId} {q ad : Nat → Nat} {NC : Nat} {s0 : State} (hq : x_Q q NC s0.heap.size) (hN : 88 ≤ NC) {M : x_M} {z : Unit × x_M} (h : f_X3_become_39_6 M = some z) : x_Cv l D cy q ad x_spX NC s0 yX3_become (x_uw yX3_become cX3_become 2 none) rm_X3_become_39_6 [.ref (q 39), .ref (q 6)] M z.2 := by
  refine x_metv hq (by decide) (Nat.le_of_ble_eq_true rfl) ?_
  intro p e s m args below meth c ls Q C hret hl hw
  have hx := C.1.1
  have hb := C.1.2.1
  have ho := C.1.2.2.2.1
  have hL := C.1.2.2.2.2
  have hl : lv_has ls 2 [(0, .ref (q 39)), (1, .ref (q 6))] := hl
  unfold f_X3_become_39_6 at h
  refine lv_aload_n hx hb dX3_become_0 rfl (lv_at hl 0 rfl) ?_
  refine xh_getr C hw 39 0 sX_39 (x_lt hN rfl) rfl rfl rfl lk_RX3_9 dX3_become_1 ?_
  refine lv_aload_n hx hb dX3_become_4 rfl (lv_at hl 1 rfl) ?_
  refine xh_getr C hw 6 0 sX_6 (x_lt hN rfl) rfl rfl rfl lk_RX3_9 dX3_become_5 ?_
  refine xh_cSv C hw (rest := []) h (fun _ hy => c_X0_overwrite_40_7 hq hN hy) ml_RX3_49 st_X0_overwrite ⟨rfl, rfl, by decide, by decide⟩ rfl hl.1 rfl (Nat.le_of_ble_eq_true rfl) dX3_become_8 (fun H locs _ M hw h => ?_)
  refine lv_aload_n hx hb dX3_become_11 rfl (lv_at hl 0 rfl) ?_
  refine xh_getr C hw 39 1 sX_39 (x_lt hN rfl) rfl rfl rfl lk_RX3_15 dX3_become_12 ?_
  refine lv_aload_n hx hb dX3_become_15 rfl (lv_at hl 1 rfl) ?_
  refine xh_getr C hw 6 1 sX_6 (x_lt hN rfl) rfl rfl rfl lk_RX3_15 dX3_become_16 ?_
  refine xh_cSv C hw (rest := []) h (fun _ hy => c_X0_overwrite_41_8 hq hN hy) ml_RX3_49 st_X0_overwrite ⟨rfl, rfl, by decide, by decide⟩ rfl hl.1 rfl (Nat.le_of_ble_eq_true rfl) dX3_become_19 (fun H locs _ M hw h => ?_)
  refine lv_aload_n hx hb dX3_become_22 rfl (lv_at hl 0 rfl) ?_
  refine xh_getr C hw 39 2 sX_39 (x_lt hN rfl) rfl rfl rfl lk_RX3_18 dX3_become_23 ?_
  refine lv_aload_n hx hb dX3_become_26 rfl (lv_at hl 1 rfl) ?_
  refine xh_getr C hw 6 2 sX_6 (x_lt hN rfl) rfl rfl rfl lk_RX3_18 dX3_become_27 ?_
  refine xh_cSv C hw (rest := []) h (fun _ hy => c_X0_overwrite_42_9 hq hN hy) ml_RX3_49 st_X0_overwrite ⟨rfl, rfl, by decide, by decide⟩ rfl hl.1 rfl (Nat.le_of_ble_eq_true rfl) dX3_become_30 (fun H locs _ M hw h => ?_)
  refine lv_aload_n hx hb dX3_become_33 rfl (lv_at hl 0 rfl) ?_
  refine xh_getr C hw 39 3 sX_39 (x_lt hN rfl) rfl rfl rfl lk_RX3_21 dX3_become_34 ?_
  refine lv_aload_n hx hb dX3_become_37 rfl (lv_at hl 1 rfl) ?_
  refine xh_getr C hw 6 3 sX_6 (x_lt hN rfl) rfl rfl rfl lk_RX3_21 dX3_become_38 ?_
  refine xh_cSv C hw (rest := []) h (fun _ hy => c_X0_overwrite_43_10 hq hN hy) ml_RX3_49 st_X0_overwrite ⟨rfl, rfl, by decide, by decide⟩ rfl hl.1 rfl (Nat.le_of_ble_eq_true rfl) dX3_become_41 (fun H locs _ M hw h => ?_)
  refine lv_aload_n hx hb dX3_become_44 rfl (lv_at hl 0 rfl) ?_
  refine xh_getr C hw 39 4 sX_39 (x_lt hN rfl) rfl rfl rfl lk_RX3_24 dX3_become_45 ?_
  refine lv_aload_n hx hb dX3_become_48 rfl (lv_at hl 1 rfl) ?_
  refine xh_getr C hw 6 4 sX_6 (x_lt hN rfl) rfl rfl rfl lk_RX3_24 dX3_become_49 ?_
  refine xh_cSv C hw (rest := []) h (fun _ hy => c_X0_overwrite_44_11 hq hN hy) ml_RX3_49 st_X0_overwrite ⟨rfl, rfl, by decide, by decide⟩ rfl hl.1 rfl (Nat.le_of_ble_eq_true rfl) dX3_become_52 (fun H locs _ M hw h => ?_)
  refine lv_aload_n hx hb dX3_become_55 rfl (lv_at hl 0 rfl) ?_
  refine xh_getr C hw 39 5 sX_39 (x_lt hN rfl) rfl rfl rfl lk_RX3_27 dX3_become_56 ?_
  refine lv_aload_n hx hb dX3_become_59 rfl (lv_at hl 1 rfl) ?_
  refine xh_getr C hw 6 5 sX_6 (x_lt hN rfl) rfl rfl rfl lk_RX3_27 dX3_become_60 ?_
  refine xh_cSv C hw (rest := []) h (fun _ hy => c_X0_overwrite_45_12 hq hN hy) ml_RX3_49 st_X0_overwrite ⟨rfl, rfl, by decide, by decide⟩ rfl hl.1 rfl (Nat.le_of_ble_eq_true rfl) dX3_become_63 (fun H locs _ M hw h => ?_)
  refine lv_aload_n hx hb dX3_become_66 rfl (lv_at hl 0 rfl) ?_
  refine xh_getr C hw 39 6 sX_39 (x_lt hN rfl) rfl rfl rfl lk_RX3_30 dX3_become_67 ?_
  refine lv_aload_n hx hb dX3_become_70 rfl (lv_at hl 1 rfl) ?_
  refine xh_getr C hw 6 6 sX_6 (x_lt hN rfl) rfl rfl rfl lk_RX3_30 dX3_become_71 ?_
  refine xh_cSv C hw (rest := []) h (fun _ hy => c_X0_overwrite_46_13 hq hN hy) ml_RX3_49 st_X0_overwrite ⟨rfl, rfl, by decide, by decide⟩ rfl hl.1 rfl (Nat.le_of_ble_eq_true rfl) dX3_become_74 (fun H locs _ M hw h => ?_)
  refine lv_aload_n hx hb dX3_become_77 rfl (lv_at hl 0 rfl) ?_
  refine xh_getr C hw 39 7 sX_39 (x_lt hN rfl) rfl rfl rfl lk_RX3_33 dX3_become_78 ?_
  refine lv_aload_n hx hb dX3_become_81 rfl (lv_at hl 1 rfl) ?_
  refine xh_getr C hw 6 7 sX_6 (x_lt hN rfl) rfl rfl rfl lk_RX3_33 dX3_become_82 ?_
  refine xh_cSv C hw (rest := []) h (fun _ hy => c_X0_overwrite_47_14 hq hN hy) ml_RX3_49 st_X0_overwrite ⟨rfl, rfl, by decide, by decide⟩ rfl hl.1 rfl (Nat.le_of_ble_eq_true rfl) dX3_become_85 (fun H locs _ M hw h => ?_)
  refine lv_aload_n hx hb dX3_become_88 rfl (lv_at hl 0 rfl) ?_
  refine xh_getr C hw 39 8 sX_39 (x_lt hN rfl) rfl rfl rfl lk_RX3_36 dX3_become_89 ?_
  refine lv_aload_n hx hb dX3_become_92 rfl (lv_at hl 1 rfl) ?_
  refine xh_getr C hw 6 8 sX_6 (x_lt hN rfl) rfl rfl rfl lk_RX3_36 dX3_become_93 ?_
  refine xh_cSv C hw (rest := []) h (fun _ hy => c_X0_overwrite_48_15 hq hN hy) ml_RX3_49 st_X0_overwrite ⟨rfl, rfl, by decide, by decide⟩ rfl hl.1 rfl (Nat.le_of_ble_eq_true rfl) dX3_become_96 (fun H locs _ M hw h => ?_)
  refine lv_aload_n hx hb dX3_become_99 rfl (lv_at hl 0 rfl) ?_
  refine lv_aload_n hx hb dX3_become_100 rfl (lv_at hl 1 rfl) ?_
  refine xh_geti C hw 6 9 h sX_6 (x_lt hN rfl) rfl rfl rfl lk_RX3_39 dX3_become_101 (fun r101 h => ?_)
  refine xh_puti C hw 39 9 h sX_39 (x_lt hN rfl) rfl rfl rfl lk_RX3_39 rfl rfl dX3_become_104 (fun H locs M hw h => ?_)
  exact hret dX3_become_107 hw h
def f_X9_become_49_16_2 (NC : Nat) : Nat → x_M → Int32 → Option (Unit × x_M)
  | 0, _, _ => none
  | n + 1, M, v2 => if (nI 4) ≤ v2 then x_gf M 16 2 (fun r27 => x_pf M 49 2 r27 (fun M => some ((), M))) else x_rd 4 (M 17) v2 (fun r17 => if r17 = 0 then x_wr 4 M 50 v2 0 (fun M => (f_X9_become_49_16_2 NC n) M (v2 + (nI 1))) else x_tk NC r17 (x_wr 4 M 50 v2 r17 (fun M => (f_X9_become_49_16_2 NC n) M (v2 + (nI 1)))))
theorem f_X9_become_49_16_2_0 (NC : Nat) (M : x_M) (v2 : Int32) : f_X9_become_49_16_2 NC 0 M v2 = none := rfl
theorem f_X9_become_49_16_2_s (NC : Nat) (n : Nat) (M : x_M) (v2 : Int32) : f_X9_become_49_16_2 NC (n + 1) M v2 = (if (nI 4) ≤ v2 then x_gf M 16 2 (fun r27 => x_pf M 49 2 r27 (fun M => some ((), M))) else x_rd 4 (M 17) v2 (fun r17 => if r17 = 0 then x_wr 4 M 50 v2 0 (fun M => (f_X9_become_49_16_2 NC n) M (v2 + (nI 1))) else x_tk NC r17 (x_wr 4 M 50 v2 r17 (fun M => (f_X9_become_49_16_2 NC n) M (v2 + (nI 1)))))) := rfl
def f_X9_become_49_16 (NC : Nat) (M : x_M) : Option (Unit × x_M) := f_X9_become_49_16_2 NC x_FU M (nI 0)
abbrev rm_X9_become_49_16 : Room := { frames := 0, cells := 0, slots := 0, locals := 0 }
set_option maxHeartbeats 4000000 in
set_option maxRecDepth 100000 in
theorem c_X9_become_49_16 {l : Launch} {D : va_G} {cy : Nat → ClassId} {q ad : Nat → Nat} {NC : Nat} {s0 : State} (hq : x_Q q NC s0.heap.size) (hN : 88 ≤ NC) {M : x_M} {z : Unit × x_M} (h : f_X9_become_49_16 NC M = some z) : x_Cv l D cy q ad x_spX NC s0 yX9_become (x_uw yX9_become cX9_become 3 none) rm_X9_become_49_16 [.ref (q 49), .ref (q 16)] M z.2 := by
  refine x_metv hq (by decide) (Nat.le_of_ble_eq_true rfl) ?_
  intro p e s m args below meth c ls Q C hret hl hw
  have hx := C.1.1
  have hb := C.1.2.1
  have ho := C.1.2.2.2.1
  have hL := C.1.2.2.2.2
  have hl : lv_has ls 3 [(0, .ref (q 49)), (1, .ref (q 16))] := hl
  have w2 : ∀ (n : Nat) (M : x_M) (v2 : Int32) (H : Heap) (locs : List Loc) (ls : Array Slot), x_B D cy q ad x_spX NC s H locs M → lv_has ls 3 [(0, .ref (q 49)), (1, .ref (q 16)), (2, .int v2)] → f_X9_become_49_16_2 NC n M v2 = some z → W p l e rm_X9_become_49_16 s m args below meth c H locs 0 0 Q (F0 m 2 ls []) := by
    intro n
    induction n with
    | zero =>
      intro M v2 H locs ls hw hl h
      rw [f_X9_become_49_16_2_0] at h
      cases h
    | succ n2 ih2 =>
      intro M v2 H locs ls hw hl h
      rw [f_X9_become_49_16_2_s] at h
      refine lv_iload_n hx hb dX9_become_2 rfl (lv_at hl 2 rfl) ?_
      refine lv_iconst (v := (nI 4)) hx hb dX9_become_3 (by decide) ?_
      refine x_icmp_ge (tgt := 25) hx hb h dX9_become_4 (by decide) (fun h => ?_) (fun h => ?_)
      · refine lv_aload_n hx hb dX9_become_25 rfl (lv_at hl 0 rfl) ?_
        refine lv_aload_n hx hb dX9_become_26 rfl (lv_at hl 1 rfl) ?_
        refine xh_geti C hw 16 2 h sX_16 (x_lt hN rfl) rfl rfl rfl lk_RX9_24 dX9_become_27 (fun r27 h => ?_)
        refine xh_puti C hw 49 2 h sX_49 (x_lt hN rfl) rfl rfl rfl lk_RX9_24 rfl rfl dX9_become_30 (fun H locs M hw h => ?_)
        exact hret dX9_become_33 hw h
      · refine lv_aload_n hx hb dX9_become_7 rfl (lv_at hl 0 rfl) ?_
        refine xh_getr C hw 49 0 sX_49 (x_lt hN rfl) rfl rfl rfl lk_RX9_11 dX9_become_8 ?_
        refine lv_iload_n hx hb dX9_become_11 rfl (lv_at hl 2 rfl) ?_
        refine lv_aload_n hx hb dX9_become_12 rfl (lv_at hl 1 rfl) ?_
        refine xh_getr C hw 16 0 sX_16 (x_lt hN rfl) rfl rfl rfl lk_RX9_11 dX9_become_13 ?_
        refine lv_iload_n hx hb dX9_become_16 rfl (lv_at hl 2 rfl) ?_
        refine xh_tald2 C hw 17 4 h sX_17 (x_lt hN rfl) dX9_become_17 (fun r17 h => ?_) (fun r17 h => ?_)
        · refine xh_tastN C hw 50 4 h sX_50 (x_lt hN rfl) dX9_become_18 (fun H locs M hw h => ?_)
          refine lv_iinc (lv' := [(2, .int _), (0, .ref (q 49)), (1, .ref (q 16))]) hx hb dX9_become_19 hl (k := 2) rfl (x_inc (show Int32.ofInt 1 = (nI 1) by decide) _) (by decide) rfl (fun ls hl => ?_)
          refine lv_goto (tgt := 2) hx hb dX9_become_22 (by decide) ?_
          exact ih2 _ _ _ _ _ hw (lv_sub hl [1, 2, 0] rfl) h
        · refine xh_tast C hw 50 4 h sX_50 (x_lt hN rfl) dX9_become_18 (fun H locs M hw h => ?_)
          refine lv_iinc (lv' := [(2, .int _), (0, .ref (q 49)), (1, .ref (q 16))]) hx hb dX9_become_19 hl (k := 2) rfl (x_inc (show Int32.ofInt 1 = (nI 1) by decide) _) (by decide) rfl (fun ls hl => ?_)
          refine lv_goto (tgt := 2) hx hb dX9_become_22 (by decide) ?_
          exact ih2 _ _ _ _ _ hw (lv_sub hl [1, 2, 0] rfl) h
  unfold f_X9_become_49_16 at h
  refine lv_iconst (v := (nI 0)) hx hb dX9_become_0 (by decide) ?_
  refine lv_istore_n (lv' := [(2, .int _), (0, .ref (q 49)), (1, .ref (q 16))]) hx hb dX9_become_1 rfl hl (by decide) rfl (fun ls hl => ?_)
  exact w2 _ _ _ _ _ _ hw (lv_sub hl [1, 2, 0] rfl) h
def f_X0_overwrite_52_19 (M : x_M) : Option (Unit × x_M) := x_ac 8 8 M 19 (nI 0) 52 (nI 0) (if (nI 8) < (nI 8) then (nI 8) else (nI 8)) (fun M => some ((), M))
abbrev rm_X0_overwrite_52_19 : Room := { frames := 1, cells := 0, slots := 0, locals := 200 }
set_option maxHeartbeats 4000000 in
set_option maxRecDepth 100000 in
theorem c_X0_overwrite_52_19 {l : Launch} {D : va_G} {cy : Nat → ClassId} {q ad : Nat → Nat} {NC : Nat} {s0 : State} (hq : x_Q q NC s0.heap.size) (hN : 88 ≤ NC) {M : x_M} {z : Unit × x_M} (h : f_X0_overwrite_52_19 M = some z) : x_Cv l D cy q ad x_spX NC s0 yX0_overwrite (x_uw yX0_overwrite cX0_overwrite 2 none) rm_X0_overwrite_52_19 [.ref (q 52), .ref (q 19)] M z.2 := by
  refine x_metv hq (by decide) (Nat.le_of_ble_eq_true rfl) ?_
  intro p e s m args below meth c ls Q C hret hl hw
  have hx := C.1.1
  have hb := C.1.2.1
  have ho := C.1.2.2.2.1
  have hL := C.1.2.2.2.2
  have hl : lv_has ls 2 [(0, .ref (q 52)), (1, .ref (q 19))] := hl
  unfold f_X0_overwrite_52_19 at h
  refine lv_aload_n hx hb dX0_overwrite_0 rfl (lv_at hl 1 rfl) ?_
  refine lv_iconst (v := (nI 0)) hx hb dX0_overwrite_1 (by decide) ?_
  refine lv_aload_n hx hb dX0_overwrite_2 rfl (lv_at hl 0 rfl) ?_
  refine lv_iconst (v := (nI 0)) hx hb dX0_overwrite_3 (by decide) ?_
  refine lv_aload_n hx hb dX0_overwrite_4 rfl (lv_at hl 1 rfl) ?_
  refine va_alen hx hb C.2.1.1 hw.1 19 0 (by rw [x_w_get (x_lt hN rfl), sX_19]; rfl) rfl (v := nI 8) rfl dX0_overwrite_5 ?_
  refine lv_aload_n hx hb dX0_overwrite_6 rfl (lv_at hl 0 rfl) ?_
  refine va_alen hx hb C.2.1.1 hw.1 52 0 (by rw [x_w_get (x_lt hN rfl), sX_52]; rfl) rfl (v := nI 8) rfl dX0_overwrite_7 ?_
  refine xh_min C (rest := [_, _, _, _]) mw_RX0_82 hl.1 ⟨by decide, Nat.le_of_ble_eq_true rfl⟩ dX0_overwrite_8 ?_
  refine xh_copy C hw (rest := []) 19 52 8 8 h sX_19 sX_52 (x_lt hN rfl) (x_lt hN rfl) ac_RX0_88 hl.1 ⟨by decide, Nat.le_of_ble_eq_true rfl⟩ dX0_overwrite_11 (fun H locs M hw h => ?_)
  exact hret dX0_overwrite_14 hw h
def f_X0_overwrite_53_20 (M : x_M) : Option (Unit × x_M) := x_ac 8 8 M 20 (nI 0) 53 (nI 0) (if (nI 8) < (nI 8) then (nI 8) else (nI 8)) (fun M => some ((), M))
abbrev rm_X0_overwrite_53_20 : Room := { frames := 1, cells := 0, slots := 0, locals := 200 }
set_option maxHeartbeats 4000000 in
set_option maxRecDepth 100000 in
theorem c_X0_overwrite_53_20 {l : Launch} {D : va_G} {cy : Nat → ClassId} {q ad : Nat → Nat} {NC : Nat} {s0 : State} (hq : x_Q q NC s0.heap.size) (hN : 88 ≤ NC) {M : x_M} {z : Unit × x_M} (h : f_X0_overwrite_53_20 M = some z) : x_Cv l D cy q ad x_spX NC s0 yX0_overwrite (x_uw yX0_overwrite cX0_overwrite 2 none) rm_X0_overwrite_53_20 [.ref (q 53), .ref (q 20)] M z.2 := by
  refine x_metv hq (by decide) (Nat.le_of_ble_eq_true rfl) ?_
  intro p e s m args below meth c ls Q C hret hl hw
  have hx := C.1.1
  have hb := C.1.2.1
  have ho := C.1.2.2.2.1
  have hL := C.1.2.2.2.2
  have hl : lv_has ls 2 [(0, .ref (q 53)), (1, .ref (q 20))] := hl
  unfold f_X0_overwrite_53_20 at h
  refine lv_aload_n hx hb dX0_overwrite_0 rfl (lv_at hl 1 rfl) ?_
  refine lv_iconst (v := (nI 0)) hx hb dX0_overwrite_1 (by decide) ?_
  refine lv_aload_n hx hb dX0_overwrite_2 rfl (lv_at hl 0 rfl) ?_
  refine lv_iconst (v := (nI 0)) hx hb dX0_overwrite_3 (by decide) ?_
  refine lv_aload_n hx hb dX0_overwrite_4 rfl (lv_at hl 1 rfl) ?_
  refine va_alen hx hb C.2.1.1 hw.1 20 0 (by rw [x_w_get (x_lt hN rfl), sX_20]; rfl) rfl (v := nI 8) rfl dX0_overwrite_5 ?_
  refine lv_aload_n hx hb dX0_overwrite_6 rfl (lv_at hl 0 rfl) ?_
  refine va_alen hx hb C.2.1.1 hw.1 53 0 (by rw [x_w_get (x_lt hN rfl), sX_53]; rfl) rfl (v := nI 8) rfl dX0_overwrite_7 ?_
  refine xh_min C (rest := [_, _, _, _]) mw_RX0_82 hl.1 ⟨by decide, Nat.le_of_ble_eq_true rfl⟩ dX0_overwrite_8 ?_
  refine xh_copy C hw (rest := []) 20 53 8 8 h sX_20 sX_53 (x_lt hN rfl) (x_lt hN rfl) ac_RX0_88 hl.1 ⟨by decide, Nat.le_of_ble_eq_true rfl⟩ dX0_overwrite_11 (fun H locs M hw h => ?_)
  exact hret dX0_overwrite_14 hw h
def f_X0_overwrite_54_21 (M : x_M) : Option (Unit × x_M) := x_ac 8 8 M 21 (nI 0) 54 (nI 0) (if (nI 8) < (nI 8) then (nI 8) else (nI 8)) (fun M => some ((), M))
abbrev rm_X0_overwrite_54_21 : Room := { frames := 1, cells := 0, slots := 0, locals := 200 }
set_option maxHeartbeats 4000000 in
set_option maxRecDepth 100000 in
theorem c_X0_overwrite_54_21 {l : Launch} {D : va_G} {cy : Nat → ClassId} {q ad : Nat → Nat} {NC : Nat} {s0 : State} (hq : x_Q q NC s0.heap.size) (hN : 88 ≤ NC) {M : x_M} {z : Unit × x_M} (h : f_X0_overwrite_54_21 M = some z) : x_Cv l D cy q ad x_spX NC s0 yX0_overwrite (x_uw yX0_overwrite cX0_overwrite 2 none) rm_X0_overwrite_54_21 [.ref (q 54), .ref (q 21)] M z.2 := by
  refine x_metv hq (by decide) (Nat.le_of_ble_eq_true rfl) ?_
  intro p e s m args below meth c ls Q C hret hl hw
  have hx := C.1.1
  have hb := C.1.2.1
  have ho := C.1.2.2.2.1
  have hL := C.1.2.2.2.2
  have hl : lv_has ls 2 [(0, .ref (q 54)), (1, .ref (q 21))] := hl
  unfold f_X0_overwrite_54_21 at h
  refine lv_aload_n hx hb dX0_overwrite_0 rfl (lv_at hl 1 rfl) ?_
  refine lv_iconst (v := (nI 0)) hx hb dX0_overwrite_1 (by decide) ?_
  refine lv_aload_n hx hb dX0_overwrite_2 rfl (lv_at hl 0 rfl) ?_
  refine lv_iconst (v := (nI 0)) hx hb dX0_overwrite_3 (by decide) ?_
  refine lv_aload_n hx hb dX0_overwrite_4 rfl (lv_at hl 1 rfl) ?_
  refine va_alen hx hb C.2.1.1 hw.1 21 0 (by rw [x_w_get (x_lt hN rfl), sX_21]; rfl) rfl (v := nI 8) rfl dX0_overwrite_5 ?_
  refine lv_aload_n hx hb dX0_overwrite_6 rfl (lv_at hl 0 rfl) ?_
  refine va_alen hx hb C.2.1.1 hw.1 54 0 (by rw [x_w_get (x_lt hN rfl), sX_54]; rfl) rfl (v := nI 8) rfl dX0_overwrite_7 ?_
  refine xh_min C (rest := [_, _, _, _]) mw_RX0_82 hl.1 ⟨by decide, Nat.le_of_ble_eq_true rfl⟩ dX0_overwrite_8 ?_
  refine xh_copy C hw (rest := []) 21 54 8 8 h sX_21 sX_54 (x_lt hN rfl) (x_lt hN rfl) ac_RX0_88 hl.1 ⟨by decide, Nat.le_of_ble_eq_true rfl⟩ dX0_overwrite_11 (fun H locs M hw h => ?_)
  exact hret dX0_overwrite_14 hw h
def f_X0_overwrite_55_22 (M : x_M) : Option (Unit × x_M) := x_ac 8 8 M 22 (nI 0) 55 (nI 0) (if (nI 8) < (nI 8) then (nI 8) else (nI 8)) (fun M => some ((), M))
abbrev rm_X0_overwrite_55_22 : Room := { frames := 1, cells := 0, slots := 0, locals := 200 }
set_option maxHeartbeats 4000000 in
set_option maxRecDepth 100000 in
theorem c_X0_overwrite_55_22 {l : Launch} {D : va_G} {cy : Nat → ClassId} {q ad : Nat → Nat} {NC : Nat} {s0 : State} (hq : x_Q q NC s0.heap.size) (hN : 88 ≤ NC) {M : x_M} {z : Unit × x_M} (h : f_X0_overwrite_55_22 M = some z) : x_Cv l D cy q ad x_spX NC s0 yX0_overwrite (x_uw yX0_overwrite cX0_overwrite 2 none) rm_X0_overwrite_55_22 [.ref (q 55), .ref (q 22)] M z.2 := by
  refine x_metv hq (by decide) (Nat.le_of_ble_eq_true rfl) ?_
  intro p e s m args below meth c ls Q C hret hl hw
  have hx := C.1.1
  have hb := C.1.2.1
  have ho := C.1.2.2.2.1
  have hL := C.1.2.2.2.2
  have hl : lv_has ls 2 [(0, .ref (q 55)), (1, .ref (q 22))] := hl
  unfold f_X0_overwrite_55_22 at h
  refine lv_aload_n hx hb dX0_overwrite_0 rfl (lv_at hl 1 rfl) ?_
  refine lv_iconst (v := (nI 0)) hx hb dX0_overwrite_1 (by decide) ?_
  refine lv_aload_n hx hb dX0_overwrite_2 rfl (lv_at hl 0 rfl) ?_
  refine lv_iconst (v := (nI 0)) hx hb dX0_overwrite_3 (by decide) ?_
  refine lv_aload_n hx hb dX0_overwrite_4 rfl (lv_at hl 1 rfl) ?_
  refine va_alen hx hb C.2.1.1 hw.1 22 0 (by rw [x_w_get (x_lt hN rfl), sX_22]; rfl) rfl (v := nI 8) rfl dX0_overwrite_5 ?_
  refine lv_aload_n hx hb dX0_overwrite_6 rfl (lv_at hl 0 rfl) ?_
  refine va_alen hx hb C.2.1.1 hw.1 55 0 (by rw [x_w_get (x_lt hN rfl), sX_55]; rfl) rfl (v := nI 8) rfl dX0_overwrite_7 ?_
  refine xh_min C (rest := [_, _, _, _]) mw_RX0_82 hl.1 ⟨by decide, Nat.le_of_ble_eq_true rfl⟩ dX0_overwrite_8 ?_
  refine xh_copy C hw (rest := []) 22 55 8 8 h sX_22 sX_55 (x_lt hN rfl) (x_lt hN rfl) ac_RX0_88 hl.1 ⟨by decide, Nat.le_of_ble_eq_true rfl⟩ dX0_overwrite_11 (fun H locs M hw h => ?_)
  exact hret dX0_overwrite_14 hw h
def f_X0_overwrite_56_23 (M : x_M) : Option (Unit × x_M) := x_ac 30 30 M 23 (nI 0) 56 (nI 0) (if (nI 30) < (nI 30) then (nI 30) else (nI 30)) (fun M => some ((), M))
abbrev rm_X0_overwrite_56_23 : Room := { frames := 1, cells := 0, slots := 0, locals := 200 }
set_option maxHeartbeats 4000000 in
set_option maxRecDepth 100000 in
theorem c_X0_overwrite_56_23 {l : Launch} {D : va_G} {cy : Nat → ClassId} {q ad : Nat → Nat} {NC : Nat} {s0 : State} (hq : x_Q q NC s0.heap.size) (hN : 88 ≤ NC) {M : x_M} {z : Unit × x_M} (h : f_X0_overwrite_56_23 M = some z) : x_Cv l D cy q ad x_spX NC s0 yX0_overwrite (x_uw yX0_overwrite cX0_overwrite 2 none) rm_X0_overwrite_56_23 [.ref (q 56), .ref (q 23)] M z.2 := by
  refine x_metv hq (by decide) (Nat.le_of_ble_eq_true rfl) ?_
  intro p e s m args below meth c ls Q C hret hl hw
  have hx := C.1.1
  have hb := C.1.2.1
  have ho := C.1.2.2.2.1
  have hL := C.1.2.2.2.2
  have hl : lv_has ls 2 [(0, .ref (q 56)), (1, .ref (q 23))] := hl
  unfold f_X0_overwrite_56_23 at h
  refine lv_aload_n hx hb dX0_overwrite_0 rfl (lv_at hl 1 rfl) ?_
  refine lv_iconst (v := (nI 0)) hx hb dX0_overwrite_1 (by decide) ?_
  refine lv_aload_n hx hb dX0_overwrite_2 rfl (lv_at hl 0 rfl) ?_
  refine lv_iconst (v := (nI 0)) hx hb dX0_overwrite_3 (by decide) ?_
  refine lv_aload_n hx hb dX0_overwrite_4 rfl (lv_at hl 1 rfl) ?_
  refine va_alen hx hb C.2.1.1 hw.1 23 0 (by rw [x_w_get (x_lt hN rfl), sX_23]; rfl) rfl (v := nI 30) rfl dX0_overwrite_5 ?_
  refine lv_aload_n hx hb dX0_overwrite_6 rfl (lv_at hl 0 rfl) ?_
  refine va_alen hx hb C.2.1.1 hw.1 56 0 (by rw [x_w_get (x_lt hN rfl), sX_56]; rfl) rfl (v := nI 30) rfl dX0_overwrite_7 ?_
  refine xh_min C (rest := [_, _, _, _]) mw_RX0_82 hl.1 ⟨by decide, Nat.le_of_ble_eq_true rfl⟩ dX0_overwrite_8 ?_
  refine xh_copy C hw (rest := []) 23 56 30 30 h sX_23 sX_56 (x_lt hN rfl) (x_lt hN rfl) ac_RX0_88 hl.1 ⟨by decide, Nat.le_of_ble_eq_true rfl⟩ dX0_overwrite_11 (fun H locs M hw h => ?_)
  exact hret dX0_overwrite_14 hw h
def f_X0_overwrite_57_24 (M : x_M) : Option (Unit × x_M) := x_ac 30 30 M 24 (nI 0) 57 (nI 0) (if (nI 30) < (nI 30) then (nI 30) else (nI 30)) (fun M => some ((), M))
abbrev rm_X0_overwrite_57_24 : Room := { frames := 1, cells := 0, slots := 0, locals := 200 }
set_option maxHeartbeats 4000000 in
set_option maxRecDepth 100000 in
theorem c_X0_overwrite_57_24 {l : Launch} {D : va_G} {cy : Nat → ClassId} {q ad : Nat → Nat} {NC : Nat} {s0 : State} (hq : x_Q q NC s0.heap.size) (hN : 88 ≤ NC) {M : x_M} {z : Unit × x_M} (h : f_X0_overwrite_57_24 M = some z) : x_Cv l D cy q ad x_spX NC s0 yX0_overwrite (x_uw yX0_overwrite cX0_overwrite 2 none) rm_X0_overwrite_57_24 [.ref (q 57), .ref (q 24)] M z.2 := by
  refine x_metv hq (by decide) (Nat.le_of_ble_eq_true rfl) ?_
  intro p e s m args below meth c ls Q C hret hl hw
  have hx := C.1.1
  have hb := C.1.2.1
  have ho := C.1.2.2.2.1
  have hL := C.1.2.2.2.2
  have hl : lv_has ls 2 [(0, .ref (q 57)), (1, .ref (q 24))] := hl
  unfold f_X0_overwrite_57_24 at h
  refine lv_aload_n hx hb dX0_overwrite_0 rfl (lv_at hl 1 rfl) ?_
  refine lv_iconst (v := (nI 0)) hx hb dX0_overwrite_1 (by decide) ?_
  refine lv_aload_n hx hb dX0_overwrite_2 rfl (lv_at hl 0 rfl) ?_
  refine lv_iconst (v := (nI 0)) hx hb dX0_overwrite_3 (by decide) ?_
  refine lv_aload_n hx hb dX0_overwrite_4 rfl (lv_at hl 1 rfl) ?_
  refine va_alen hx hb C.2.1.1 hw.1 24 0 (by rw [x_w_get (x_lt hN rfl), sX_24]; rfl) rfl (v := nI 30) rfl dX0_overwrite_5 ?_
  refine lv_aload_n hx hb dX0_overwrite_6 rfl (lv_at hl 0 rfl) ?_
  refine va_alen hx hb C.2.1.1 hw.1 57 0 (by rw [x_w_get (x_lt hN rfl), sX_57]; rfl) rfl (v := nI 30) rfl dX0_overwrite_7 ?_
  refine xh_min C (rest := [_, _, _, _]) mw_RX0_82 hl.1 ⟨by decide, Nat.le_of_ble_eq_true rfl⟩ dX0_overwrite_8 ?_
  refine xh_copy C hw (rest := []) 24 57 30 30 h sX_24 sX_57 (x_lt hN rfl) (x_lt hN rfl) ac_RX0_88 hl.1 ⟨by decide, Nat.le_of_ble_eq_true rfl⟩ dX0_overwrite_11 (fun H locs M hw h => ?_)
  exact hret dX0_overwrite_14 hw h
def f_X0_overwrite_58_25 (M : x_M) : Option (Unit × x_M) := x_ac 30 30 M 25 (nI 0) 58 (nI 0) (if (nI 30) < (nI 30) then (nI 30) else (nI 30)) (fun M => some ((), M))
abbrev rm_X0_overwrite_58_25 : Room := { frames := 1, cells := 0, slots := 0, locals := 200 }
set_option maxHeartbeats 4000000 in
set_option maxRecDepth 100000 in
theorem c_X0_overwrite_58_25 {l : Launch} {D : va_G} {cy : Nat → ClassId} {q ad : Nat → Nat} {NC : Nat} {s0 : State} (hq : x_Q q NC s0.heap.size) (hN : 88 ≤ NC) {M : x_M} {z : Unit × x_M} (h : f_X0_overwrite_58_25 M = some z) : x_Cv l D cy q ad x_spX NC s0 yX0_overwrite (x_uw yX0_overwrite cX0_overwrite 2 none) rm_X0_overwrite_58_25 [.ref (q 58), .ref (q 25)] M z.2 := by
  refine x_metv hq (by decide) (Nat.le_of_ble_eq_true rfl) ?_
  intro p e s m args below meth c ls Q C hret hl hw
  have hx := C.1.1
  have hb := C.1.2.1
  have ho := C.1.2.2.2.1
  have hL := C.1.2.2.2.2
  have hl : lv_has ls 2 [(0, .ref (q 58)), (1, .ref (q 25))] := hl
  unfold f_X0_overwrite_58_25 at h
  refine lv_aload_n hx hb dX0_overwrite_0 rfl (lv_at hl 1 rfl) ?_
  refine lv_iconst (v := (nI 0)) hx hb dX0_overwrite_1 (by decide) ?_
  refine lv_aload_n hx hb dX0_overwrite_2 rfl (lv_at hl 0 rfl) ?_
  refine lv_iconst (v := (nI 0)) hx hb dX0_overwrite_3 (by decide) ?_
  refine lv_aload_n hx hb dX0_overwrite_4 rfl (lv_at hl 1 rfl) ?_
  refine va_alen hx hb C.2.1.1 hw.1 25 0 (by rw [x_w_get (x_lt hN rfl), sX_25]; rfl) rfl (v := nI 30) rfl dX0_overwrite_5 ?_
  refine lv_aload_n hx hb dX0_overwrite_6 rfl (lv_at hl 0 rfl) ?_
  refine va_alen hx hb C.2.1.1 hw.1 58 0 (by rw [x_w_get (x_lt hN rfl), sX_58]; rfl) rfl (v := nI 30) rfl dX0_overwrite_7 ?_
  refine xh_min C (rest := [_, _, _, _]) mw_RX0_82 hl.1 ⟨by decide, Nat.le_of_ble_eq_true rfl⟩ dX0_overwrite_8 ?_
  refine xh_copy C hw (rest := []) 25 58 30 30 h sX_25 sX_58 (x_lt hN rfl) (x_lt hN rfl) ac_RX0_88 hl.1 ⟨by decide, Nat.le_of_ble_eq_true rfl⟩ dX0_overwrite_11 (fun H locs M hw h => ?_)
  exact hret dX0_overwrite_14 hw h
def f_X0_overwrite_59_26 (M : x_M) : Option (Unit × x_M) := x_ac 30 30 M 26 (nI 0) 59 (nI 0) (if (nI 30) < (nI 30) then (nI 30) else (nI 30)) (fun M => some ((), M))
abbrev rm_X0_overwrite_59_26 : Room := { frames := 1, cells := 0, slots := 0, locals := 200 }
set_option maxHeartbeats 4000000 in
set_option maxRecDepth 100000 in
theorem c_X0_overwrite_59_26 {l : Launch} {D : va_G} {cy : Nat → ClassId} {q ad : Nat → Nat} {NC : Nat} {s0 : State} (hq : x_Q q NC s0.heap.size) (hN : 88 ≤ NC) {M : x_M} {z : Unit × x_M} (h : f_X0_overwrite_59_26 M = some z) : x_Cv l D cy q ad x_spX NC s0 yX0_overwrite (x_uw yX0_overwrite cX0_overwrite 2 none) rm_X0_overwrite_59_26 [.ref (q 59), .ref (q 26)] M z.2 := by
  refine x_metv hq (by decide) (Nat.le_of_ble_eq_true rfl) ?_
  intro p e s m args below meth c ls Q C hret hl hw
  have hx := C.1.1
  have hb := C.1.2.1
  have ho := C.1.2.2.2.1
  have hL := C.1.2.2.2.2
  have hl : lv_has ls 2 [(0, .ref (q 59)), (1, .ref (q 26))] := hl
  unfold f_X0_overwrite_59_26 at h
  refine lv_aload_n hx hb dX0_overwrite_0 rfl (lv_at hl 1 rfl) ?_
  refine lv_iconst (v := (nI 0)) hx hb dX0_overwrite_1 (by decide) ?_
  refine lv_aload_n hx hb dX0_overwrite_2 rfl (lv_at hl 0 rfl) ?_
  refine lv_iconst (v := (nI 0)) hx hb dX0_overwrite_3 (by decide) ?_
  refine lv_aload_n hx hb dX0_overwrite_4 rfl (lv_at hl 1 rfl) ?_
  refine va_alen hx hb C.2.1.1 hw.1 26 0 (by rw [x_w_get (x_lt hN rfl), sX_26]; rfl) rfl (v := nI 30) rfl dX0_overwrite_5 ?_
  refine lv_aload_n hx hb dX0_overwrite_6 rfl (lv_at hl 0 rfl) ?_
  refine va_alen hx hb C.2.1.1 hw.1 59 0 (by rw [x_w_get (x_lt hN rfl), sX_59]; rfl) rfl (v := nI 30) rfl dX0_overwrite_7 ?_
  refine xh_min C (rest := [_, _, _, _]) mw_RX0_82 hl.1 ⟨by decide, Nat.le_of_ble_eq_true rfl⟩ dX0_overwrite_8 ?_
  refine xh_copy C hw (rest := []) 26 59 30 30 h sX_26 sX_59 (x_lt hN rfl) (x_lt hN rfl) ac_RX0_88 hl.1 ⟨by decide, Nat.le_of_ble_eq_true rfl⟩ dX0_overwrite_11 (fun H locs M hw h => ?_)
  exact hret dX0_overwrite_14 hw h
def f_X6_become_51_18 (M : x_M) : Option (Unit × x_M) := x_bn (f_X0_overwrite_52_19 M) (fun _ M => x_bn (f_X0_overwrite_53_20 M) (fun _ M => x_bn (f_X0_overwrite_54_21 M) (fun _ M => x_bn (f_X0_overwrite_55_22 M) (fun _ M => x_bn (f_X0_overwrite_56_23 M) (fun _ M => x_bn (f_X0_overwrite_57_24 M) (fun _ M => x_bn (f_X0_overwrite_58_25 M) (fun _ M => x_bn (f_X0_overwrite_59_26 M) (fun _ M => x_gf M 18 8 (fun r90 => x_pf M 51 8 r90 (fun M => x_gf M 18 9 (fun r98 => x_pf M 51 9 r98 (fun M => some ((), M)))))))))))))
abbrev rm_X6_become_51_18 : Room := { frames := 2, cells := 0, slots := 0, locals := 221 }
set_option maxHeartbeats 4000000 in
set_option maxRecDepth 100000 in
theorem c_X6_become_51_18 {l : Launch} {D : va_G} {cy : Nat → ClassId} {q ad : Nat → Nat} {NC : Nat} {s0 : State} (hq : x_Q q NC s0.heap.size) (hN : 88 ≤ NC) {M : x_M} {z : Unit × x_M} (h : f_X6_become_51_18 M = some z) : x_Cv l D cy q ad x_spX NC s0 yX6_become (x_uw yX6_become cX6_become 2 none) rm_X6_become_51_18 [.ref (q 51), .ref (q 18)] M z.2 := by
  refine x_metv hq (by decide) (Nat.le_of_ble_eq_true rfl) ?_
  intro p e s m args below meth c ls Q C hret hl hw
  have hx := C.1.1
  have hb := C.1.2.1
  have ho := C.1.2.2.2.1
  have hL := C.1.2.2.2.2
  have hl : lv_has ls 2 [(0, .ref (q 51)), (1, .ref (q 18))] := hl
  unfold f_X6_become_51_18 at h
  refine lv_aload_n hx hb dX6_become_0 rfl (lv_at hl 0 rfl) ?_
  refine xh_getr C hw 51 0 sX_51 (x_lt hN rfl) rfl rfl rfl lk_RX6_9 dX6_become_1 ?_
  refine lv_aload_n hx hb dX6_become_4 rfl (lv_at hl 1 rfl) ?_
  refine xh_getr C hw 18 0 sX_18 (x_lt hN rfl) rfl rfl rfl lk_RX6_9 dX6_become_5 ?_
  refine xh_cSv C hw (rest := []) h (fun _ hy => c_X0_overwrite_52_19 hq hN hy) ml_RX6_45 st_X0_overwrite ⟨rfl, rfl, by decide, by decide⟩ rfl hl.1 rfl (Nat.le_of_ble_eq_true rfl) dX6_become_8 (fun H locs _ M hw h => ?_)
  refine lv_aload_n hx hb dX6_become_11 rfl (lv_at hl 0 rfl) ?_
  refine xh_getr C hw 51 1 sX_51 (x_lt hN rfl) rfl rfl rfl lk_RX6_15 dX6_become_12 ?_
  refine lv_aload_n hx hb dX6_become_15 rfl (lv_at hl 1 rfl) ?_
  refine xh_getr C hw 18 1 sX_18 (x_lt hN rfl) rfl rfl rfl lk_RX6_15 dX6_become_16 ?_
  refine xh_cSv C hw (rest := []) h (fun _ hy => c_X0_overwrite_53_20 hq hN hy) ml_RX6_45 st_X0_overwrite ⟨rfl, rfl, by decide, by decide⟩ rfl hl.1 rfl (Nat.le_of_ble_eq_true rfl) dX6_become_19 (fun H locs _ M hw h => ?_)
  refine lv_aload_n hx hb dX6_become_22 rfl (lv_at hl 0 rfl) ?_
  refine xh_getr C hw 51 2 sX_51 (x_lt hN rfl) rfl rfl rfl lk_RX6_18 dX6_become_23 ?_
  refine lv_aload_n hx hb dX6_become_26 rfl (lv_at hl 1 rfl) ?_
  refine xh_getr C hw 18 2 sX_18 (x_lt hN rfl) rfl rfl rfl lk_RX6_18 dX6_become_27 ?_
  refine xh_cSv C hw (rest := []) h (fun _ hy => c_X0_overwrite_54_21 hq hN hy) ml_RX6_45 st_X0_overwrite ⟨rfl, rfl, by decide, by decide⟩ rfl hl.1 rfl (Nat.le_of_ble_eq_true rfl) dX6_become_30 (fun H locs _ M hw h => ?_)
  refine lv_aload_n hx hb dX6_become_33 rfl (lv_at hl 0 rfl) ?_
  refine xh_getr C hw 51 3 sX_51 (x_lt hN rfl) rfl rfl rfl lk_RX6_21 dX6_become_34 ?_
  refine lv_aload_n hx hb dX6_become_37 rfl (lv_at hl 1 rfl) ?_
  refine xh_getr C hw 18 3 sX_18 (x_lt hN rfl) rfl rfl rfl lk_RX6_21 dX6_become_38 ?_
  refine xh_cSv C hw (rest := []) h (fun _ hy => c_X0_overwrite_55_22 hq hN hy) ml_RX6_45 st_X0_overwrite ⟨rfl, rfl, by decide, by decide⟩ rfl hl.1 rfl (Nat.le_of_ble_eq_true rfl) dX6_become_41 (fun H locs _ M hw h => ?_)
  refine lv_aload_n hx hb dX6_become_44 rfl (lv_at hl 0 rfl) ?_
  refine xh_getr C hw 51 4 sX_51 (x_lt hN rfl) rfl rfl rfl lk_RX6_24 dX6_become_45 ?_
  refine lv_aload_n hx hb dX6_become_48 rfl (lv_at hl 1 rfl) ?_
  refine xh_getr C hw 18 4 sX_18 (x_lt hN rfl) rfl rfl rfl lk_RX6_24 dX6_become_49 ?_
  refine xh_cSv C hw (rest := []) h (fun _ hy => c_X0_overwrite_56_23 hq hN hy) ml_RX6_45 st_X0_overwrite ⟨rfl, rfl, by decide, by decide⟩ rfl hl.1 rfl (Nat.le_of_ble_eq_true rfl) dX6_become_52 (fun H locs _ M hw h => ?_)
  refine lv_aload_n hx hb dX6_become_55 rfl (lv_at hl 0 rfl) ?_
  refine xh_getr C hw 51 5 sX_51 (x_lt hN rfl) rfl rfl rfl lk_RX6_27 dX6_become_56 ?_
  refine lv_aload_n hx hb dX6_become_59 rfl (lv_at hl 1 rfl) ?_
  refine xh_getr C hw 18 5 sX_18 (x_lt hN rfl) rfl rfl rfl lk_RX6_27 dX6_become_60 ?_
  refine xh_cSv C hw (rest := []) h (fun _ hy => c_X0_overwrite_57_24 hq hN hy) ml_RX6_45 st_X0_overwrite ⟨rfl, rfl, by decide, by decide⟩ rfl hl.1 rfl (Nat.le_of_ble_eq_true rfl) dX6_become_63 (fun H locs _ M hw h => ?_)
  refine lv_aload_n hx hb dX6_become_66 rfl (lv_at hl 0 rfl) ?_
  refine xh_getr C hw 51 6 sX_51 (x_lt hN rfl) rfl rfl rfl lk_RX6_30 dX6_become_67 ?_
  refine lv_aload_n hx hb dX6_become_70 rfl (lv_at hl 1 rfl) ?_
  refine xh_getr C hw 18 6 sX_18 (x_lt hN rfl) rfl rfl rfl lk_RX6_30 dX6_become_71 ?_
  refine xh_cSv C hw (rest := []) h (fun _ hy => c_X0_overwrite_58_25 hq hN hy) ml_RX6_45 st_X0_overwrite ⟨rfl, rfl, by decide, by decide⟩ rfl hl.1 rfl (Nat.le_of_ble_eq_true rfl) dX6_become_74 (fun H locs _ M hw h => ?_)
  refine lv_aload_n hx hb dX6_become_77 rfl (lv_at hl 0 rfl) ?_
  refine xh_getr C hw 51 7 sX_51 (x_lt hN rfl) rfl rfl rfl lk_RX6_33 dX6_become_78 ?_
  refine lv_aload_n hx hb dX6_become_81 rfl (lv_at hl 1 rfl) ?_
  refine xh_getr C hw 18 7 sX_18 (x_lt hN rfl) rfl rfl rfl lk_RX6_33 dX6_become_82 ?_
  refine xh_cSv C hw (rest := []) h (fun _ hy => c_X0_overwrite_59_26 hq hN hy) ml_RX6_45 st_X0_overwrite ⟨rfl, rfl, by decide, by decide⟩ rfl hl.1 rfl (Nat.le_of_ble_eq_true rfl) dX6_become_85 (fun H locs _ M hw h => ?_)
  refine lv_aload_n hx hb dX6_become_88 rfl (lv_at hl 0 rfl) ?_
  refine lv_aload_n hx hb dX6_become_89 rfl (lv_at hl 1 rfl) ?_
  refine xh_geti C hw 18 8 h sX_18 (x_lt hN rfl) rfl rfl rfl lk_RX6_36 dX6_become_90 (fun r90 h => ?_)
  refine xh_puti C hw 51 8 h sX_51 (x_lt hN rfl) rfl rfl rfl lk_RX6_36 rfl rfl dX6_become_93 (fun H locs M hw h => ?_)
  refine lv_aload_n hx hb dX6_become_96 rfl (lv_at hl 0 rfl) ?_
  refine lv_aload_n hx hb dX6_become_97 rfl (lv_at hl 1 rfl) ?_
  refine xh_geti C hw 18 9 h sX_18 (x_lt hN rfl) rfl rfl rfl lk_RX6_41 dX6_become_98 (fun r98 h => ?_)
  refine xh_puti C hw 51 9 h sX_51 (x_lt hN rfl) rfl rfl rfl lk_RX6_41 rfl rfl dX6_become_101 (fun H locs M hw h => ?_)
  exact hret dX6_become_104 hw h
def f_X0_overwrite_61_28 (M : x_M) : Option (Unit × x_M) := x_ac 8 8 M 28 (nI 0) 61 (nI 0) (if (nI 8) < (nI 8) then (nI 8) else (nI 8)) (fun M => some ((), M))
abbrev rm_X0_overwrite_61_28 : Room := { frames := 1, cells := 0, slots := 0, locals := 200 }
set_option maxHeartbeats 4000000 in
set_option maxRecDepth 100000 in
theorem c_X0_overwrite_61_28 {l : Launch} {D : va_G} {cy : Nat → ClassId} {q ad : Nat → Nat} {NC : Nat} {s0 : State} (hq : x_Q q NC s0.heap.size) (hN : 88 ≤ NC) {M : x_M} {z : Unit × x_M} (h : f_X0_overwrite_61_28 M = some z) : x_Cv l D cy q ad x_spX NC s0 yX0_overwrite (x_uw yX0_overwrite cX0_overwrite 2 none) rm_X0_overwrite_61_28 [.ref (q 61), .ref (q 28)] M z.2 := by
  refine x_metv hq (by decide) (Nat.le_of_ble_eq_true rfl) ?_
  intro p e s m args below meth c ls Q C hret hl hw
  have hx := C.1.1
  have hb := C.1.2.1
  have ho := C.1.2.2.2.1
  have hL := C.1.2.2.2.2
  have hl : lv_has ls 2 [(0, .ref (q 61)), (1, .ref (q 28))] := hl
  unfold f_X0_overwrite_61_28 at h
  refine lv_aload_n hx hb dX0_overwrite_0 rfl (lv_at hl 1 rfl) ?_
  refine lv_iconst (v := (nI 0)) hx hb dX0_overwrite_1 (by decide) ?_
  refine lv_aload_n hx hb dX0_overwrite_2 rfl (lv_at hl 0 rfl) ?_
  refine lv_iconst (v := (nI 0)) hx hb dX0_overwrite_3 (by decide) ?_
  refine lv_aload_n hx hb dX0_overwrite_4 rfl (lv_at hl 1 rfl) ?_
  refine va_alen hx hb C.2.1.1 hw.1 28 0 (by rw [x_w_get (x_lt hN rfl), sX_28]; rfl) rfl (v := nI 8) rfl dX0_overwrite_5 ?_
  refine lv_aload_n hx hb dX0_overwrite_6 rfl (lv_at hl 0 rfl) ?_
  refine va_alen hx hb C.2.1.1 hw.1 61 0 (by rw [x_w_get (x_lt hN rfl), sX_61]; rfl) rfl (v := nI 8) rfl dX0_overwrite_7 ?_
  refine xh_min C (rest := [_, _, _, _]) mw_RX0_82 hl.1 ⟨by decide, Nat.le_of_ble_eq_true rfl⟩ dX0_overwrite_8 ?_
  refine xh_copy C hw (rest := []) 28 61 8 8 h sX_28 sX_61 (x_lt hN rfl) (x_lt hN rfl) ac_RX0_88 hl.1 ⟨by decide, Nat.le_of_ble_eq_true rfl⟩ dX0_overwrite_11 (fun H locs M hw h => ?_)
  exact hret dX0_overwrite_14 hw h
def f_X0_overwrite_62_29 (M : x_M) : Option (Unit × x_M) := x_ac 8 8 M 29 (nI 0) 62 (nI 0) (if (nI 8) < (nI 8) then (nI 8) else (nI 8)) (fun M => some ((), M))
abbrev rm_X0_overwrite_62_29 : Room := { frames := 1, cells := 0, slots := 0, locals := 200 }
set_option maxHeartbeats 4000000 in
set_option maxRecDepth 100000 in
theorem c_X0_overwrite_62_29 {l : Launch} {D : va_G} {cy : Nat → ClassId} {q ad : Nat → Nat} {NC : Nat} {s0 : State} (hq : x_Q q NC s0.heap.size) (hN : 88 ≤ NC) {M : x_M} {z : Unit × x_M} (h : f_X0_overwrite_62_29 M = some z) : x_Cv l D cy q ad x_spX NC s0 yX0_overwrite (x_uw yX0_overwrite cX0_overwrite 2 none) rm_X0_overwrite_62_29 [.ref (q 62), .ref (q 29)] M z.2 := by
  refine x_metv hq (by decide) (Nat.le_of_ble_eq_true rfl) ?_
  intro p e s m args below meth c ls Q C hret hl hw
  have hx := C.1.1
  have hb := C.1.2.1
  have ho := C.1.2.2.2.1
  have hL := C.1.2.2.2.2
  have hl : lv_has ls 2 [(0, .ref (q 62)), (1, .ref (q 29))] := hl
  unfold f_X0_overwrite_62_29 at h
  refine lv_aload_n hx hb dX0_overwrite_0 rfl (lv_at hl 1 rfl) ?_
  refine lv_iconst (v := (nI 0)) hx hb dX0_overwrite_1 (by decide) ?_
  refine lv_aload_n hx hb dX0_overwrite_2 rfl (lv_at hl 0 rfl) ?_
  refine lv_iconst (v := (nI 0)) hx hb dX0_overwrite_3 (by decide) ?_
  refine lv_aload_n hx hb dX0_overwrite_4 rfl (lv_at hl 1 rfl) ?_
  refine va_alen hx hb C.2.1.1 hw.1 29 0 (by rw [x_w_get (x_lt hN rfl), sX_29]; rfl) rfl (v := nI 8) rfl dX0_overwrite_5 ?_
  refine lv_aload_n hx hb dX0_overwrite_6 rfl (lv_at hl 0 rfl) ?_
  refine va_alen hx hb C.2.1.1 hw.1 62 0 (by rw [x_w_get (x_lt hN rfl), sX_62]; rfl) rfl (v := nI 8) rfl dX0_overwrite_7 ?_
  refine xh_min C (rest := [_, _, _, _]) mw_RX0_82 hl.1 ⟨by decide, Nat.le_of_ble_eq_true rfl⟩ dX0_overwrite_8 ?_
  refine xh_copy C hw (rest := []) 29 62 8 8 h sX_29 sX_62 (x_lt hN rfl) (x_lt hN rfl) ac_RX0_88 hl.1 ⟨by decide, Nat.le_of_ble_eq_true rfl⟩ dX0_overwrite_11 (fun H locs M hw h => ?_)
  exact hret dX0_overwrite_14 hw h
def f_X0_overwrite_63_30 (M : x_M) : Option (Unit × x_M) := x_ac 8 8 M 30 (nI 0) 63 (nI 0) (if (nI 8) < (nI 8) then (nI 8) else (nI 8)) (fun M => some ((), M))
abbrev rm_X0_overwrite_63_30 : Room := { frames := 1, cells := 0, slots := 0, locals := 200 }
set_option maxHeartbeats 4000000 in
set_option maxRecDepth 100000 in
theorem c_X0_overwrite_63_30 {l : Launch} {D : va_G} {cy : Nat → ClassId} {q ad : Nat → Nat} {NC : Nat} {s0 : State} (hq : x_Q q NC s0.heap.size) (hN : 88 ≤ NC) {M : x_M} {z : Unit × x_M} (h : f_X0_overwrite_63_30 M = some z) : x_Cv l D cy q ad x_spX NC s0 yX0_overwrite (x_uw yX0_overwrite cX0_overwrite 2 none) rm_X0_overwrite_63_30 [.ref (q 63), .ref (q 30)] M z.2 := by
  refine x_metv hq (by decide) (Nat.le_of_ble_eq_true rfl) ?_
  intro p e s m args below meth c ls Q C hret hl hw
  have hx := C.1.1
  have hb := C.1.2.1
  have ho := C.1.2.2.2.1
  have hL := C.1.2.2.2.2
  have hl : lv_has ls 2 [(0, .ref (q 63)), (1, .ref (q 30))] := hl
  unfold f_X0_overwrite_63_30 at h
  refine lv_aload_n hx hb dX0_overwrite_0 rfl (lv_at hl 1 rfl) ?_
  refine lv_iconst (v := (nI 0)) hx hb dX0_overwrite_1 (by decide) ?_
  refine lv_aload_n hx hb dX0_overwrite_2 rfl (lv_at hl 0 rfl) ?_
  refine lv_iconst (v := (nI 0)) hx hb dX0_overwrite_3 (by decide) ?_
  refine lv_aload_n hx hb dX0_overwrite_4 rfl (lv_at hl 1 rfl) ?_
  refine va_alen hx hb C.2.1.1 hw.1 30 0 (by rw [x_w_get (x_lt hN rfl), sX_30]; rfl) rfl (v := nI 8) rfl dX0_overwrite_5 ?_
  refine lv_aload_n hx hb dX0_overwrite_6 rfl (lv_at hl 0 rfl) ?_
  refine va_alen hx hb C.2.1.1 hw.1 63 0 (by rw [x_w_get (x_lt hN rfl), sX_63]; rfl) rfl (v := nI 8) rfl dX0_overwrite_7 ?_
  refine xh_min C (rest := [_, _, _, _]) mw_RX0_82 hl.1 ⟨by decide, Nat.le_of_ble_eq_true rfl⟩ dX0_overwrite_8 ?_
  refine xh_copy C hw (rest := []) 30 63 8 8 h sX_30 sX_63 (x_lt hN rfl) (x_lt hN rfl) ac_RX0_88 hl.1 ⟨by decide, Nat.le_of_ble_eq_true rfl⟩ dX0_overwrite_11 (fun H locs M hw h => ?_)
  exact hret dX0_overwrite_14 hw h
def f_X5_become_60_27 (M : x_M) : Option (Unit × x_M) := x_bn (f_X0_overwrite_61_28 M) (fun _ M => x_bn (f_X0_overwrite_62_29 M) (fun _ M => x_bn (f_X0_overwrite_63_30 M) (fun _ M => x_gf M 27 3 (fun r35 => x_pf M 60 3 r35 (fun M => some ((), M))))))
abbrev rm_X5_become_60_27 : Room := { frames := 2, cells := 0, slots := 0, locals := 221 }
set_option maxHeartbeats 4000000 in
set_option maxRecDepth 100000 in
theorem c_X5_become_60_27 {l : Launch} {D : va_G} {cy : Nat → ClassId} {q ad : Nat → Nat} {NC : Nat} {s0 : State} (hq : x_Q q NC s0.heap.size) (hN : 88 ≤ NC) {M : x_M} {z : Unit × x_M} (h : f_X5_become_60_27 M = some z) : x_Cv l D cy q ad x_spX NC s0 yX5_become (x_uw yX5_become cX5_become 2 none) rm_X5_become_60_27 [.ref (q 60), .ref (q 27)] M z.2 := by
  refine x_metv hq (by decide) (Nat.le_of_ble_eq_true rfl) ?_
  intro p e s m args below meth c ls Q C hret hl hw
  have hx := C.1.1
  have hb := C.1.2.1
  have ho := C.1.2.2.2.1
  have hL := C.1.2.2.2.2
  have hl : lv_has ls 2 [(0, .ref (q 60)), (1, .ref (q 27))] := hl
  unfold f_X5_become_60_27 at h
  refine lv_aload_n hx hb dX5_become_0 rfl (lv_at hl 0 rfl) ?_
  refine xh_getr C hw 60 0 sX_60 (x_lt hN rfl) rfl rfl rfl lk_RX5_9 dX5_become_1 ?_
  refine lv_aload_n hx hb dX5_become_4 rfl (lv_at hl 1 rfl) ?_
  refine xh_getr C hw 27 0 sX_27 (x_lt hN rfl) rfl rfl rfl lk_RX5_9 dX5_become_5 ?_
  refine xh_cSv C hw (rest := []) h (fun _ hy => c_X0_overwrite_61_28 hq hN hy) ml_RX5_26 st_X0_overwrite ⟨rfl, rfl, by decide, by decide⟩ rfl hl.1 rfl (Nat.le_of_ble_eq_true rfl) dX5_become_8 (fun H locs _ M hw h => ?_)
  refine lv_aload_n hx hb dX5_become_11 rfl (lv_at hl 0 rfl) ?_
  refine xh_getr C hw 60 1 sX_60 (x_lt hN rfl) rfl rfl rfl lk_RX5_15 dX5_become_12 ?_
  refine lv_aload_n hx hb dX5_become_15 rfl (lv_at hl 1 rfl) ?_
  refine xh_getr C hw 27 1 sX_27 (x_lt hN rfl) rfl rfl rfl lk_RX5_15 dX5_become_16 ?_
  refine xh_cSv C hw (rest := []) h (fun _ hy => c_X0_overwrite_62_29 hq hN hy) ml_RX5_26 st_X0_overwrite ⟨rfl, rfl, by decide, by decide⟩ rfl hl.1 rfl (Nat.le_of_ble_eq_true rfl) dX5_become_19 (fun H locs _ M hw h => ?_)
  refine lv_aload_n hx hb dX5_become_22 rfl (lv_at hl 0 rfl) ?_
  refine xh_getr C hw 60 2 sX_60 (x_lt hN rfl) rfl rfl rfl lk_RX5_18 dX5_become_23 ?_
  refine lv_aload_n hx hb dX5_become_26 rfl (lv_at hl 1 rfl) ?_
  refine xh_getr C hw 27 2 sX_27 (x_lt hN rfl) rfl rfl rfl lk_RX5_18 dX5_become_27 ?_
  refine xh_cSv C hw (rest := []) h (fun _ hy => c_X0_overwrite_63_30 hq hN hy) ml_RX5_26 st_X0_overwrite ⟨rfl, rfl, by decide, by decide⟩ rfl hl.1 rfl (Nat.le_of_ble_eq_true rfl) dX5_become_30 (fun H locs _ M hw h => ?_)
  refine lv_aload_n hx hb dX5_become_33 rfl (lv_at hl 0 rfl) ?_
  refine lv_aload_n hx hb dX5_become_34 rfl (lv_at hl 1 rfl) ?_
  refine xh_geti C hw 27 3 h sX_27 (x_lt hN rfl) rfl rfl rfl lk_RX5_21 dX5_become_35 (fun r35 h => ?_)
  refine xh_puti C hw 60 3 h sX_60 (x_lt hN rfl) rfl rfl rfl lk_RX5_21 rfl rfl dX5_become_38 (fun H locs M hw h => ?_)
  exact hret dX5_become_41 hw h
def f_X0_overwrite_64_31 (M : x_M) : Option (Unit × x_M) := x_ac 3 3 M 31 (nI 0) 64 (nI 0) (if (nI 3) < (nI 3) then (nI 3) else (nI 3)) (fun M => some ((), M))
abbrev rm_X0_overwrite_64_31 : Room := { frames := 1, cells := 0, slots := 0, locals := 200 }
set_option maxHeartbeats 4000000 in
set_option maxRecDepth 100000 in
theorem c_X0_overwrite_64_31 {l : Launch} {D : va_G} {cy : Nat → ClassId} {q ad : Nat → Nat} {NC : Nat} {s0 : State} (hq : x_Q q NC s0.heap.size) (hN : 88 ≤ NC) {M : x_M} {z : Unit × x_M} (h : f_X0_overwrite_64_31 M = some z) : x_Cv l D cy q ad x_spX NC s0 yX0_overwrite (x_uw yX0_overwrite cX0_overwrite 2 none) rm_X0_overwrite_64_31 [.ref (q 64), .ref (q 31)] M z.2 := by
  refine x_metv hq (by decide) (Nat.le_of_ble_eq_true rfl) ?_
  intro p e s m args below meth c ls Q C hret hl hw
  have hx := C.1.1
  have hb := C.1.2.1
  have ho := C.1.2.2.2.1
  have hL := C.1.2.2.2.2
  have hl : lv_has ls 2 [(0, .ref (q 64)), (1, .ref (q 31))] := hl
  unfold f_X0_overwrite_64_31 at h
  refine lv_aload_n hx hb dX0_overwrite_0 rfl (lv_at hl 1 rfl) ?_
  refine lv_iconst (v := (nI 0)) hx hb dX0_overwrite_1 (by decide) ?_
  refine lv_aload_n hx hb dX0_overwrite_2 rfl (lv_at hl 0 rfl) ?_
  refine lv_iconst (v := (nI 0)) hx hb dX0_overwrite_3 (by decide) ?_
  refine lv_aload_n hx hb dX0_overwrite_4 rfl (lv_at hl 1 rfl) ?_
  refine va_alen hx hb C.2.1.1 hw.1 31 0 (by rw [x_w_get (x_lt hN rfl), sX_31]; rfl) rfl (v := nI 3) rfl dX0_overwrite_5 ?_
  refine lv_aload_n hx hb dX0_overwrite_6 rfl (lv_at hl 0 rfl) ?_
  refine va_alen hx hb C.2.1.1 hw.1 64 0 (by rw [x_w_get (x_lt hN rfl), sX_64]; rfl) rfl (v := nI 3) rfl dX0_overwrite_7 ?_
  refine xh_min C (rest := [_, _, _, _]) mw_RX0_82 hl.1 ⟨by decide, Nat.le_of_ble_eq_true rfl⟩ dX0_overwrite_8 ?_
  refine xh_copy C hw (rest := []) 31 64 3 3 h sX_31 sX_64 (x_lt hN rfl) (x_lt hN rfl) ac_RX0_88 hl.1 ⟨by decide, Nat.le_of_ble_eq_true rfl⟩ dX0_overwrite_11 (fun H locs M hw h => ?_)
  exact hret dX0_overwrite_14 hw h
def f_X0_overwrite_65_32 (M : x_M) : Option (Unit × x_M) := x_ac 4 4 M 32 (nI 0) 65 (nI 0) (if (nI 4) < (nI 4) then (nI 4) else (nI 4)) (fun M => some ((), M))
abbrev rm_X0_overwrite_65_32 : Room := { frames := 1, cells := 0, slots := 0, locals := 200 }
set_option maxHeartbeats 4000000 in
set_option maxRecDepth 100000 in
theorem c_X0_overwrite_65_32 {l : Launch} {D : va_G} {cy : Nat → ClassId} {q ad : Nat → Nat} {NC : Nat} {s0 : State} (hq : x_Q q NC s0.heap.size) (hN : 88 ≤ NC) {M : x_M} {z : Unit × x_M} (h : f_X0_overwrite_65_32 M = some z) : x_Cv l D cy q ad x_spX NC s0 yX0_overwrite (x_uw yX0_overwrite cX0_overwrite 2 none) rm_X0_overwrite_65_32 [.ref (q 65), .ref (q 32)] M z.2 := by
  refine x_metv hq (by decide) (Nat.le_of_ble_eq_true rfl) ?_
  intro p e s m args below meth c ls Q C hret hl hw
  have hx := C.1.1
  have hb := C.1.2.1
  have ho := C.1.2.2.2.1
  have hL := C.1.2.2.2.2
  have hl : lv_has ls 2 [(0, .ref (q 65)), (1, .ref (q 32))] := hl
  unfold f_X0_overwrite_65_32 at h
  refine lv_aload_n hx hb dX0_overwrite_0 rfl (lv_at hl 1 rfl) ?_
  refine lv_iconst (v := (nI 0)) hx hb dX0_overwrite_1 (by decide) ?_
  refine lv_aload_n hx hb dX0_overwrite_2 rfl (lv_at hl 0 rfl) ?_
  refine lv_iconst (v := (nI 0)) hx hb dX0_overwrite_3 (by decide) ?_
  refine lv_aload_n hx hb dX0_overwrite_4 rfl (lv_at hl 1 rfl) ?_
  refine va_alen hx hb C.2.1.1 hw.1 32 0 (by rw [x_w_get (x_lt hN rfl), sX_32]; rfl) rfl (v := nI 4) rfl dX0_overwrite_5 ?_
  refine lv_aload_n hx hb dX0_overwrite_6 rfl (lv_at hl 0 rfl) ?_
  refine va_alen hx hb C.2.1.1 hw.1 65 0 (by rw [x_w_get (x_lt hN rfl), sX_65]; rfl) rfl (v := nI 4) rfl dX0_overwrite_7 ?_
  refine xh_min C (rest := [_, _, _, _]) mw_RX0_82 hl.1 ⟨by decide, Nat.le_of_ble_eq_true rfl⟩ dX0_overwrite_8 ?_
  refine xh_copy C hw (rest := []) 32 65 4 4 h sX_32 sX_65 (x_lt hN rfl) (x_lt hN rfl) ac_RX0_88 hl.1 ⟨by decide, Nat.le_of_ble_eq_true rfl⟩ dX0_overwrite_11 (fun H locs M hw h => ?_)
  exact hret dX0_overwrite_14 hw h
def f_X0_overwrite_66_33 (M : x_M) : Option (Unit × x_M) := x_ac 4 4 M 33 (nI 0) 66 (nI 0) (if (nI 4) < (nI 4) then (nI 4) else (nI 4)) (fun M => some ((), M))
abbrev rm_X0_overwrite_66_33 : Room := { frames := 1, cells := 0, slots := 0, locals := 200 }
set_option maxHeartbeats 4000000 in
set_option maxRecDepth 100000 in
theorem c_X0_overwrite_66_33 {l : Launch} {D : va_G} {cy : Nat → ClassId} {q ad : Nat → Nat} {NC : Nat} {s0 : State} (hq : x_Q q NC s0.heap.size) (hN : 88 ≤ NC) {M : x_M} {z : Unit × x_M} (h : f_X0_overwrite_66_33 M = some z) : x_Cv l D cy q ad x_spX NC s0 yX0_overwrite (x_uw yX0_overwrite cX0_overwrite 2 none) rm_X0_overwrite_66_33 [.ref (q 66), .ref (q 33)] M z.2 := by
  refine x_metv hq (by decide) (Nat.le_of_ble_eq_true rfl) ?_
  intro p e s m args below meth c ls Q C hret hl hw
  have hx := C.1.1
  have hb := C.1.2.1
  have ho := C.1.2.2.2.1
  have hL := C.1.2.2.2.2
  have hl : lv_has ls 2 [(0, .ref (q 66)), (1, .ref (q 33))] := hl
  unfold f_X0_overwrite_66_33 at h
  refine lv_aload_n hx hb dX0_overwrite_0 rfl (lv_at hl 1 rfl) ?_
  refine lv_iconst (v := (nI 0)) hx hb dX0_overwrite_1 (by decide) ?_
  refine lv_aload_n hx hb dX0_overwrite_2 rfl (lv_at hl 0 rfl) ?_
  refine lv_iconst (v := (nI 0)) hx hb dX0_overwrite_3 (by decide) ?_
  refine lv_aload_n hx hb dX0_overwrite_4 rfl (lv_at hl 1 rfl) ?_
  refine va_alen hx hb C.2.1.1 hw.1 33 0 (by rw [x_w_get (x_lt hN rfl), sX_33]; rfl) rfl (v := nI 4) rfl dX0_overwrite_5 ?_
  refine lv_aload_n hx hb dX0_overwrite_6 rfl (lv_at hl 0 rfl) ?_
  refine va_alen hx hb C.2.1.1 hw.1 66 0 (by rw [x_w_get (x_lt hN rfl), sX_66]; rfl) rfl (v := nI 4) rfl dX0_overwrite_7 ?_
  refine xh_min C (rest := [_, _, _, _]) mw_RX0_82 hl.1 ⟨by decide, Nat.le_of_ble_eq_true rfl⟩ dX0_overwrite_8 ?_
  refine xh_copy C hw (rest := []) 33 66 4 4 h sX_33 sX_66 (x_lt hN rfl) (x_lt hN rfl) ac_RX0_88 hl.1 ⟨by decide, Nat.le_of_ble_eq_true rfl⟩ dX0_overwrite_11 (fun H locs M hw h => ?_)
  exact hret dX0_overwrite_14 hw h
def f_X0_become_34_1 (NC : Nat) (M : x_M) : Option (Unit × x_M) := x_bn (f_X4_become_35_2 M) (fun _ M => x_bn (f_X3_become_39_6 M) (fun _ M => x_bn (f_X9_become_49_16 NC M) (fun _ M => x_bn (f_X6_become_51_18 M) (fun _ M => x_bn (f_X5_become_60_27 M) (fun _ M => x_bn (f_X0_overwrite_64_31 M) (fun _ M => x_bn (f_X0_overwrite_65_32 M) (fun _ M => x_bn (f_X0_overwrite_66_33 M) (fun _ M => x_gf M 1 8 (fun r90 => x_pf M 34 8 r90 (fun M => some ((), M)))))))))))
abbrev rm_X0_become_34_1 : Room := { frames := 3, cells := 0, slots := 0, locals := 242 }
set_option maxHeartbeats 4000000 in
set_option maxRecDepth 100000 in
theorem c_X0_become_34_1 {l : Launch} {D : va_G} {cy : Nat → ClassId} {q ad : Nat → Nat} {NC : Nat} {s0 : State} (hq : x_Q q NC s0.heap.size) (hN : 88 ≤ NC) {M : x_M} {z : Unit × x_M} (h : f_X0_become_34_1 NC M = some z) : x_Cv l D cy q ad x_spX NC s0 yX0_become (x_uw yX0_become cX0_become 2 none) rm_X0_become_34_1 [.ref (q 34), .ref (q 1)] M z.2 := by
  refine x_metv hq (by decide) (Nat.le_of_ble_eq_true rfl) ?_
  intro p e s m args below meth c ls Q C hret hl hw
  have hx := C.1.1
  have hb := C.1.2.1
  have ho := C.1.2.2.2.1
  have hL := C.1.2.2.2.2
  have hl : lv_has ls 2 [(0, .ref (q 34)), (1, .ref (q 1))] := hl
  unfold f_X0_become_34_1 at h
  refine lv_aload_n hx hb dX0_become_0 rfl (lv_at hl 0 rfl) ?_
  refine xh_getr C hw 34 0 sX_34 (x_lt hN rfl) rfl rfl rfl lk_RX0_10 dX0_become_1 ?_
  refine lv_aload_n hx hb dX0_become_4 rfl (lv_at hl 1 rfl) ?_
  refine xh_getr C hw 1 0 sX_1 (x_lt hN rfl) rfl rfl rfl lk_RX0_10 dX0_become_5 ?_
  refine xh_cVv C hw (rest := []) h (fun _ hy => c_X4_become_35_2 hq hN hy) ml_RX0_62 mv_X4_become sX_35 (x_lt hN rfl) rfl ⟨rfl, rfl, by decide, by decide⟩ rfl hl.1 rfl (Nat.le_of_ble_eq_true rfl) dX0_become_8 (fun H locs _ M hw h => ?_)
  refine lv_aload_n hx hb dX0_become_11 rfl (lv_at hl 0 rfl) ?_
  refine xh_getr C hw 34 1 sX_34 (x_lt hN rfl) rfl rfl rfl lk_RX0_19 dX0_become_12 ?_
  refine lv_aload_n hx hb dX0_become_15 rfl (lv_at hl 1 rfl) ?_
  refine xh_getr C hw 1 1 sX_1 (x_lt hN rfl) rfl rfl rfl lk_RX0_19 dX0_become_16 ?_
  refine xh_cVv C hw (rest := []) h (fun _ hy => c_X3_become_39_6 hq hN hy) ml_RX0_66 mv_X3_become sX_39 (x_lt hN rfl) rfl ⟨rfl, rfl, by decide, by decide⟩ rfl hl.1 rfl (Nat.le_of_ble_eq_true rfl) dX0_become_19 (fun H locs _ M hw h => ?_)
  refine lv_aload_n hx hb dX0_become_22 rfl (lv_at hl 0 rfl) ?_
  refine xh_getr C hw 34 2 sX_34 (x_lt hN rfl) rfl rfl rfl lk_RX0_26 dX0_become_23 ?_
  refine lv_aload_n hx hb dX0_become_26 rfl (lv_at hl 1 rfl) ?_
  refine xh_getr C hw 1 2 sX_1 (x_lt hN rfl) rfl rfl rfl lk_RX0_26 dX0_become_27 ?_
  refine xh_cVv C hw (rest := []) h (fun _ hy => c_X9_become_49_16 hq hN hy) ml_RX0_69 mv_X9_become sX_49 (x_lt hN rfl) rfl ⟨rfl, rfl, by decide, by decide⟩ rfl hl.1 rfl (Nat.le_of_ble_eq_true rfl) dX0_become_30 (fun H locs _ M hw h => ?_)
  refine lv_aload_n hx hb dX0_become_33 rfl (lv_at hl 0 rfl) ?_
  refine xh_getr C hw 34 3 sX_34 (x_lt hN rfl) rfl rfl rfl lk_RX0_33 dX0_become_34 ?_
  refine lv_aload_n hx hb dX0_become_37 rfl (lv_at hl 1 rfl) ?_
  refine xh_getr C hw 1 3 sX_1 (x_lt hN rfl) rfl rfl rfl lk_RX0_33 dX0_become_38 ?_
  refine xh_cVv C hw (rest := []) h (fun _ hy => c_X6_become_51_18 hq hN hy) ml_RX0_72 mv_X6_become sX_51 (x_lt hN rfl) rfl ⟨rfl, rfl, by decide, by decide⟩ rfl hl.1 rfl (Nat.le_of_ble_eq_true rfl) dX0_become_41 (fun H locs _ M hw h => ?_)
  refine lv_aload_n hx hb dX0_become_44 rfl (lv_at hl 0 rfl) ?_
  refine xh_getr C hw 34 4 sX_34 (x_lt hN rfl) rfl rfl rfl lk_RX0_40 dX0_become_45 ?_
  refine lv_aload_n hx hb dX0_become_48 rfl (lv_at hl 1 rfl) ?_
  refine xh_getr C hw 1 4 sX_1 (x_lt hN rfl) rfl rfl rfl lk_RX0_40 dX0_become_49 ?_
  refine xh_cVv C hw (rest := []) h (fun _ hy => c_X5_become_60_27 hq hN hy) ml_RX0_75 mv_X5_become sX_60 (x_lt hN rfl) rfl ⟨rfl, rfl, by decide, by decide⟩ rfl hl.1 rfl (Nat.le_of_ble_eq_true rfl) dX0_become_52 (fun H locs _ M hw h => ?_)
  refine lv_aload_n hx hb dX0_become_55 rfl (lv_at hl 0 rfl) ?_
  refine xh_getr C hw 34 5 sX_34 (x_lt hN rfl) rfl rfl rfl lk_RX0_44 dX0_become_56 ?_
  refine lv_aload_n hx hb dX0_become_59 rfl (lv_at hl 1 rfl) ?_
  refine xh_getr C hw 1 5 sX_1 (x_lt hN rfl) rfl rfl rfl lk_RX0_44 dX0_become_60 ?_
  refine xh_cSv C hw (rest := []) h (fun _ hy => c_X0_overwrite_64_31 hq hN hy) ml_RX0_78 st_X0_overwrite ⟨rfl, rfl, by decide, by decide⟩ rfl hl.1 rfl (Nat.le_of_ble_eq_true rfl) dX0_become_63 (fun H locs _ M hw h => ?_)
  refine lv_aload_n hx hb dX0_become_66 rfl (lv_at hl 0 rfl) ?_
  refine xh_getr C hw 34 6 sX_34 (x_lt hN rfl) rfl rfl rfl lk_RX0_48 dX0_become_67 ?_
  refine lv_aload_n hx hb dX0_become_70 rfl (lv_at hl 1 rfl) ?_
  refine xh_getr C hw 1 6 sX_1 (x_lt hN rfl) rfl rfl rfl lk_RX0_48 dX0_become_71 ?_
  refine xh_cSv C hw (rest := []) h (fun _ hy => c_X0_overwrite_65_32 hq hN hy) ml_RX0_78 st_X0_overwrite ⟨rfl, rfl, by decide, by decide⟩ rfl hl.1 rfl (Nat.le_of_ble_eq_true rfl) dX0_become_74 (fun H locs _ M hw h => ?_)
  refine lv_aload_n hx hb dX0_become_77 rfl (lv_at hl 0 rfl) ?_
  refine xh_getr C hw 34 7 sX_34 (x_lt hN rfl) rfl rfl rfl lk_RX0_51 dX0_become_78 ?_
  refine lv_aload_n hx hb dX0_become_81 rfl (lv_at hl 1 rfl) ?_
  refine xh_getr C hw 1 7 sX_1 (x_lt hN rfl) rfl rfl rfl lk_RX0_51 dX0_become_82 ?_
  refine xh_cSv C hw (rest := []) h (fun _ hy => c_X0_overwrite_66_33 hq hN hy) ml_RX0_78 st_X0_overwrite ⟨rfl, rfl, by decide, by decide⟩ rfl hl.1 rfl (Nat.le_of_ble_eq_true rfl) dX0_become_85 (fun H locs _ M hw h => ?_)
  refine lv_aload_n hx hb dX0_become_88 rfl (lv_at hl 0 rfl) ?_
  refine lv_aload_n hx hb dX0_become_89 rfl (lv_at hl 1 rfl) ?_
  refine xh_geti C hw 1 8 h sX_1 (x_lt hN rfl) rfl rfl rfl lk_RX0_54 dX0_become_90 (fun r90 h => ?_)
  refine xh_puti C hw 34 8 h sX_34 (x_lt hN rfl) rfl rfl rfl lk_RX0_54 rfl rfl dX0_become_93 (fun H locs M hw h => ?_)
  exact hret dX0_become_96 hw h
def f_X11_keep (NC : Nat) (M : x_M) : Option (Int32 × x_M) := x_bn (f_X0_become_34_1 NC M) (fun _ M => x_cz (nI 1) (x_pf M 0 10 (nI 1) (fun M => x_gf M 1 8 (fun r20 => some (r20, M)))))
abbrev rm_X11_keep : Room := { frames := 4, cells := 0, slots := 0, locals := 263 }
set_option maxHeartbeats 4000000 in
set_option maxRecDepth 100000 in
theorem c_X11_keep {l : Launch} {D : va_G} {cy : Nat → ClassId} {q ad : Nat → Nat} {NC : Nat} {s0 : State} (hq : x_Q q NC s0.heap.size) (hN : 88 ≤ NC) {M : x_M} {z : Int32 × x_M} (h : f_X11_keep NC M = some z) : x_Ci l D cy q ad x_spX NC s0 yX11_keep (x_uw yX11_keep cX11_keep 1 (some .int)) rm_X11_keep [.ref (q 0)] M z.1 z.2 := by
  refine x_meti hq (by decide) (Nat.le_of_ble_eq_true rfl) ?_
  intro p e s m args below meth c ls Q C hret hl hw
  have hx := C.1.1
  have hb := C.1.2.1
  have ho := C.1.2.2.2.1
  have hL := C.1.2.2.2.2
  have hl : lv_has ls 1 [(0, .ref (q 0))] := hl
  unfold f_X11_keep at h
  refine lv_aload_n hx hb dX11_keep_0 rfl (lv_at hl 0 rfl) ?_
  refine xh_getr C hw 0 1 sX_0 (x_lt hN rfl) rfl rfl rfl lk_RX11_16 dX11_keep_1 ?_
  refine lv_aload_n hx hb dX11_keep_4 rfl (lv_at hl 0 rfl) ?_
  refine xh_getr C hw 0 0 sX_0 (x_lt hN rfl) rfl rfl rfl lk_RX11_12 dX11_keep_5 ?_
  refine xh_cVv C hw (rest := []) h (fun _ hy => c_X0_become_34_1 hq hN hy) ml_RX11_315 mv_X0_become sX_34 (x_lt hN rfl) rfl ⟨rfl, rfl, by decide, by decide⟩ rfl hl.1 rfl (Nat.le_of_ble_eq_true rfl) dX11_keep_8 (fun H locs _ M hw h => ?_)
  refine lv_aload_n hx hb dX11_keep_11 rfl (lv_at hl 0 rfl) ?_
  refine lv_iconst (v := (nI 1)) hx hb dX11_keep_12 (by decide) ?_
  refine xh_putz C hw 0 10 h sX_0 (x_lt hN rfl) rfl rfl rfl lk_RX11_319 rfl rfl dX11_keep_13 (fun H locs M hw h => ?_)
  refine lv_aload_n hx hb dX11_keep_16 rfl (lv_at hl 0 rfl) ?_
  refine xh_getr C hw 0 0 sX_0 (x_lt hN rfl) rfl rfl rfl lk_RX11_12 dX11_keep_17 ?_
  refine xh_geti C hw 1 8 h sX_1 (x_lt hN rfl) rfl rfl rfl lk_RX11_97 dX11_keep_20 (fun r20 h => ?_)
  exact hret dX11_keep_23 rfl hw h
def f_X0_overwrite_3_36 (M : x_M) : Option (Unit × x_M) := x_ac 10 10 M 36 (nI 0) 3 (nI 0) (if (nI 10) < (nI 10) then (nI 10) else (nI 10)) (fun M => some ((), M))
abbrev rm_X0_overwrite_3_36 : Room := { frames := 1, cells := 0, slots := 0, locals := 200 }
set_option maxHeartbeats 4000000 in
set_option maxRecDepth 100000 in
theorem c_X0_overwrite_3_36 {l : Launch} {D : va_G} {cy : Nat → ClassId} {q ad : Nat → Nat} {NC : Nat} {s0 : State} (hq : x_Q q NC s0.heap.size) (hN : 88 ≤ NC) {M : x_M} {z : Unit × x_M} (h : f_X0_overwrite_3_36 M = some z) : x_Cv l D cy q ad x_spX NC s0 yX0_overwrite (x_uw yX0_overwrite cX0_overwrite 2 none) rm_X0_overwrite_3_36 [.ref (q 3), .ref (q 36)] M z.2 := by
  refine x_metv hq (by decide) (Nat.le_of_ble_eq_true rfl) ?_
  intro p e s m args below meth c ls Q C hret hl hw
  have hx := C.1.1
  have hb := C.1.2.1
  have ho := C.1.2.2.2.1
  have hL := C.1.2.2.2.2
  have hl : lv_has ls 2 [(0, .ref (q 3)), (1, .ref (q 36))] := hl
  unfold f_X0_overwrite_3_36 at h
  refine lv_aload_n hx hb dX0_overwrite_0 rfl (lv_at hl 1 rfl) ?_
  refine lv_iconst (v := (nI 0)) hx hb dX0_overwrite_1 (by decide) ?_
  refine lv_aload_n hx hb dX0_overwrite_2 rfl (lv_at hl 0 rfl) ?_
  refine lv_iconst (v := (nI 0)) hx hb dX0_overwrite_3 (by decide) ?_
  refine lv_aload_n hx hb dX0_overwrite_4 rfl (lv_at hl 1 rfl) ?_
  refine va_alen hx hb C.2.1.1 hw.1 36 0 (by rw [x_w_get (x_lt hN rfl), sX_36]; rfl) rfl (v := nI 10) rfl dX0_overwrite_5 ?_
  refine lv_aload_n hx hb dX0_overwrite_6 rfl (lv_at hl 0 rfl) ?_
  refine va_alen hx hb C.2.1.1 hw.1 3 0 (by rw [x_w_get (x_lt hN rfl), sX_3]; rfl) rfl (v := nI 10) rfl dX0_overwrite_7 ?_
  refine xh_min C (rest := [_, _, _, _]) mw_RX0_82 hl.1 ⟨by decide, Nat.le_of_ble_eq_true rfl⟩ dX0_overwrite_8 ?_
  refine xh_copy C hw (rest := []) 36 3 10 10 h sX_36 sX_3 (x_lt hN rfl) (x_lt hN rfl) ac_RX0_88 hl.1 ⟨by decide, Nat.le_of_ble_eq_true rfl⟩ dX0_overwrite_11 (fun H locs M hw h => ?_)
  exact hret dX0_overwrite_14 hw h
def f_X0_overwrite_4_37 (M : x_M) : Option (Unit × x_M) := x_ac 10 10 M 37 (nI 0) 4 (nI 0) (if (nI 10) < (nI 10) then (nI 10) else (nI 10)) (fun M => some ((), M))
abbrev rm_X0_overwrite_4_37 : Room := { frames := 1, cells := 0, slots := 0, locals := 200 }
set_option maxHeartbeats 4000000 in
set_option maxRecDepth 100000 in
theorem c_X0_overwrite_4_37 {l : Launch} {D : va_G} {cy : Nat → ClassId} {q ad : Nat → Nat} {NC : Nat} {s0 : State} (hq : x_Q q NC s0.heap.size) (hN : 88 ≤ NC) {M : x_M} {z : Unit × x_M} (h : f_X0_overwrite_4_37 M = some z) : x_Cv l D cy q ad x_spX NC s0 yX0_overwrite (x_uw yX0_overwrite cX0_overwrite 2 none) rm_X0_overwrite_4_37 [.ref (q 4), .ref (q 37)] M z.2 := by
  refine x_metv hq (by decide) (Nat.le_of_ble_eq_true rfl) ?_
  intro p e s m args below meth c ls Q C hret hl hw
  have hx := C.1.1
  have hb := C.1.2.1
  have ho := C.1.2.2.2.1
  have hL := C.1.2.2.2.2
  have hl : lv_has ls 2 [(0, .ref (q 4)), (1, .ref (q 37))] := hl
  unfold f_X0_overwrite_4_37 at h
  refine lv_aload_n hx hb dX0_overwrite_0 rfl (lv_at hl 1 rfl) ?_
  refine lv_iconst (v := (nI 0)) hx hb dX0_overwrite_1 (by decide) ?_
  refine lv_aload_n hx hb dX0_overwrite_2 rfl (lv_at hl 0 rfl) ?_
  refine lv_iconst (v := (nI 0)) hx hb dX0_overwrite_3 (by decide) ?_
  refine lv_aload_n hx hb dX0_overwrite_4 rfl (lv_at hl 1 rfl) ?_
  refine va_alen hx hb C.2.1.1 hw.1 37 0 (by rw [x_w_get (x_lt hN rfl), sX_37]; rfl) rfl (v := nI 10) rfl dX0_overwrite_5 ?_
  refine lv_aload_n hx hb dX0_overwrite_6 rfl (lv_at hl 0 rfl) ?_
  refine va_alen hx hb C.2.1.1 hw.1 4 0 (by rw [x_w_get (x_lt hN rfl), sX_4]; rfl) rfl (v := nI 10) rfl dX0_overwrite_7 ?_
  refine xh_min C (rest := [_, _, _, _]) mw_RX0_82 hl.1 ⟨by decide, Nat.le_of_ble_eq_true rfl⟩ dX0_overwrite_8 ?_
  refine xh_copy C hw (rest := []) 37 4 10 10 h sX_37 sX_4 (x_lt hN rfl) (x_lt hN rfl) ac_RX0_88 hl.1 ⟨by decide, Nat.le_of_ble_eq_true rfl⟩ dX0_overwrite_11 (fun H locs M hw h => ?_)
  exact hret dX0_overwrite_14 hw h
def f_X0_overwrite_5_38 (M : x_M) : Option (Unit × x_M) := x_ac 10 10 M 38 (nI 0) 5 (nI 0) (if (nI 10) < (nI 10) then (nI 10) else (nI 10)) (fun M => some ((), M))
abbrev rm_X0_overwrite_5_38 : Room := { frames := 1, cells := 0, slots := 0, locals := 200 }
set_option maxHeartbeats 4000000 in
set_option maxRecDepth 100000 in
theorem c_X0_overwrite_5_38 {l : Launch} {D : va_G} {cy : Nat → ClassId} {q ad : Nat → Nat} {NC : Nat} {s0 : State} (hq : x_Q q NC s0.heap.size) (hN : 88 ≤ NC) {M : x_M} {z : Unit × x_M} (h : f_X0_overwrite_5_38 M = some z) : x_Cv l D cy q ad x_spX NC s0 yX0_overwrite (x_uw yX0_overwrite cX0_overwrite 2 none) rm_X0_overwrite_5_38 [.ref (q 5), .ref (q 38)] M z.2 := by
  refine x_metv hq (by decide) (Nat.le_of_ble_eq_true rfl) ?_
  intro p e s m args below meth c ls Q C hret hl hw
  have hx := C.1.1
  have hb := C.1.2.1
  have ho := C.1.2.2.2.1
  have hL := C.1.2.2.2.2
  have hl : lv_has ls 2 [(0, .ref (q 5)), (1, .ref (q 38))] := hl
  unfold f_X0_overwrite_5_38 at h
  refine lv_aload_n hx hb dX0_overwrite_0 rfl (lv_at hl 1 rfl) ?_
  refine lv_iconst (v := (nI 0)) hx hb dX0_overwrite_1 (by decide) ?_
  refine lv_aload_n hx hb dX0_overwrite_2 rfl (lv_at hl 0 rfl) ?_
  refine lv_iconst (v := (nI 0)) hx hb dX0_overwrite_3 (by decide) ?_
  refine lv_aload_n hx hb dX0_overwrite_4 rfl (lv_at hl 1 rfl) ?_
  refine va_alen hx hb C.2.1.1 hw.1 38 0 (by rw [x_w_get (x_lt hN rfl), sX_38]; rfl) rfl (v := nI 10) rfl dX0_overwrite_5 ?_
  refine lv_aload_n hx hb dX0_overwrite_6 rfl (lv_at hl 0 rfl) ?_
  refine va_alen hx hb C.2.1.1 hw.1 5 0 (by rw [x_w_get (x_lt hN rfl), sX_5]; rfl) rfl (v := nI 10) rfl dX0_overwrite_7 ?_
  refine xh_min C (rest := [_, _, _, _]) mw_RX0_82 hl.1 ⟨by decide, Nat.le_of_ble_eq_true rfl⟩ dX0_overwrite_8 ?_
  refine xh_copy C hw (rest := []) 38 5 10 10 h sX_38 sX_5 (x_lt hN rfl) (x_lt hN rfl) ac_RX0_88 hl.1 ⟨by decide, Nat.le_of_ble_eq_true rfl⟩ dX0_overwrite_11 (fun H locs M hw h => ?_)
  exact hret dX0_overwrite_14 hw h
def f_X4_become_2_35 (M : x_M) : Option (Unit × x_M) := x_bn (f_X0_overwrite_3_36 M) (fun _ M => x_bn (f_X0_overwrite_4_37 M) (fun _ M => x_bn (f_X0_overwrite_5_38 M) (fun _ M => x_gf M 35 3 (fun r35 => x_pf M 2 3 r35 (fun M => some ((), M))))))
abbrev rm_X4_become_2_35 : Room := { frames := 2, cells := 0, slots := 0, locals := 221 }
set_option maxHeartbeats 4000000 in
set_option maxRecDepth 100000 in
theorem c_X4_become_2_35 {l : Launch} {D : va_G} {cy : Nat → ClassId} {q ad : Nat → Nat} {NC : Nat} {s0 : State} (hq : x_Q q NC s0.heap.size) (hN : 88 ≤ NC) {M : x_M} {z : Unit × x_M} (h : f_X4_become_2_35 M = some z) : x_Cv l D cy q ad x_spX NC s0 yX4_become (x_uw yX4_become cX4_become 2 none) rm_X4_become_2_35 [.ref (q 2), .ref (q 35)] M z.2 := by
  refine x_metv hq (by decide) (Nat.le_of_ble_eq_true rfl) ?_
  intro p e s m args below meth c ls Q C hret hl hw
  have hx := C.1.1
  have hb := C.1.2.1
  have ho := C.1.2.2.2.1
  have hL := C.1.2.2.2.2
  have hl : lv_has ls 2 [(0, .ref (q 2)), (1, .ref (q 35))] := hl
  unfold f_X4_become_2_35 at h
  refine lv_aload_n hx hb dX4_become_0 rfl (lv_at hl 0 rfl) ?_
  refine xh_getr C hw 2 0 sX_2 (x_lt hN rfl) rfl rfl rfl lk_RX4_9 dX4_become_1 ?_
  refine lv_aload_n hx hb dX4_become_4 rfl (lv_at hl 1 rfl) ?_
  refine xh_getr C hw 35 0 sX_35 (x_lt hN rfl) rfl rfl rfl lk_RX4_9 dX4_become_5 ?_
  refine xh_cSv C hw (rest := []) h (fun _ hy => c_X0_overwrite_3_36 hq hN hy) ml_RX4_36 st_X0_overwrite ⟨rfl, rfl, by decide, by decide⟩ rfl hl.1 rfl (Nat.le_of_ble_eq_true rfl) dX4_become_8 (fun H locs _ M hw h => ?_)
  refine lv_aload_n hx hb dX4_become_11 rfl (lv_at hl 0 rfl) ?_
  refine xh_getr C hw 2 1 sX_2 (x_lt hN rfl) rfl rfl rfl lk_RX4_15 dX4_become_12 ?_
  refine lv_aload_n hx hb dX4_become_15 rfl (lv_at hl 1 rfl) ?_
  refine xh_getr C hw 35 1 sX_35 (x_lt hN rfl) rfl rfl rfl lk_RX4_15 dX4_become_16 ?_
  refine xh_cSv C hw (rest := []) h (fun _ hy => c_X0_overwrite_4_37 hq hN hy) ml_RX4_36 st_X0_overwrite ⟨rfl, rfl, by decide, by decide⟩ rfl hl.1 rfl (Nat.le_of_ble_eq_true rfl) dX4_become_19 (fun H locs _ M hw h => ?_)
  refine lv_aload_n hx hb dX4_become_22 rfl (lv_at hl 0 rfl) ?_
  refine xh_getr C hw 2 2 sX_2 (x_lt hN rfl) rfl rfl rfl lk_RX4_18 dX4_become_23 ?_
  refine lv_aload_n hx hb dX4_become_26 rfl (lv_at hl 1 rfl) ?_
  refine xh_getr C hw 35 2 sX_35 (x_lt hN rfl) rfl rfl rfl lk_RX4_18 dX4_become_27 ?_
  refine xh_cSv C hw (rest := []) h (fun _ hy => c_X0_overwrite_5_38 hq hN hy) ml_RX4_36 st_X0_overwrite ⟨rfl, rfl, by decide, by decide⟩ rfl hl.1 rfl (Nat.le_of_ble_eq_true rfl) dX4_become_30 (fun H locs _ M hw h => ?_)
  refine lv_aload_n hx hb dX4_become_33 rfl (lv_at hl 0 rfl) ?_
  refine lv_aload_n hx hb dX4_become_34 rfl (lv_at hl 1 rfl) ?_
  refine xh_geti C hw 35 3 h sX_35 (x_lt hN rfl) rfl rfl rfl lk_RX4_21 dX4_become_35 (fun r35 h => ?_)
  refine xh_puti C hw 2 3 h sX_2 (x_lt hN rfl) rfl rfl rfl lk_RX4_21 rfl rfl dX4_become_38 (fun H locs M hw h => ?_)
  exact hret dX4_become_41 hw h
def f_X0_overwrite_7_40 (M : x_M) : Option (Unit × x_M) := x_ac 100 100 M 40 (nI 0) 7 (nI 0) (if (nI 100) < (nI 100) then (nI 100) else (nI 100)) (fun M => some ((), M))
abbrev rm_X0_overwrite_7_40 : Room := { frames := 1, cells := 0, slots := 0, locals := 200 }
set_option maxHeartbeats 4000000 in
set_option maxRecDepth 100000 in
theorem c_X0_overwrite_7_40 {l : Launch} {D : va_G} {cy : Nat → ClassId} {q ad : Nat → Nat} {NC : Nat} {s0 : State} (hq : x_Q q NC s0.heap.size) (hN : 88 ≤ NC) {M : x_M} {z : Unit × x_M} (h : f_X0_overwrite_7_40 M = some z) : x_Cv l D cy q ad x_spX NC s0 yX0_overwrite (x_uw yX0_overwrite cX0_overwrite 2 none) rm_X0_overwrite_7_40 [.ref (q 7), .ref (q 40)] M z.2 := by
  refine x_metv hq (by decide) (Nat.le_of_ble_eq_true rfl) ?_
  intro p e s m args below meth c ls Q C hret hl hw
  have hx := C.1.1
  have hb := C.1.2.1
  have ho := C.1.2.2.2.1
  have hL := C.1.2.2.2.2
  have hl : lv_has ls 2 [(0, .ref (q 7)), (1, .ref (q 40))] := hl
  unfold f_X0_overwrite_7_40 at h
  refine lv_aload_n hx hb dX0_overwrite_0 rfl (lv_at hl 1 rfl) ?_
  refine lv_iconst (v := (nI 0)) hx hb dX0_overwrite_1 (by decide) ?_
  refine lv_aload_n hx hb dX0_overwrite_2 rfl (lv_at hl 0 rfl) ?_
  refine lv_iconst (v := (nI 0)) hx hb dX0_overwrite_3 (by decide) ?_
  refine lv_aload_n hx hb dX0_overwrite_4 rfl (lv_at hl 1 rfl) ?_
  refine va_alen hx hb C.2.1.1 hw.1 40 0 (by rw [x_w_get (x_lt hN rfl), sX_40]; rfl) rfl (v := nI 100) rfl dX0_overwrite_5 ?_
  refine lv_aload_n hx hb dX0_overwrite_6 rfl (lv_at hl 0 rfl) ?_
  refine va_alen hx hb C.2.1.1 hw.1 7 0 (by rw [x_w_get (x_lt hN rfl), sX_7]; rfl) rfl (v := nI 100) rfl dX0_overwrite_7 ?_
  refine xh_min C (rest := [_, _, _, _]) mw_RX0_82 hl.1 ⟨by decide, Nat.le_of_ble_eq_true rfl⟩ dX0_overwrite_8 ?_
  refine xh_copy C hw (rest := []) 40 7 100 100 h sX_40 sX_7 (x_lt hN rfl) (x_lt hN rfl) ac_RX0_88 hl.1 ⟨by decide, Nat.le_of_ble_eq_true rfl⟩ dX0_overwrite_11 (fun H locs M hw h => ?_)
  exact hret dX0_overwrite_14 hw h
def f_X0_overwrite_8_41 (M : x_M) : Option (Unit × x_M) := x_ac 100 100 M 41 (nI 0) 8 (nI 0) (if (nI 100) < (nI 100) then (nI 100) else (nI 100)) (fun M => some ((), M))
abbrev rm_X0_overwrite_8_41 : Room := { frames := 1, cells := 0, slots := 0, locals := 200 }
set_option maxHeartbeats 4000000 in
set_option maxRecDepth 100000 in
theorem c_X0_overwrite_8_41 {l : Launch} {D : va_G} {cy : Nat → ClassId} {q ad : Nat → Nat} {NC : Nat} {s0 : State} (hq : x_Q q NC s0.heap.size) (hN : 88 ≤ NC) {M : x_M} {z : Unit × x_M} (h : f_X0_overwrite_8_41 M = some z) : x_Cv l D cy q ad x_spX NC s0 yX0_overwrite (x_uw yX0_overwrite cX0_overwrite 2 none) rm_X0_overwrite_8_41 [.ref (q 8), .ref (q 41)] M z.2 := by
  refine x_metv hq (by decide) (Nat.le_of_ble_eq_true rfl) ?_
  intro p e s m args below meth c ls Q C hret hl hw
  have hx := C.1.1
  have hb := C.1.2.1
  have ho := C.1.2.2.2.1
  have hL := C.1.2.2.2.2
  have hl : lv_has ls 2 [(0, .ref (q 8)), (1, .ref (q 41))] := hl
  unfold f_X0_overwrite_8_41 at h
  refine lv_aload_n hx hb dX0_overwrite_0 rfl (lv_at hl 1 rfl) ?_
  refine lv_iconst (v := (nI 0)) hx hb dX0_overwrite_1 (by decide) ?_
  refine lv_aload_n hx hb dX0_overwrite_2 rfl (lv_at hl 0 rfl) ?_
  refine lv_iconst (v := (nI 0)) hx hb dX0_overwrite_3 (by decide) ?_
  refine lv_aload_n hx hb dX0_overwrite_4 rfl (lv_at hl 1 rfl) ?_
  refine va_alen hx hb C.2.1.1 hw.1 41 0 (by rw [x_w_get (x_lt hN rfl), sX_41]; rfl) rfl (v := nI 100) rfl dX0_overwrite_5 ?_
  refine lv_aload_n hx hb dX0_overwrite_6 rfl (lv_at hl 0 rfl) ?_
  refine va_alen hx hb C.2.1.1 hw.1 8 0 (by rw [x_w_get (x_lt hN rfl), sX_8]; rfl) rfl (v := nI 100) rfl dX0_overwrite_7 ?_
  refine xh_min C (rest := [_, _, _, _]) mw_RX0_82 hl.1 ⟨by decide, Nat.le_of_ble_eq_true rfl⟩ dX0_overwrite_8 ?_
  refine xh_copy C hw (rest := []) 41 8 100 100 h sX_41 sX_8 (x_lt hN rfl) (x_lt hN rfl) ac_RX0_88 hl.1 ⟨by decide, Nat.le_of_ble_eq_true rfl⟩ dX0_overwrite_11 (fun H locs M hw h => ?_)
  exact hret dX0_overwrite_14 hw h
def f_X0_overwrite_9_42 (M : x_M) : Option (Unit × x_M) := x_ac 100 100 M 42 (nI 0) 9 (nI 0) (if (nI 100) < (nI 100) then (nI 100) else (nI 100)) (fun M => some ((), M))
abbrev rm_X0_overwrite_9_42 : Room := { frames := 1, cells := 0, slots := 0, locals := 200 }
set_option maxHeartbeats 4000000 in
set_option maxRecDepth 100000 in
theorem c_X0_overwrite_9_42 {l : Launch} {D : va_G} {cy : Nat → ClassId} {q ad : Nat → Nat} {NC : Nat} {s0 : State} (hq : x_Q q NC s0.heap.size) (hN : 88 ≤ NC) {M : x_M} {z : Unit × x_M} (h : f_X0_overwrite_9_42 M = some z) : x_Cv l D cy q ad x_spX NC s0 yX0_overwrite (x_uw yX0_overwrite cX0_overwrite 2 none) rm_X0_overwrite_9_42 [.ref (q 9), .ref (q 42)] M z.2 := by
  refine x_metv hq (by decide) (Nat.le_of_ble_eq_true rfl) ?_
  intro p e s m args below meth c ls Q C hret hl hw
  have hx := C.1.1
  have hb := C.1.2.1
  have ho := C.1.2.2.2.1
  have hL := C.1.2.2.2.2
  have hl : lv_has ls 2 [(0, .ref (q 9)), (1, .ref (q 42))] := hl
  unfold f_X0_overwrite_9_42 at h
  refine lv_aload_n hx hb dX0_overwrite_0 rfl (lv_at hl 1 rfl) ?_
  refine lv_iconst (v := (nI 0)) hx hb dX0_overwrite_1 (by decide) ?_
  refine lv_aload_n hx hb dX0_overwrite_2 rfl (lv_at hl 0 rfl) ?_
  refine lv_iconst (v := (nI 0)) hx hb dX0_overwrite_3 (by decide) ?_
  refine lv_aload_n hx hb dX0_overwrite_4 rfl (lv_at hl 1 rfl) ?_
  refine va_alen hx hb C.2.1.1 hw.1 42 0 (by rw [x_w_get (x_lt hN rfl), sX_42]; rfl) rfl (v := nI 100) rfl dX0_overwrite_5 ?_
  refine lv_aload_n hx hb dX0_overwrite_6 rfl (lv_at hl 0 rfl) ?_
  refine va_alen hx hb C.2.1.1 hw.1 9 0 (by rw [x_w_get (x_lt hN rfl), sX_9]; rfl) rfl (v := nI 100) rfl dX0_overwrite_7 ?_
  refine xh_min C (rest := [_, _, _, _]) mw_RX0_82 hl.1 ⟨by decide, Nat.le_of_ble_eq_true rfl⟩ dX0_overwrite_8 ?_
  refine xh_copy C hw (rest := []) 42 9 100 100 h sX_42 sX_9 (x_lt hN rfl) (x_lt hN rfl) ac_RX0_88 hl.1 ⟨by decide, Nat.le_of_ble_eq_true rfl⟩ dX0_overwrite_11 (fun H locs M hw h => ?_)
  exact hret dX0_overwrite_14 hw h
def f_X0_overwrite_10_43 (M : x_M) : Option (Unit × x_M) := x_ac 100 100 M 43 (nI 0) 10 (nI 0) (if (nI 100) < (nI 100) then (nI 100) else (nI 100)) (fun M => some ((), M))
abbrev rm_X0_overwrite_10_43 : Room := { frames := 1, cells := 0, slots := 0, locals := 200 }
set_option maxHeartbeats 4000000 in
set_option maxRecDepth 100000 in
theorem c_X0_overwrite_10_43 {l : Launch} {D : va_G} {cy : Nat → ClassId} {q ad : Nat → Nat} {NC : Nat} {s0 : State} (hq : x_Q q NC s0.heap.size) (hN : 88 ≤ NC) {M : x_M} {z : Unit × x_M} (h : f_X0_overwrite_10_43 M = some z) : x_Cv l D cy q ad x_spX NC s0 yX0_overwrite (x_uw yX0_overwrite cX0_overwrite 2 none) rm_X0_overwrite_10_43 [.ref (q 10), .ref (q 43)] M z.2 := by
  refine x_metv hq (by decide) (Nat.le_of_ble_eq_true rfl) ?_
  intro p e s m args below meth c ls Q C hret hl hw
  have hx := C.1.1
  have hb := C.1.2.1
  have ho := C.1.2.2.2.1
  have hL := C.1.2.2.2.2
  have hl : lv_has ls 2 [(0, .ref (q 10)), (1, .ref (q 43))] := hl
  unfold f_X0_overwrite_10_43 at h
  refine lv_aload_n hx hb dX0_overwrite_0 rfl (lv_at hl 1 rfl) ?_
  refine lv_iconst (v := (nI 0)) hx hb dX0_overwrite_1 (by decide) ?_
  refine lv_aload_n hx hb dX0_overwrite_2 rfl (lv_at hl 0 rfl) ?_
  refine lv_iconst (v := (nI 0)) hx hb dX0_overwrite_3 (by decide) ?_
  refine lv_aload_n hx hb dX0_overwrite_4 rfl (lv_at hl 1 rfl) ?_
  refine va_alen hx hb C.2.1.1 hw.1 43 0 (by rw [x_w_get (x_lt hN rfl), sX_43]; rfl) rfl (v := nI 100) rfl dX0_overwrite_5 ?_
  refine lv_aload_n hx hb dX0_overwrite_6 rfl (lv_at hl 0 rfl) ?_
  refine va_alen hx hb C.2.1.1 hw.1 10 0 (by rw [x_w_get (x_lt hN rfl), sX_10]; rfl) rfl (v := nI 100) rfl dX0_overwrite_7 ?_
  refine xh_min C (rest := [_, _, _, _]) mw_RX0_82 hl.1 ⟨by decide, Nat.le_of_ble_eq_true rfl⟩ dX0_overwrite_8 ?_
  refine xh_copy C hw (rest := []) 43 10 100 100 h sX_43 sX_10 (x_lt hN rfl) (x_lt hN rfl) ac_RX0_88 hl.1 ⟨by decide, Nat.le_of_ble_eq_true rfl⟩ dX0_overwrite_11 (fun H locs M hw h => ?_)
  exact hret dX0_overwrite_14 hw h
def f_X0_overwrite_11_44 (M : x_M) : Option (Unit × x_M) := x_ac 100 100 M 44 (nI 0) 11 (nI 0) (if (nI 100) < (nI 100) then (nI 100) else (nI 100)) (fun M => some ((), M))
abbrev rm_X0_overwrite_11_44 : Room := { frames := 1, cells := 0, slots := 0, locals := 200 }
set_option maxHeartbeats 4000000 in
set_option maxRecDepth 100000 in
theorem c_X0_overwrite_11_44 {l : Launch} {D : va_G} {cy : Nat → ClassId} {q ad : Nat → Nat} {NC : Nat} {s0 : State} (hq : x_Q q NC s0.heap.size) (hN : 88 ≤ NC) {M : x_M} {z : Unit × x_M} (h : f_X0_overwrite_11_44 M = some z) : x_Cv l D cy q ad x_spX NC s0 yX0_overwrite (x_uw yX0_overwrite cX0_overwrite 2 none) rm_X0_overwrite_11_44 [.ref (q 11), .ref (q 44)] M z.2 := by
  refine x_metv hq (by decide) (Nat.le_of_ble_eq_true rfl) ?_
  intro p e s m args below meth c ls Q C hret hl hw
  have hx := C.1.1
  have hb := C.1.2.1
  have ho := C.1.2.2.2.1
  have hL := C.1.2.2.2.2
  have hl : lv_has ls 2 [(0, .ref (q 11)), (1, .ref (q 44))] := hl
  unfold f_X0_overwrite_11_44 at h
  refine lv_aload_n hx hb dX0_overwrite_0 rfl (lv_at hl 1 rfl) ?_
  refine lv_iconst (v := (nI 0)) hx hb dX0_overwrite_1 (by decide) ?_
  refine lv_aload_n hx hb dX0_overwrite_2 rfl (lv_at hl 0 rfl) ?_
  refine lv_iconst (v := (nI 0)) hx hb dX0_overwrite_3 (by decide) ?_
  refine lv_aload_n hx hb dX0_overwrite_4 rfl (lv_at hl 1 rfl) ?_
  refine va_alen hx hb C.2.1.1 hw.1 44 0 (by rw [x_w_get (x_lt hN rfl), sX_44]; rfl) rfl (v := nI 100) rfl dX0_overwrite_5 ?_
  refine lv_aload_n hx hb dX0_overwrite_6 rfl (lv_at hl 0 rfl) ?_
  refine va_alen hx hb C.2.1.1 hw.1 11 0 (by rw [x_w_get (x_lt hN rfl), sX_11]; rfl) rfl (v := nI 100) rfl dX0_overwrite_7 ?_
  refine xh_min C (rest := [_, _, _, _]) mw_RX0_82 hl.1 ⟨by decide, Nat.le_of_ble_eq_true rfl⟩ dX0_overwrite_8 ?_
  refine xh_copy C hw (rest := []) 44 11 100 100 h sX_44 sX_11 (x_lt hN rfl) (x_lt hN rfl) ac_RX0_88 hl.1 ⟨by decide, Nat.le_of_ble_eq_true rfl⟩ dX0_overwrite_11 (fun H locs M hw h => ?_)
  exact hret dX0_overwrite_14 hw h
def f_X0_overwrite_12_45 (M : x_M) : Option (Unit × x_M) := x_ac 100 100 M 45 (nI 0) 12 (nI 0) (if (nI 100) < (nI 100) then (nI 100) else (nI 100)) (fun M => some ((), M))
abbrev rm_X0_overwrite_12_45 : Room := { frames := 1, cells := 0, slots := 0, locals := 200 }
set_option maxHeartbeats 4000000 in
set_option maxRecDepth 100000 in
theorem c_X0_overwrite_12_45 {l : Launch} {D : va_G} {cy : Nat → ClassId} {q ad : Nat → Nat} {NC : Nat} {s0 : State} (hq : x_Q q NC s0.heap.size) (hN : 88 ≤ NC) {M : x_M} {z : Unit × x_M} (h : f_X0_overwrite_12_45 M = some z) : x_Cv l D cy q ad x_spX NC s0 yX0_overwrite (x_uw yX0_overwrite cX0_overwrite 2 none) rm_X0_overwrite_12_45 [.ref (q 12), .ref (q 45)] M z.2 := by
  refine x_metv hq (by decide) (Nat.le_of_ble_eq_true rfl) ?_
  intro p e s m args below meth c ls Q C hret hl hw
  have hx := C.1.1
  have hb := C.1.2.1
  have ho := C.1.2.2.2.1
  have hL := C.1.2.2.2.2
  have hl : lv_has ls 2 [(0, .ref (q 12)), (1, .ref (q 45))] := hl
  unfold f_X0_overwrite_12_45 at h
  refine lv_aload_n hx hb dX0_overwrite_0 rfl (lv_at hl 1 rfl) ?_
  refine lv_iconst (v := (nI 0)) hx hb dX0_overwrite_1 (by decide) ?_
  refine lv_aload_n hx hb dX0_overwrite_2 rfl (lv_at hl 0 rfl) ?_
  refine lv_iconst (v := (nI 0)) hx hb dX0_overwrite_3 (by decide) ?_
  refine lv_aload_n hx hb dX0_overwrite_4 rfl (lv_at hl 1 rfl) ?_
  refine va_alen hx hb C.2.1.1 hw.1 45 0 (by rw [x_w_get (x_lt hN rfl), sX_45]; rfl) rfl (v := nI 100) rfl dX0_overwrite_5 ?_
  refine lv_aload_n hx hb dX0_overwrite_6 rfl (lv_at hl 0 rfl) ?_
  refine va_alen hx hb C.2.1.1 hw.1 12 0 (by rw [x_w_get (x_lt hN rfl), sX_12]; rfl) rfl (v := nI 100) rfl dX0_overwrite_7 ?_
  refine xh_min C (rest := [_, _, _, _]) mw_RX0_82 hl.1 ⟨by decide, Nat.le_of_ble_eq_true rfl⟩ dX0_overwrite_8 ?_
  refine xh_copy C hw (rest := []) 45 12 100 100 h sX_45 sX_12 (x_lt hN rfl) (x_lt hN rfl) ac_RX0_88 hl.1 ⟨by decide, Nat.le_of_ble_eq_true rfl⟩ dX0_overwrite_11 (fun H locs M hw h => ?_)
  exact hret dX0_overwrite_14 hw h
def f_X0_overwrite_13_46 (M : x_M) : Option (Unit × x_M) := x_ac 100 100 M 46 (nI 0) 13 (nI 0) (if (nI 100) < (nI 100) then (nI 100) else (nI 100)) (fun M => some ((), M))
abbrev rm_X0_overwrite_13_46 : Room := { frames := 1, cells := 0, slots := 0, locals := 200 }
set_option maxHeartbeats 4000000 in
set_option maxRecDepth 100000 in
theorem c_X0_overwrite_13_46 {l : Launch} {D : va_G} {cy : Nat → ClassId} {q ad : Nat → Nat} {NC : Nat} {s0 : State} (hq : x_Q q NC s0.heap.size) (hN : 88 ≤ NC) {M : x_M} {z : Unit × x_M} (h : f_X0_overwrite_13_46 M = some z) : x_Cv l D cy q ad x_spX NC s0 yX0_overwrite (x_uw yX0_overwrite cX0_overwrite 2 none) rm_X0_overwrite_13_46 [.ref (q 13), .ref (q 46)] M z.2 := by
  refine x_metv hq (by decide) (Nat.le_of_ble_eq_true rfl) ?_
  intro p e s m args below meth c ls Q C hret hl hw
  have hx := C.1.1
  have hb := C.1.2.1
  have ho := C.1.2.2.2.1
  have hL := C.1.2.2.2.2
  have hl : lv_has ls 2 [(0, .ref (q 13)), (1, .ref (q 46))] := hl
  unfold f_X0_overwrite_13_46 at h
  refine lv_aload_n hx hb dX0_overwrite_0 rfl (lv_at hl 1 rfl) ?_
  refine lv_iconst (v := (nI 0)) hx hb dX0_overwrite_1 (by decide) ?_
  refine lv_aload_n hx hb dX0_overwrite_2 rfl (lv_at hl 0 rfl) ?_
  refine lv_iconst (v := (nI 0)) hx hb dX0_overwrite_3 (by decide) ?_
  refine lv_aload_n hx hb dX0_overwrite_4 rfl (lv_at hl 1 rfl) ?_
  refine va_alen hx hb C.2.1.1 hw.1 46 0 (by rw [x_w_get (x_lt hN rfl), sX_46]; rfl) rfl (v := nI 100) rfl dX0_overwrite_5 ?_
  refine lv_aload_n hx hb dX0_overwrite_6 rfl (lv_at hl 0 rfl) ?_
  refine va_alen hx hb C.2.1.1 hw.1 13 0 (by rw [x_w_get (x_lt hN rfl), sX_13]; rfl) rfl (v := nI 100) rfl dX0_overwrite_7 ?_
  refine xh_min C (rest := [_, _, _, _]) mw_RX0_82 hl.1 ⟨by decide, Nat.le_of_ble_eq_true rfl⟩ dX0_overwrite_8 ?_
  refine xh_copy C hw (rest := []) 46 13 100 100 h sX_46 sX_13 (x_lt hN rfl) (x_lt hN rfl) ac_RX0_88 hl.1 ⟨by decide, Nat.le_of_ble_eq_true rfl⟩ dX0_overwrite_11 (fun H locs M hw h => ?_)
  exact hret dX0_overwrite_14 hw h
def f_X0_overwrite_14_47 (M : x_M) : Option (Unit × x_M) := x_ac 100 100 M 47 (nI 0) 14 (nI 0) (if (nI 100) < (nI 100) then (nI 100) else (nI 100)) (fun M => some ((), M))
abbrev rm_X0_overwrite_14_47 : Room := { frames := 1, cells := 0, slots := 0, locals := 200 }
set_option maxHeartbeats 4000000 in
set_option maxRecDepth 100000 in
theorem c_X0_overwrite_14_47 {l : Launch} {D : va_G} {cy : Nat → ClassId} {q ad : Nat → Nat} {NC : Nat} {s0 : State} (hq : x_Q q NC s0.heap.size) (hN : 88 ≤ NC) {M : x_M} {z : Unit × x_M} (h : f_X0_overwrite_14_47 M = some z) : x_Cv l D cy q ad x_spX NC s0 yX0_overwrite (x_uw yX0_overwrite cX0_overwrite 2 none) rm_X0_overwrite_14_47 [.ref (q 14), .ref (q 47)] M z.2 := by
  refine x_metv hq (by decide) (Nat.le_of_ble_eq_true rfl) ?_
  intro p e s m args below meth c ls Q C hret hl hw
  have hx := C.1.1
  have hb := C.1.2.1
  have ho := C.1.2.2.2.1
  have hL := C.1.2.2.2.2
  have hl : lv_has ls 2 [(0, .ref (q 14)), (1, .ref (q 47))] := hl
  unfold f_X0_overwrite_14_47 at h
  refine lv_aload_n hx hb dX0_overwrite_0 rfl (lv_at hl 1 rfl) ?_
  refine lv_iconst (v := (nI 0)) hx hb dX0_overwrite_1 (by decide) ?_
  refine lv_aload_n hx hb dX0_overwrite_2 rfl (lv_at hl 0 rfl) ?_
  refine lv_iconst (v := (nI 0)) hx hb dX0_overwrite_3 (by decide) ?_
  refine lv_aload_n hx hb dX0_overwrite_4 rfl (lv_at hl 1 rfl) ?_
  refine va_alen hx hb C.2.1.1 hw.1 47 0 (by rw [x_w_get (x_lt hN rfl), sX_47]; rfl) rfl (v := nI 100) rfl dX0_overwrite_5 ?_
  refine lv_aload_n hx hb dX0_overwrite_6 rfl (lv_at hl 0 rfl) ?_
  refine va_alen hx hb C.2.1.1 hw.1 14 0 (by rw [x_w_get (x_lt hN rfl), sX_14]; rfl) rfl (v := nI 100) rfl dX0_overwrite_7 ?_
  refine xh_min C (rest := [_, _, _, _]) mw_RX0_82 hl.1 ⟨by decide, Nat.le_of_ble_eq_true rfl⟩ dX0_overwrite_8 ?_
  refine xh_copy C hw (rest := []) 47 14 100 100 h sX_47 sX_14 (x_lt hN rfl) (x_lt hN rfl) ac_RX0_88 hl.1 ⟨by decide, Nat.le_of_ble_eq_true rfl⟩ dX0_overwrite_11 (fun H locs M hw h => ?_)
  exact hret dX0_overwrite_14 hw h
def f_X0_overwrite_15_48 (M : x_M) : Option (Unit × x_M) := x_ac 100 100 M 48 (nI 0) 15 (nI 0) (if (nI 100) < (nI 100) then (nI 100) else (nI 100)) (fun M => some ((), M))
abbrev rm_X0_overwrite_15_48 : Room := { frames := 1, cells := 0, slots := 0, locals := 200 }
set_option maxHeartbeats 4000000 in
set_option maxRecDepth 100000 in
theorem c_X0_overwrite_15_48 {l : Launch} {D : va_G} {cy : Nat → ClassId} {q ad : Nat → Nat} {NC : Nat} {s0 : State} (hq : x_Q q NC s0.heap.size) (hN : 88 ≤ NC) {M : x_M} {z : Unit × x_M} (h : f_X0_overwrite_15_48 M = some z) : x_Cv l D cy q ad x_spX NC s0 yX0_overwrite (x_uw yX0_overwrite cX0_overwrite 2 none) rm_X0_overwrite_15_48 [.ref (q 15), .ref (q 48)] M z.2 := by
  refine x_metv hq (by decide) (Nat.le_of_ble_eq_true rfl) ?_
  intro p e s m args below meth c ls Q C hret hl hw
  have hx := C.1.1
  have hb := C.1.2.1
  have ho := C.1.2.2.2.1
  have hL := C.1.2.2.2.2
  have hl : lv_has ls 2 [(0, .ref (q 15)), (1, .ref (q 48))] := hl
  unfold f_X0_overwrite_15_48 at h
  refine lv_aload_n hx hb dX0_overwrite_0 rfl (lv_at hl 1 rfl) ?_
  refine lv_iconst (v := (nI 0)) hx hb dX0_overwrite_1 (by decide) ?_
  refine lv_aload_n hx hb dX0_overwrite_2 rfl (lv_at hl 0 rfl) ?_
  refine lv_iconst (v := (nI 0)) hx hb dX0_overwrite_3 (by decide) ?_
  refine lv_aload_n hx hb dX0_overwrite_4 rfl (lv_at hl 1 rfl) ?_
  refine va_alen hx hb C.2.1.1 hw.1 48 0 (by rw [x_w_get (x_lt hN rfl), sX_48]; rfl) rfl (v := nI 100) rfl dX0_overwrite_5 ?_
  refine lv_aload_n hx hb dX0_overwrite_6 rfl (lv_at hl 0 rfl) ?_
  refine va_alen hx hb C.2.1.1 hw.1 15 0 (by rw [x_w_get (x_lt hN rfl), sX_15]; rfl) rfl (v := nI 100) rfl dX0_overwrite_7 ?_
  refine xh_min C (rest := [_, _, _, _]) mw_RX0_82 hl.1 ⟨by decide, Nat.le_of_ble_eq_true rfl⟩ dX0_overwrite_8 ?_
  refine xh_copy C hw (rest := []) 48 15 100 100 h sX_48 sX_15 (x_lt hN rfl) (x_lt hN rfl) ac_RX0_88 hl.1 ⟨by decide, Nat.le_of_ble_eq_true rfl⟩ dX0_overwrite_11 (fun H locs M hw h => ?_)
  exact hret dX0_overwrite_14 hw h
def f_X3_become_6_39 (M : x_M) : Option (Unit × x_M) := x_bn (f_X0_overwrite_7_40 M) (fun _ M => x_bn (f_X0_overwrite_8_41 M) (fun _ M => x_bn (f_X0_overwrite_9_42 M) (fun _ M => x_bn (f_X0_overwrite_10_43 M) (fun _ M => x_bn (f_X0_overwrite_11_44 M) (fun _ M => x_bn (f_X0_overwrite_12_45 M) (fun _ M => x_bn (f_X0_overwrite_13_46 M) (fun _ M => x_bn (f_X0_overwrite_14_47 M) (fun _ M => x_bn (f_X0_overwrite_15_48 M) (fun _ M => x_gf M 39 9 (fun r101 => x_pf M 6 9 r101 (fun M => some ((), M))))))))))))
abbrev rm_X3_become_6_39 : Room := { frames := 2, cells := 0, slots := 0, locals := 221 }
set_option maxHeartbeats 4000000 in
set_option maxRecDepth 100000 in
theorem c_X3_become_6_39 {l : Launch} {D : va_G} {cy : Nat → ClassId} {q ad : Nat → Nat} {NC : Nat} {s0 : State} (hq : x_Q q NC s0.heap.size) (hN : 88 ≤ NC) {M : x_M} {z : Unit × x_M} (h : f_X3_become_6_39 M = some z) : x_Cv l D cy q ad x_spX NC s0 yX3_become (x_uw yX3_become cX3_become 2 none) rm_X3_become_6_39 [.ref (q 6), .ref (q 39)] M z.2 := by
  refine x_metv hq (by decide) (Nat.le_of_ble_eq_true rfl) ?_
  intro p e s m args below meth c ls Q C hret hl hw
  have hx := C.1.1
  have hb := C.1.2.1
  have ho := C.1.2.2.2.1
  have hL := C.1.2.2.2.2
  have hl : lv_has ls 2 [(0, .ref (q 6)), (1, .ref (q 39))] := hl
  unfold f_X3_become_6_39 at h
  refine lv_aload_n hx hb dX3_become_0 rfl (lv_at hl 0 rfl) ?_
  refine xh_getr C hw 6 0 sX_6 (x_lt hN rfl) rfl rfl rfl lk_RX3_9 dX3_become_1 ?_
  refine lv_aload_n hx hb dX3_become_4 rfl (lv_at hl 1 rfl) ?_
  refine xh_getr C hw 39 0 sX_39 (x_lt hN rfl) rfl rfl rfl lk_RX3_9 dX3_become_5 ?_
  refine xh_cSv C hw (rest := []) h (fun _ hy => c_X0_overwrite_7_40 hq hN hy) ml_RX3_49 st_X0_overwrite ⟨rfl, rfl, by decide, by decide⟩ rfl hl.1 rfl (Nat.le_of_ble_eq_true rfl) dX3_become_8 (fun H locs _ M hw h => ?_)
  refine lv_aload_n hx hb dX3_become_11 rfl (lv_at hl 0 rfl) ?_
  refine xh_getr C hw 6 1 sX_6 (x_lt hN rfl) rfl rfl rfl lk_RX3_15 dX3_become_12 ?_
  refine lv_aload_n hx hb dX3_become_15 rfl (lv_at hl 1 rfl) ?_
  refine xh_getr C hw 39 1 sX_39 (x_lt hN rfl) rfl rfl rfl lk_RX3_15 dX3_become_16 ?_
  refine xh_cSv C hw (rest := []) h (fun _ hy => c_X0_overwrite_8_41 hq hN hy) ml_RX3_49 st_X0_overwrite ⟨rfl, rfl, by decide, by decide⟩ rfl hl.1 rfl (Nat.le_of_ble_eq_true rfl) dX3_become_19 (fun H locs _ M hw h => ?_)
  refine lv_aload_n hx hb dX3_become_22 rfl (lv_at hl 0 rfl) ?_
  refine xh_getr C hw 6 2 sX_6 (x_lt hN rfl) rfl rfl rfl lk_RX3_18 dX3_become_23 ?_
  refine lv_aload_n hx hb dX3_become_26 rfl (lv_at hl 1 rfl) ?_
  refine xh_getr C hw 39 2 sX_39 (x_lt hN rfl) rfl rfl rfl lk_RX3_18 dX3_become_27 ?_
  refine xh_cSv C hw (rest := []) h (fun _ hy => c_X0_overwrite_9_42 hq hN hy) ml_RX3_49 st_X0_overwrite ⟨rfl, rfl, by decide, by decide⟩ rfl hl.1 rfl (Nat.le_of_ble_eq_true rfl) dX3_become_30 (fun H locs _ M hw h => ?_)
  refine lv_aload_n hx hb dX3_become_33 rfl (lv_at hl 0 rfl) ?_
  refine xh_getr C hw 6 3 sX_6 (x_lt hN rfl) rfl rfl rfl lk_RX3_21 dX3_become_34 ?_
  refine lv_aload_n hx hb dX3_become_37 rfl (lv_at hl 1 rfl) ?_
  refine xh_getr C hw 39 3 sX_39 (x_lt hN rfl) rfl rfl rfl lk_RX3_21 dX3_become_38 ?_
  refine xh_cSv C hw (rest := []) h (fun _ hy => c_X0_overwrite_10_43 hq hN hy) ml_RX3_49 st_X0_overwrite ⟨rfl, rfl, by decide, by decide⟩ rfl hl.1 rfl (Nat.le_of_ble_eq_true rfl) dX3_become_41 (fun H locs _ M hw h => ?_)
  refine lv_aload_n hx hb dX3_become_44 rfl (lv_at hl 0 rfl) ?_
  refine xh_getr C hw 6 4 sX_6 (x_lt hN rfl) rfl rfl rfl lk_RX3_24 dX3_become_45 ?_
  refine lv_aload_n hx hb dX3_become_48 rfl (lv_at hl 1 rfl) ?_
  refine xh_getr C hw 39 4 sX_39 (x_lt hN rfl) rfl rfl rfl lk_RX3_24 dX3_become_49 ?_
  refine xh_cSv C hw (rest := []) h (fun _ hy => c_X0_overwrite_11_44 hq hN hy) ml_RX3_49 st_X0_overwrite ⟨rfl, rfl, by decide, by decide⟩ rfl hl.1 rfl (Nat.le_of_ble_eq_true rfl) dX3_become_52 (fun H locs _ M hw h => ?_)
  refine lv_aload_n hx hb dX3_become_55 rfl (lv_at hl 0 rfl) ?_
  refine xh_getr C hw 6 5 sX_6 (x_lt hN rfl) rfl rfl rfl lk_RX3_27 dX3_become_56 ?_
  refine lv_aload_n hx hb dX3_become_59 rfl (lv_at hl 1 rfl) ?_
  refine xh_getr C hw 39 5 sX_39 (x_lt hN rfl) rfl rfl rfl lk_RX3_27 dX3_become_60 ?_
  refine xh_cSv C hw (rest := []) h (fun _ hy => c_X0_overwrite_12_45 hq hN hy) ml_RX3_49 st_X0_overwrite ⟨rfl, rfl, by decide, by decide⟩ rfl hl.1 rfl (Nat.le_of_ble_eq_true rfl) dX3_become_63 (fun H locs _ M hw h => ?_)
  refine lv_aload_n hx hb dX3_become_66 rfl (lv_at hl 0 rfl) ?_
  refine xh_getr C hw 6 6 sX_6 (x_lt hN rfl) rfl rfl rfl lk_RX3_30 dX3_become_67 ?_
  refine lv_aload_n hx hb dX3_become_70 rfl (lv_at hl 1 rfl) ?_
  refine xh_getr C hw 39 6 sX_39 (x_lt hN rfl) rfl rfl rfl lk_RX3_30 dX3_become_71 ?_
  refine xh_cSv C hw (rest := []) h (fun _ hy => c_X0_overwrite_13_46 hq hN hy) ml_RX3_49 st_X0_overwrite ⟨rfl, rfl, by decide, by decide⟩ rfl hl.1 rfl (Nat.le_of_ble_eq_true rfl) dX3_become_74 (fun H locs _ M hw h => ?_)
  refine lv_aload_n hx hb dX3_become_77 rfl (lv_at hl 0 rfl) ?_
  refine xh_getr C hw 6 7 sX_6 (x_lt hN rfl) rfl rfl rfl lk_RX3_33 dX3_become_78 ?_
  refine lv_aload_n hx hb dX3_become_81 rfl (lv_at hl 1 rfl) ?_
  refine xh_getr C hw 39 7 sX_39 (x_lt hN rfl) rfl rfl rfl lk_RX3_33 dX3_become_82 ?_
  refine xh_cSv C hw (rest := []) h (fun _ hy => c_X0_overwrite_14_47 hq hN hy) ml_RX3_49 st_X0_overwrite ⟨rfl, rfl, by decide, by decide⟩ rfl hl.1 rfl (Nat.le_of_ble_eq_true rfl) dX3_become_85 (fun H locs _ M hw h => ?_)
  refine lv_aload_n hx hb dX3_become_88 rfl (lv_at hl 0 rfl) ?_
  refine xh_getr C hw 6 8 sX_6 (x_lt hN rfl) rfl rfl rfl lk_RX3_36 dX3_become_89 ?_
  refine lv_aload_n hx hb dX3_become_92 rfl (lv_at hl 1 rfl) ?_
  refine xh_getr C hw 39 8 sX_39 (x_lt hN rfl) rfl rfl rfl lk_RX3_36 dX3_become_93 ?_
  refine xh_cSv C hw (rest := []) h (fun _ hy => c_X0_overwrite_15_48 hq hN hy) ml_RX3_49 st_X0_overwrite ⟨rfl, rfl, by decide, by decide⟩ rfl hl.1 rfl (Nat.le_of_ble_eq_true rfl) dX3_become_96 (fun H locs _ M hw h => ?_)
  refine lv_aload_n hx hb dX3_become_99 rfl (lv_at hl 0 rfl) ?_
  refine lv_aload_n hx hb dX3_become_100 rfl (lv_at hl 1 rfl) ?_
  refine xh_geti C hw 39 9 h sX_39 (x_lt hN rfl) rfl rfl rfl lk_RX3_39 dX3_become_101 (fun r101 h => ?_)
  refine xh_puti C hw 6 9 h sX_6 (x_lt hN rfl) rfl rfl rfl lk_RX3_39 rfl rfl dX3_become_104 (fun H locs M hw h => ?_)
  exact hret dX3_become_107 hw h
def f_X9_become_16_49_2 (NC : Nat) : Nat → x_M → Int32 → Option (Unit × x_M)
  | 0, _, _ => none
  | n + 1, M, v2 => if (nI 4) ≤ v2 then x_gf M 49 2 (fun r27 => x_pf M 16 2 r27 (fun M => some ((), M))) else x_rd 4 (M 50) v2 (fun r17 => if r17 = 0 then x_wr 4 M 17 v2 0 (fun M => (f_X9_become_16_49_2 NC n) M (v2 + (nI 1))) else x_tk NC r17 (x_wr 4 M 17 v2 r17 (fun M => (f_X9_become_16_49_2 NC n) M (v2 + (nI 1)))))
theorem f_X9_become_16_49_2_0 (NC : Nat) (M : x_M) (v2 : Int32) : f_X9_become_16_49_2 NC 0 M v2 = none := rfl
theorem f_X9_become_16_49_2_s (NC : Nat) (n : Nat) (M : x_M) (v2 : Int32) : f_X9_become_16_49_2 NC (n + 1) M v2 = (if (nI 4) ≤ v2 then x_gf M 49 2 (fun r27 => x_pf M 16 2 r27 (fun M => some ((), M))) else x_rd 4 (M 50) v2 (fun r17 => if r17 = 0 then x_wr 4 M 17 v2 0 (fun M => (f_X9_become_16_49_2 NC n) M (v2 + (nI 1))) else x_tk NC r17 (x_wr 4 M 17 v2 r17 (fun M => (f_X9_become_16_49_2 NC n) M (v2 + (nI 1)))))) := rfl
def f_X9_become_16_49 (NC : Nat) (M : x_M) : Option (Unit × x_M) := f_X9_become_16_49_2 NC x_FU M (nI 0)
abbrev rm_X9_become_16_49 : Room := { frames := 0, cells := 0, slots := 0, locals := 0 }
set_option maxHeartbeats 4000000 in
set_option maxRecDepth 100000 in
theorem c_X9_become_16_49 {l : Launch} {D : va_G} {cy : Nat → ClassId} {q ad : Nat → Nat} {NC : Nat} {s0 : State} (hq : x_Q q NC s0.heap.size) (hN : 88 ≤ NC) {M : x_M} {z : Unit × x_M} (h : f_X9_become_16_49 NC M = some z) : x_Cv l D cy q ad x_spX NC s0 yX9_become (x_uw yX9_become cX9_become 3 none) rm_X9_become_16_49 [.ref (q 16), .ref (q 49)] M z.2 := by
  refine x_metv hq (by decide) (Nat.le_of_ble_eq_true rfl) ?_
  intro p e s m args below meth c ls Q C hret hl hw
  have hx := C.1.1
  have hb := C.1.2.1
  have ho := C.1.2.2.2.1
  have hL := C.1.2.2.2.2
  have hl : lv_has ls 3 [(0, .ref (q 16)), (1, .ref (q 49))] := hl
  have w2 : ∀ (n : Nat) (M : x_M) (v2 : Int32) (H : Heap) (locs : List Loc) (ls : Array Slot), x_B D cy q ad x_spX NC s H locs M → lv_has ls 3 [(0, .ref (q 16)), (1, .ref (q 49)), (2, .int v2)] → f_X9_become_16_49_2 NC n M v2 = some z → W p l e rm_X9_become_16_49 s m args below meth c H locs 0 0 Q (F0 m 2 ls []) := by
    intro n
    induction n with
    | zero =>
      intro M v2 H locs ls hw hl h
      rw [f_X9_become_16_49_2_0] at h
      cases h
    | succ n2 ih2 =>
      intro M v2 H locs ls hw hl h
      rw [f_X9_become_16_49_2_s] at h
      refine lv_iload_n hx hb dX9_become_2 rfl (lv_at hl 2 rfl) ?_
      refine lv_iconst (v := (nI 4)) hx hb dX9_become_3 (by decide) ?_
      refine x_icmp_ge (tgt := 25) hx hb h dX9_become_4 (by decide) (fun h => ?_) (fun h => ?_)
      · refine lv_aload_n hx hb dX9_become_25 rfl (lv_at hl 0 rfl) ?_
        refine lv_aload_n hx hb dX9_become_26 rfl (lv_at hl 1 rfl) ?_
        refine xh_geti C hw 49 2 h sX_49 (x_lt hN rfl) rfl rfl rfl lk_RX9_24 dX9_become_27 (fun r27 h => ?_)
        refine xh_puti C hw 16 2 h sX_16 (x_lt hN rfl) rfl rfl rfl lk_RX9_24 rfl rfl dX9_become_30 (fun H locs M hw h => ?_)
        exact hret dX9_become_33 hw h
      · refine lv_aload_n hx hb dX9_become_7 rfl (lv_at hl 0 rfl) ?_
        refine xh_getr C hw 16 0 sX_16 (x_lt hN rfl) rfl rfl rfl lk_RX9_11 dX9_become_8 ?_
        refine lv_iload_n hx hb dX9_become_11 rfl (lv_at hl 2 rfl) ?_
        refine lv_aload_n hx hb dX9_become_12 rfl (lv_at hl 1 rfl) ?_
        refine xh_getr C hw 49 0 sX_49 (x_lt hN rfl) rfl rfl rfl lk_RX9_11 dX9_become_13 ?_
        refine lv_iload_n hx hb dX9_become_16 rfl (lv_at hl 2 rfl) ?_
        refine xh_tald2 C hw 50 4 h sX_50 (x_lt hN rfl) dX9_become_17 (fun r17 h => ?_) (fun r17 h => ?_)
        · refine xh_tastN C hw 17 4 h sX_17 (x_lt hN rfl) dX9_become_18 (fun H locs M hw h => ?_)
          refine lv_iinc (lv' := [(2, .int _), (0, .ref (q 16)), (1, .ref (q 49))]) hx hb dX9_become_19 hl (k := 2) rfl (x_inc (show Int32.ofInt 1 = (nI 1) by decide) _) (by decide) rfl (fun ls hl => ?_)
          refine lv_goto (tgt := 2) hx hb dX9_become_22 (by decide) ?_
          exact ih2 _ _ _ _ _ hw (lv_sub hl [1, 2, 0] rfl) h
        · refine xh_tast C hw 17 4 h sX_17 (x_lt hN rfl) dX9_become_18 (fun H locs M hw h => ?_)
          refine lv_iinc (lv' := [(2, .int _), (0, .ref (q 16)), (1, .ref (q 49))]) hx hb dX9_become_19 hl (k := 2) rfl (x_inc (show Int32.ofInt 1 = (nI 1) by decide) _) (by decide) rfl (fun ls hl => ?_)
          refine lv_goto (tgt := 2) hx hb dX9_become_22 (by decide) ?_
          exact ih2 _ _ _ _ _ hw (lv_sub hl [1, 2, 0] rfl) h
  unfold f_X9_become_16_49 at h
  refine lv_iconst (v := (nI 0)) hx hb dX9_become_0 (by decide) ?_
  refine lv_istore_n (lv' := [(2, .int _), (0, .ref (q 16)), (1, .ref (q 49))]) hx hb dX9_become_1 rfl hl (by decide) rfl (fun ls hl => ?_)
  exact w2 _ _ _ _ _ _ hw (lv_sub hl [1, 2, 0] rfl) h
def f_X0_overwrite_19_52 (M : x_M) : Option (Unit × x_M) := x_ac 8 8 M 52 (nI 0) 19 (nI 0) (if (nI 8) < (nI 8) then (nI 8) else (nI 8)) (fun M => some ((), M))
abbrev rm_X0_overwrite_19_52 : Room := { frames := 1, cells := 0, slots := 0, locals := 200 }
set_option maxHeartbeats 4000000 in
set_option maxRecDepth 100000 in
theorem c_X0_overwrite_19_52 {l : Launch} {D : va_G} {cy : Nat → ClassId} {q ad : Nat → Nat} {NC : Nat} {s0 : State} (hq : x_Q q NC s0.heap.size) (hN : 88 ≤ NC) {M : x_M} {z : Unit × x_M} (h : f_X0_overwrite_19_52 M = some z) : x_Cv l D cy q ad x_spX NC s0 yX0_overwrite (x_uw yX0_overwrite cX0_overwrite 2 none) rm_X0_overwrite_19_52 [.ref (q 19), .ref (q 52)] M z.2 := by
  refine x_metv hq (by decide) (Nat.le_of_ble_eq_true rfl) ?_
  intro p e s m args below meth c ls Q C hret hl hw
  have hx := C.1.1
  have hb := C.1.2.1
  have ho := C.1.2.2.2.1
  have hL := C.1.2.2.2.2
  have hl : lv_has ls 2 [(0, .ref (q 19)), (1, .ref (q 52))] := hl
  unfold f_X0_overwrite_19_52 at h
  refine lv_aload_n hx hb dX0_overwrite_0 rfl (lv_at hl 1 rfl) ?_
  refine lv_iconst (v := (nI 0)) hx hb dX0_overwrite_1 (by decide) ?_
  refine lv_aload_n hx hb dX0_overwrite_2 rfl (lv_at hl 0 rfl) ?_
  refine lv_iconst (v := (nI 0)) hx hb dX0_overwrite_3 (by decide) ?_
  refine lv_aload_n hx hb dX0_overwrite_4 rfl (lv_at hl 1 rfl) ?_
  refine va_alen hx hb C.2.1.1 hw.1 52 0 (by rw [x_w_get (x_lt hN rfl), sX_52]; rfl) rfl (v := nI 8) rfl dX0_overwrite_5 ?_
  refine lv_aload_n hx hb dX0_overwrite_6 rfl (lv_at hl 0 rfl) ?_
  refine va_alen hx hb C.2.1.1 hw.1 19 0 (by rw [x_w_get (x_lt hN rfl), sX_19]; rfl) rfl (v := nI 8) rfl dX0_overwrite_7 ?_
  refine xh_min C (rest := [_, _, _, _]) mw_RX0_82 hl.1 ⟨by decide, Nat.le_of_ble_eq_true rfl⟩ dX0_overwrite_8 ?_
  refine xh_copy C hw (rest := []) 52 19 8 8 h sX_52 sX_19 (x_lt hN rfl) (x_lt hN rfl) ac_RX0_88 hl.1 ⟨by decide, Nat.le_of_ble_eq_true rfl⟩ dX0_overwrite_11 (fun H locs M hw h => ?_)
  exact hret dX0_overwrite_14 hw h
def f_X0_overwrite_20_53 (M : x_M) : Option (Unit × x_M) := x_ac 8 8 M 53 (nI 0) 20 (nI 0) (if (nI 8) < (nI 8) then (nI 8) else (nI 8)) (fun M => some ((), M))
abbrev rm_X0_overwrite_20_53 : Room := { frames := 1, cells := 0, slots := 0, locals := 200 }
set_option maxHeartbeats 4000000 in
set_option maxRecDepth 100000 in
theorem c_X0_overwrite_20_53 {l : Launch} {D : va_G} {cy : Nat → ClassId} {q ad : Nat → Nat} {NC : Nat} {s0 : State} (hq : x_Q q NC s0.heap.size) (hN : 88 ≤ NC) {M : x_M} {z : Unit × x_M} (h : f_X0_overwrite_20_53 M = some z) : x_Cv l D cy q ad x_spX NC s0 yX0_overwrite (x_uw yX0_overwrite cX0_overwrite 2 none) rm_X0_overwrite_20_53 [.ref (q 20), .ref (q 53)] M z.2 := by
  refine x_metv hq (by decide) (Nat.le_of_ble_eq_true rfl) ?_
  intro p e s m args below meth c ls Q C hret hl hw
  have hx := C.1.1
  have hb := C.1.2.1
  have ho := C.1.2.2.2.1
  have hL := C.1.2.2.2.2
  have hl : lv_has ls 2 [(0, .ref (q 20)), (1, .ref (q 53))] := hl
  unfold f_X0_overwrite_20_53 at h
  refine lv_aload_n hx hb dX0_overwrite_0 rfl (lv_at hl 1 rfl) ?_
  refine lv_iconst (v := (nI 0)) hx hb dX0_overwrite_1 (by decide) ?_
  refine lv_aload_n hx hb dX0_overwrite_2 rfl (lv_at hl 0 rfl) ?_
  refine lv_iconst (v := (nI 0)) hx hb dX0_overwrite_3 (by decide) ?_
  refine lv_aload_n hx hb dX0_overwrite_4 rfl (lv_at hl 1 rfl) ?_
  refine va_alen hx hb C.2.1.1 hw.1 53 0 (by rw [x_w_get (x_lt hN rfl), sX_53]; rfl) rfl (v := nI 8) rfl dX0_overwrite_5 ?_
  refine lv_aload_n hx hb dX0_overwrite_6 rfl (lv_at hl 0 rfl) ?_
  refine va_alen hx hb C.2.1.1 hw.1 20 0 (by rw [x_w_get (x_lt hN rfl), sX_20]; rfl) rfl (v := nI 8) rfl dX0_overwrite_7 ?_
  refine xh_min C (rest := [_, _, _, _]) mw_RX0_82 hl.1 ⟨by decide, Nat.le_of_ble_eq_true rfl⟩ dX0_overwrite_8 ?_
  refine xh_copy C hw (rest := []) 53 20 8 8 h sX_53 sX_20 (x_lt hN rfl) (x_lt hN rfl) ac_RX0_88 hl.1 ⟨by decide, Nat.le_of_ble_eq_true rfl⟩ dX0_overwrite_11 (fun H locs M hw h => ?_)
  exact hret dX0_overwrite_14 hw h
def f_X0_overwrite_21_54 (M : x_M) : Option (Unit × x_M) := x_ac 8 8 M 54 (nI 0) 21 (nI 0) (if (nI 8) < (nI 8) then (nI 8) else (nI 8)) (fun M => some ((), M))
abbrev rm_X0_overwrite_21_54 : Room := { frames := 1, cells := 0, slots := 0, locals := 200 }
set_option maxHeartbeats 4000000 in
set_option maxRecDepth 100000 in
theorem c_X0_overwrite_21_54 {l : Launch} {D : va_G} {cy : Nat → ClassId} {q ad : Nat → Nat} {NC : Nat} {s0 : State} (hq : x_Q q NC s0.heap.size) (hN : 88 ≤ NC) {M : x_M} {z : Unit × x_M} (h : f_X0_overwrite_21_54 M = some z) : x_Cv l D cy q ad x_spX NC s0 yX0_overwrite (x_uw yX0_overwrite cX0_overwrite 2 none) rm_X0_overwrite_21_54 [.ref (q 21), .ref (q 54)] M z.2 := by
  refine x_metv hq (by decide) (Nat.le_of_ble_eq_true rfl) ?_
  intro p e s m args below meth c ls Q C hret hl hw
  have hx := C.1.1
  have hb := C.1.2.1
  have ho := C.1.2.2.2.1
  have hL := C.1.2.2.2.2
  have hl : lv_has ls 2 [(0, .ref (q 21)), (1, .ref (q 54))] := hl
  unfold f_X0_overwrite_21_54 at h
  refine lv_aload_n hx hb dX0_overwrite_0 rfl (lv_at hl 1 rfl) ?_
  refine lv_iconst (v := (nI 0)) hx hb dX0_overwrite_1 (by decide) ?_
  refine lv_aload_n hx hb dX0_overwrite_2 rfl (lv_at hl 0 rfl) ?_
  refine lv_iconst (v := (nI 0)) hx hb dX0_overwrite_3 (by decide) ?_
  refine lv_aload_n hx hb dX0_overwrite_4 rfl (lv_at hl 1 rfl) ?_
  refine va_alen hx hb C.2.1.1 hw.1 54 0 (by rw [x_w_get (x_lt hN rfl), sX_54]; rfl) rfl (v := nI 8) rfl dX0_overwrite_5 ?_
  refine lv_aload_n hx hb dX0_overwrite_6 rfl (lv_at hl 0 rfl) ?_
  refine va_alen hx hb C.2.1.1 hw.1 21 0 (by rw [x_w_get (x_lt hN rfl), sX_21]; rfl) rfl (v := nI 8) rfl dX0_overwrite_7 ?_
  refine xh_min C (rest := [_, _, _, _]) mw_RX0_82 hl.1 ⟨by decide, Nat.le_of_ble_eq_true rfl⟩ dX0_overwrite_8 ?_
  refine xh_copy C hw (rest := []) 54 21 8 8 h sX_54 sX_21 (x_lt hN rfl) (x_lt hN rfl) ac_RX0_88 hl.1 ⟨by decide, Nat.le_of_ble_eq_true rfl⟩ dX0_overwrite_11 (fun H locs M hw h => ?_)
  exact hret dX0_overwrite_14 hw h
def f_X0_overwrite_22_55 (M : x_M) : Option (Unit × x_M) := x_ac 8 8 M 55 (nI 0) 22 (nI 0) (if (nI 8) < (nI 8) then (nI 8) else (nI 8)) (fun M => some ((), M))
abbrev rm_X0_overwrite_22_55 : Room := { frames := 1, cells := 0, slots := 0, locals := 200 }
set_option maxHeartbeats 4000000 in
set_option maxRecDepth 100000 in
theorem c_X0_overwrite_22_55 {l : Launch} {D : va_G} {cy : Nat → ClassId} {q ad : Nat → Nat} {NC : Nat} {s0 : State} (hq : x_Q q NC s0.heap.size) (hN : 88 ≤ NC) {M : x_M} {z : Unit × x_M} (h : f_X0_overwrite_22_55 M = some z) : x_Cv l D cy q ad x_spX NC s0 yX0_overwrite (x_uw yX0_overwrite cX0_overwrite 2 none) rm_X0_overwrite_22_55 [.ref (q 22), .ref (q 55)] M z.2 := by
  refine x_metv hq (by decide) (Nat.le_of_ble_eq_true rfl) ?_
  intro p e s m args below meth c ls Q C hret hl hw
  have hx := C.1.1
  have hb := C.1.2.1
  have ho := C.1.2.2.2.1
  have hL := C.1.2.2.2.2
  have hl : lv_has ls 2 [(0, .ref (q 22)), (1, .ref (q 55))] := hl
  unfold f_X0_overwrite_22_55 at h
  refine lv_aload_n hx hb dX0_overwrite_0 rfl (lv_at hl 1 rfl) ?_
  refine lv_iconst (v := (nI 0)) hx hb dX0_overwrite_1 (by decide) ?_
  refine lv_aload_n hx hb dX0_overwrite_2 rfl (lv_at hl 0 rfl) ?_
  refine lv_iconst (v := (nI 0)) hx hb dX0_overwrite_3 (by decide) ?_
  refine lv_aload_n hx hb dX0_overwrite_4 rfl (lv_at hl 1 rfl) ?_
  refine va_alen hx hb C.2.1.1 hw.1 55 0 (by rw [x_w_get (x_lt hN rfl), sX_55]; rfl) rfl (v := nI 8) rfl dX0_overwrite_5 ?_
  refine lv_aload_n hx hb dX0_overwrite_6 rfl (lv_at hl 0 rfl) ?_
  refine va_alen hx hb C.2.1.1 hw.1 22 0 (by rw [x_w_get (x_lt hN rfl), sX_22]; rfl) rfl (v := nI 8) rfl dX0_overwrite_7 ?_
  refine xh_min C (rest := [_, _, _, _]) mw_RX0_82 hl.1 ⟨by decide, Nat.le_of_ble_eq_true rfl⟩ dX0_overwrite_8 ?_
  refine xh_copy C hw (rest := []) 55 22 8 8 h sX_55 sX_22 (x_lt hN rfl) (x_lt hN rfl) ac_RX0_88 hl.1 ⟨by decide, Nat.le_of_ble_eq_true rfl⟩ dX0_overwrite_11 (fun H locs M hw h => ?_)
  exact hret dX0_overwrite_14 hw h
def f_X0_overwrite_23_56 (M : x_M) : Option (Unit × x_M) := x_ac 30 30 M 56 (nI 0) 23 (nI 0) (if (nI 30) < (nI 30) then (nI 30) else (nI 30)) (fun M => some ((), M))
abbrev rm_X0_overwrite_23_56 : Room := { frames := 1, cells := 0, slots := 0, locals := 200 }
set_option maxHeartbeats 4000000 in
set_option maxRecDepth 100000 in
theorem c_X0_overwrite_23_56 {l : Launch} {D : va_G} {cy : Nat → ClassId} {q ad : Nat → Nat} {NC : Nat} {s0 : State} (hq : x_Q q NC s0.heap.size) (hN : 88 ≤ NC) {M : x_M} {z : Unit × x_M} (h : f_X0_overwrite_23_56 M = some z) : x_Cv l D cy q ad x_spX NC s0 yX0_overwrite (x_uw yX0_overwrite cX0_overwrite 2 none) rm_X0_overwrite_23_56 [.ref (q 23), .ref (q 56)] M z.2 := by
  refine x_metv hq (by decide) (Nat.le_of_ble_eq_true rfl) ?_
  intro p e s m args below meth c ls Q C hret hl hw
  have hx := C.1.1
  have hb := C.1.2.1
  have ho := C.1.2.2.2.1
  have hL := C.1.2.2.2.2
  have hl : lv_has ls 2 [(0, .ref (q 23)), (1, .ref (q 56))] := hl
  unfold f_X0_overwrite_23_56 at h
  refine lv_aload_n hx hb dX0_overwrite_0 rfl (lv_at hl 1 rfl) ?_
  refine lv_iconst (v := (nI 0)) hx hb dX0_overwrite_1 (by decide) ?_
  refine lv_aload_n hx hb dX0_overwrite_2 rfl (lv_at hl 0 rfl) ?_
  refine lv_iconst (v := (nI 0)) hx hb dX0_overwrite_3 (by decide) ?_
  refine lv_aload_n hx hb dX0_overwrite_4 rfl (lv_at hl 1 rfl) ?_
  refine va_alen hx hb C.2.1.1 hw.1 56 0 (by rw [x_w_get (x_lt hN rfl), sX_56]; rfl) rfl (v := nI 30) rfl dX0_overwrite_5 ?_
  refine lv_aload_n hx hb dX0_overwrite_6 rfl (lv_at hl 0 rfl) ?_
  refine va_alen hx hb C.2.1.1 hw.1 23 0 (by rw [x_w_get (x_lt hN rfl), sX_23]; rfl) rfl (v := nI 30) rfl dX0_overwrite_7 ?_
  refine xh_min C (rest := [_, _, _, _]) mw_RX0_82 hl.1 ⟨by decide, Nat.le_of_ble_eq_true rfl⟩ dX0_overwrite_8 ?_
  refine xh_copy C hw (rest := []) 56 23 30 30 h sX_56 sX_23 (x_lt hN rfl) (x_lt hN rfl) ac_RX0_88 hl.1 ⟨by decide, Nat.le_of_ble_eq_true rfl⟩ dX0_overwrite_11 (fun H locs M hw h => ?_)
  exact hret dX0_overwrite_14 hw h
def f_X0_overwrite_24_57 (M : x_M) : Option (Unit × x_M) := x_ac 30 30 M 57 (nI 0) 24 (nI 0) (if (nI 30) < (nI 30) then (nI 30) else (nI 30)) (fun M => some ((), M))
abbrev rm_X0_overwrite_24_57 : Room := { frames := 1, cells := 0, slots := 0, locals := 200 }
set_option maxHeartbeats 4000000 in
set_option maxRecDepth 100000 in
theorem c_X0_overwrite_24_57 {l : Launch} {D : va_G} {cy : Nat → ClassId} {q ad : Nat → Nat} {NC : Nat} {s0 : State} (hq : x_Q q NC s0.heap.size) (hN : 88 ≤ NC) {M : x_M} {z : Unit × x_M} (h : f_X0_overwrite_24_57 M = some z) : x_Cv l D cy q ad x_spX NC s0 yX0_overwrite (x_uw yX0_overwrite cX0_overwrite 2 none) rm_X0_overwrite_24_57 [.ref (q 24), .ref (q 57)] M z.2 := by
  refine x_metv hq (by decide) (Nat.le_of_ble_eq_true rfl) ?_
  intro p e s m args below meth c ls Q C hret hl hw
  have hx := C.1.1
  have hb := C.1.2.1
  have ho := C.1.2.2.2.1
  have hL := C.1.2.2.2.2
  have hl : lv_has ls 2 [(0, .ref (q 24)), (1, .ref (q 57))] := hl
  unfold f_X0_overwrite_24_57 at h
  refine lv_aload_n hx hb dX0_overwrite_0 rfl (lv_at hl 1 rfl) ?_
  refine lv_iconst (v := (nI 0)) hx hb dX0_overwrite_1 (by decide) ?_
  refine lv_aload_n hx hb dX0_overwrite_2 rfl (lv_at hl 0 rfl) ?_
  refine lv_iconst (v := (nI 0)) hx hb dX0_overwrite_3 (by decide) ?_
  refine lv_aload_n hx hb dX0_overwrite_4 rfl (lv_at hl 1 rfl) ?_
  refine va_alen hx hb C.2.1.1 hw.1 57 0 (by rw [x_w_get (x_lt hN rfl), sX_57]; rfl) rfl (v := nI 30) rfl dX0_overwrite_5 ?_
  refine lv_aload_n hx hb dX0_overwrite_6 rfl (lv_at hl 0 rfl) ?_
  refine va_alen hx hb C.2.1.1 hw.1 24 0 (by rw [x_w_get (x_lt hN rfl), sX_24]; rfl) rfl (v := nI 30) rfl dX0_overwrite_7 ?_
  refine xh_min C (rest := [_, _, _, _]) mw_RX0_82 hl.1 ⟨by decide, Nat.le_of_ble_eq_true rfl⟩ dX0_overwrite_8 ?_
  refine xh_copy C hw (rest := []) 57 24 30 30 h sX_57 sX_24 (x_lt hN rfl) (x_lt hN rfl) ac_RX0_88 hl.1 ⟨by decide, Nat.le_of_ble_eq_true rfl⟩ dX0_overwrite_11 (fun H locs M hw h => ?_)
  exact hret dX0_overwrite_14 hw h
def f_X0_overwrite_25_58 (M : x_M) : Option (Unit × x_M) := x_ac 30 30 M 58 (nI 0) 25 (nI 0) (if (nI 30) < (nI 30) then (nI 30) else (nI 30)) (fun M => some ((), M))
abbrev rm_X0_overwrite_25_58 : Room := { frames := 1, cells := 0, slots := 0, locals := 200 }
set_option maxHeartbeats 4000000 in
set_option maxRecDepth 100000 in
theorem c_X0_overwrite_25_58 {l : Launch} {D : va_G} {cy : Nat → ClassId} {q ad : Nat → Nat} {NC : Nat} {s0 : State} (hq : x_Q q NC s0.heap.size) (hN : 88 ≤ NC) {M : x_M} {z : Unit × x_M} (h : f_X0_overwrite_25_58 M = some z) : x_Cv l D cy q ad x_spX NC s0 yX0_overwrite (x_uw yX0_overwrite cX0_overwrite 2 none) rm_X0_overwrite_25_58 [.ref (q 25), .ref (q 58)] M z.2 := by
  refine x_metv hq (by decide) (Nat.le_of_ble_eq_true rfl) ?_
  intro p e s m args below meth c ls Q C hret hl hw
  have hx := C.1.1
  have hb := C.1.2.1
  have ho := C.1.2.2.2.1
  have hL := C.1.2.2.2.2
  have hl : lv_has ls 2 [(0, .ref (q 25)), (1, .ref (q 58))] := hl
  unfold f_X0_overwrite_25_58 at h
  refine lv_aload_n hx hb dX0_overwrite_0 rfl (lv_at hl 1 rfl) ?_
  refine lv_iconst (v := (nI 0)) hx hb dX0_overwrite_1 (by decide) ?_
  refine lv_aload_n hx hb dX0_overwrite_2 rfl (lv_at hl 0 rfl) ?_
  refine lv_iconst (v := (nI 0)) hx hb dX0_overwrite_3 (by decide) ?_
  refine lv_aload_n hx hb dX0_overwrite_4 rfl (lv_at hl 1 rfl) ?_
  refine va_alen hx hb C.2.1.1 hw.1 58 0 (by rw [x_w_get (x_lt hN rfl), sX_58]; rfl) rfl (v := nI 30) rfl dX0_overwrite_5 ?_
  refine lv_aload_n hx hb dX0_overwrite_6 rfl (lv_at hl 0 rfl) ?_
  refine va_alen hx hb C.2.1.1 hw.1 25 0 (by rw [x_w_get (x_lt hN rfl), sX_25]; rfl) rfl (v := nI 30) rfl dX0_overwrite_7 ?_
  refine xh_min C (rest := [_, _, _, _]) mw_RX0_82 hl.1 ⟨by decide, Nat.le_of_ble_eq_true rfl⟩ dX0_overwrite_8 ?_
  refine xh_copy C hw (rest := []) 58 25 30 30 h sX_58 sX_25 (x_lt hN rfl) (x_lt hN rfl) ac_RX0_88 hl.1 ⟨by decide, Nat.le_of_ble_eq_true rfl⟩ dX0_overwrite_11 (fun H locs M hw h => ?_)
  exact hret dX0_overwrite_14 hw h
def f_X0_overwrite_26_59 (M : x_M) : Option (Unit × x_M) := x_ac 30 30 M 59 (nI 0) 26 (nI 0) (if (nI 30) < (nI 30) then (nI 30) else (nI 30)) (fun M => some ((), M))
abbrev rm_X0_overwrite_26_59 : Room := { frames := 1, cells := 0, slots := 0, locals := 200 }
set_option maxHeartbeats 4000000 in
set_option maxRecDepth 100000 in
theorem c_X0_overwrite_26_59 {l : Launch} {D : va_G} {cy : Nat → ClassId} {q ad : Nat → Nat} {NC : Nat} {s0 : State} (hq : x_Q q NC s0.heap.size) (hN : 88 ≤ NC) {M : x_M} {z : Unit × x_M} (h : f_X0_overwrite_26_59 M = some z) : x_Cv l D cy q ad x_spX NC s0 yX0_overwrite (x_uw yX0_overwrite cX0_overwrite 2 none) rm_X0_overwrite_26_59 [.ref (q 26), .ref (q 59)] M z.2 := by
  refine x_metv hq (by decide) (Nat.le_of_ble_eq_true rfl) ?_
  intro p e s m args below meth c ls Q C hret hl hw
  have hx := C.1.1
  have hb := C.1.2.1
  have ho := C.1.2.2.2.1
  have hL := C.1.2.2.2.2
  have hl : lv_has ls 2 [(0, .ref (q 26)), (1, .ref (q 59))] := hl
  unfold f_X0_overwrite_26_59 at h
  refine lv_aload_n hx hb dX0_overwrite_0 rfl (lv_at hl 1 rfl) ?_
  refine lv_iconst (v := (nI 0)) hx hb dX0_overwrite_1 (by decide) ?_
  refine lv_aload_n hx hb dX0_overwrite_2 rfl (lv_at hl 0 rfl) ?_
  refine lv_iconst (v := (nI 0)) hx hb dX0_overwrite_3 (by decide) ?_
  refine lv_aload_n hx hb dX0_overwrite_4 rfl (lv_at hl 1 rfl) ?_
  refine va_alen hx hb C.2.1.1 hw.1 59 0 (by rw [x_w_get (x_lt hN rfl), sX_59]; rfl) rfl (v := nI 30) rfl dX0_overwrite_5 ?_
  refine lv_aload_n hx hb dX0_overwrite_6 rfl (lv_at hl 0 rfl) ?_
  refine va_alen hx hb C.2.1.1 hw.1 26 0 (by rw [x_w_get (x_lt hN rfl), sX_26]; rfl) rfl (v := nI 30) rfl dX0_overwrite_7 ?_
  refine xh_min C (rest := [_, _, _, _]) mw_RX0_82 hl.1 ⟨by decide, Nat.le_of_ble_eq_true rfl⟩ dX0_overwrite_8 ?_
  refine xh_copy C hw (rest := []) 59 26 30 30 h sX_59 sX_26 (x_lt hN rfl) (x_lt hN rfl) ac_RX0_88 hl.1 ⟨by decide, Nat.le_of_ble_eq_true rfl⟩ dX0_overwrite_11 (fun H locs M hw h => ?_)
  exact hret dX0_overwrite_14 hw h
