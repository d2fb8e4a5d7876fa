def f_X4_shares_31 (M : x_M) : Option (Int32 × x_M) := some ((nI 1), M)
def f_X4_shares_35 (M : x_M) : Option (Int32 × x_M) := some ((nI 0), M)
def f_X4_shares (M : x_M) (a1 : Int32) (a2 : Int32) : Option (Int32 × x_M) := if a1 = a2 then f_X4_shares_31 M else x_rd 10 (M 5) a1 (fun r10 => if r10 = (-1000000005) then f_X4_shares_35 M else x_rd 10 (M 5) a1 (fun r21 => x_rd 10 (M 5) a2 (fun r27 => if r21 = r27 then f_X4_shares_31 M else f_X4_shares_35 M)))
abbrev rm_X4_shares : Room := { frames := 0, cells := 0, slots := 0, locals := 0 }
set_option maxHeartbeats 4000000 in
set_option maxRecDepth 100000 in
theorem c_X4_shares {l : Launch} {D : va_G} {cy : Nat → ClassId} {q ad : Nat → Nat} {NC : Nat} {s0 : State} (hq : x_Q q NC s0.heap.size) (hN : 88 ≤ NC) {M : x_M} {a1 : Int32} {a2 : Int32} {z : Int32 × x_M} (h : f_X4_shares M a1 a2 = some z) : x_Ci l D cy q ad x_spX NC s0 yX4_shares (x_uw yX4_shares cX4_shares 3 (some .boolean)) rm_X4_shares [.ref (q 2), .int a1, .int a2] M z.1 z.2 := by
  refine x_meti hq (by decide) (Nat.le_of_ble_eq_true rfl) ?_
  intro p e s m args below meth c ls Q C hret hl hw
  have hx := C.1.1
  have hb := C.1.2.1
  have ho := C.1.2.2.2.1
  have hL := C.1.2.2.2.2
  have hl : lv_has ls 3 [(0, .ref (q 2)), (1, .int a1), (2, .int a2)] := hl
  have w31 : ∀ (M : x_M) (H : Heap) (locs : List Loc) (ls : Array Slot), x_B D cy q ad x_spX NC s H locs M → lv_has ls 3 [] → f_X4_shares_31 M = some z → W p l e rm_X4_shares s m args below meth c H locs 0 0 Q (F0 m 31 ls []) := by
    intro M H locs ls hw hl h
    unfold f_X4_shares_31 at h
    refine lv_iconst (v := (nI 1)) hx hb dX4_shares_31 (by decide) ?_
    refine lv_goto (tgt := 36) hx hb dX4_shares_32 (by decide) ?_
    exact hret dX4_shares_36 rfl hw h
  have w35 : ∀ (M : x_M) (H : Heap) (locs : List Loc) (ls : Array Slot), x_B D cy q ad x_spX NC s H locs M → lv_has ls 3 [] → f_X4_shares_35 M = some z → W p l e rm_X4_shares s m args below meth c H locs 0 0 Q (F0 m 35 ls []) := by
    intro M H locs ls hw hl h
    unfold f_X4_shares_35 at h
    refine lv_iconst (v := (nI 0)) hx hb dX4_shares_35 (by decide) ?_
    exact hret dX4_shares_36 rfl hw h
  unfold f_X4_shares at h
  refine lv_iload_n hx hb dX4_shares_0 rfl (lv_at hl 1 rfl) ?_
  refine lv_iload_n hx hb dX4_shares_1 rfl (lv_at hl 2 rfl) ?_
  refine x_icmp_eq (tgt := 31) hx hb h dX4_shares_2 (by decide) (fun h => ?_) (fun h => ?_)
  · exact w31 _ _ _ _ hw (lv_sub hl [] rfl) h
  · refine lv_aload_n hx hb dX4_shares_5 rfl (lv_at hl 0 rfl) ?_
    refine xh_getr C hw 2 2 sX_2 (x_lt hN rfl) rfl rfl rfl lk_RX4_18 dX4_shares_6 ?_
    refine lv_iload_n hx hb dX4_shares_9 rfl (lv_at hl 1 rfl) ?_
    refine xh_iald C hw 5 10 h sX_5 (x_lt hN rfl) dX4_shares_10 (fun r10 h => ?_)
    refine lv_ldc hx hb ho (hL _ kc_RX4_26) dX4_shares_11 ?_
    refine x_icmp_eq (tgt := 35) hx hb h dX4_shares_13 (by decide) (fun h => ?_) (fun h => ?_)
    · exact w35 _ _ _ _ hw (lv_sub hl [] rfl) h
    · refine lv_aload_n hx hb dX4_shares_16 rfl (lv_at hl 0 rfl) ?_
      refine xh_getr C hw 2 2 sX_2 (x_lt hN rfl) rfl rfl rfl lk_RX4_18 dX4_shares_17 ?_
      refine lv_iload_n hx hb dX4_shares_20 rfl (lv_at hl 1 rfl) ?_
      refine xh_iald C hw 5 10 h sX_5 (x_lt hN rfl) dX4_shares_21 (fun r21 h => ?_)
      refine lv_aload_n hx hb dX4_shares_22 rfl (lv_at hl 0 rfl) ?_
      refine xh_getr C hw 2 2 sX_2 (x_lt hN rfl) rfl rfl rfl lk_RX4_18 dX4_shares_23 ?_
      refine lv_iload_n hx hb dX4_shares_26 rfl (lv_at hl 2 rfl) ?_
      refine xh_iald C hw 5 10 h sX_5 (x_lt hN rfl) dX4_shares_27 (fun r27 h => ?_)
      refine x_icmp_ne (tgt := 35) hx hb h dX4_shares_28 (by decide) (fun h => ?_) (fun h => ?_)
      · exact w31 _ _ _ _ hw (lv_sub hl [] rfl) h
      · exact w35 _ _ _ _ hw (lv_sub hl [] rfl) h
def f_X2_isFor_67_2_30 (M : x_M) : Option (Int32 × x_M) := some ((nI 1), M)
def f_X2_isFor_67_2_34 (M : x_M) : Option (Int32 × x_M) := some ((nI 0), M)
def f_X2_isFor_67_2 (M : x_M) (a2 : Int32) (a3 : Int32) (a4 : Int32) : Option (Int32 × x_M) := x_rd 100 (M 70) a4 (fun r6 => if r6 = a2 then f_X2_isFor_67_2_30 M else if a3 = 0 then f_X2_isFor_67_2_34 M else x_rd 100 (M 70) a4 (fun r23 => x_bn (f_X4_shares M a2 r23) (fun r24 M => if r24 = 0 then f_X2_isFor_67_2_34 M else f_X2_isFor_67_2_30 M)))
abbrev rm_X2_isFor_67_2 : Room := { frames := 1, cells := 0, slots := 0, locals := 22 }
set_option maxHeartbeats 4000000 in
set_option maxRecDepth 100000 in
theorem c_X2_isFor_67_2 {l : Launch} {D : va_G} {cy : Nat → ClassId} {q ad : Nat → Nat} {NC : Nat} {s0 : State} (hq : x_Q q NC s0.heap.size) (hN : 88 ≤ NC) {M : x_M} {a2 : Int32} {a3 : Int32} {a4 : Int32} {z : Int32 × x_M} (h : f_X2_isFor_67_2 M a2 a3 a4 = some z) : x_Ci l D cy q ad x_spX NC s0 yX2_isFor (x_uw yX2_isFor cX2_isFor 5 (some .boolean)) rm_X2_isFor_67_2 [.ref (q 67), .ref (q 2), .int a2, .int a3, .int a4] M z.1 z.2 := by
  refine x_meti hq (by decide) (Nat.le_of_ble_eq_true rfl) ?_
  intro p e s m args below meth c ls Q C hret hl hw
  have hx := C.1.1
  have hb := C.1.2.1
  have ho := C.1.2.2.2.1
  have hL := C.1.2.2.2.2
  have hl : lv_has ls 5 [(0, .ref (q 67)), (1, .ref (q 2)), (2, .int a2), (3, .int a3), (4, .int a4)] := hl
  have w30 : ∀ (M : x_M) (H : Heap) (locs : List Loc) (ls : Array Slot), x_B D cy q ad x_spX NC s H locs M → lv_has ls 5 [] → f_X2_isFor_67_2_30 M = some z → W p l e rm_X2_isFor_67_2 s m args below meth c H locs 0 0 Q (F0 m 30 ls []) := by
    intro M H locs ls hw hl h
    unfold f_X2_isFor_67_2_30 at h
    refine lv_iconst (v := (nI 1)) hx hb dX2_isFor_30 (by decide) ?_
    refine lv_goto (tgt := 35) hx hb dX2_isFor_31 (by decide) ?_
    exact hret dX2_isFor_35 rfl hw h
  have w34 : ∀ (M : x_M) (H : Heap) (locs : List Loc) (ls : Array Slot), x_B D cy q ad x_spX NC s H locs M → lv_has ls 5 [] → f_X2_isFor_67_2_34 M = some z → W p l e rm_X2_isFor_67_2 s m args below meth c H locs 0 0 Q (F0 m 34 ls []) := by
    intro M H locs ls hw hl h
    unfold f_X2_isFor_67_2_34 at h
    refine lv_iconst (v := (nI 0)) hx hb dX2_isFor_34 (by decide) ?_
    exact hret dX2_isFor_35 rfl hw h
  unfold f_X2_isFor_67_2 at h
  refine lv_aload_n hx hb dX2_isFor_0 rfl (lv_at hl 0 rfl) ?_
  refine xh_getr C hw 67 1 sX_67 (x_lt hN rfl) rfl rfl rfl lk_RX2_18 dX2_isFor_1 ?_
  refine lv_iload hx hb dX2_isFor_4 (lv_at hl 4 rfl) ?_
  refine xh_iald C hw 70 100 h sX_70 (x_lt hN rfl) dX2_isFor_6 (fun r6 h => ?_)
  refine lv_iload_n hx hb dX2_isFor_7 rfl (lv_at hl 2 rfl) ?_
  refine x_icmp_eq (tgt := 30) hx hb h dX2_isFor_8 (by decide) (fun h => ?_) (fun h => ?_)
  · exact w30 _ _ _ _ hw (lv_sub hl [] rfl) h
  · refine lv_iload_n hx hb dX2_isFor_11 rfl (lv_at hl 3 rfl) ?_
    refine x_if_eq (tgt := 34) hx hb h dX2_isFor_12 (by decide) (fun h => ?_) (fun h => ?_)
    · exact w34 _ _ _ _ hw (lv_sub hl [] rfl) h
    · refine lv_aload_n hx hb dX2_isFor_15 rfl (lv_at hl 1 rfl) ?_
      refine lv_iload_n hx hb dX2_isFor_16 rfl (lv_at hl 2 rfl) ?_
      refine lv_aload_n hx hb dX2_isFor_17 rfl (lv_at hl 0 rfl) ?_
      refine xh_getr C hw 67 1 sX_67 (x_lt hN rfl) rfl rfl rfl lk_RX2_18 dX2_isFor_18 ?_
      refine lv_iload hx hb dX2_isFor_21 (lv_at hl 4 rfl) ?_
      refine xh_iald C hw 70 100 h sX_70 (x_lt hN rfl) dX2_isFor_23 (fun r23 h => ?_)
      refine xh_cVi C hw (rest := []) h (fun _ hy => c_X4_shares hq hN hy) ml_RX2_163 mv_X4_shares sX_2 (x_lt hN rfl) rfl ⟨rfl, rfl, by decide, by decide⟩ rfl hl.1 rfl (Nat.le_of_ble_eq_true rfl) dX2_isFor_24 (fun H locs r24 M hw h => ?_)
      refine x_if_eq (tgt := 34) hx hb h dX2_isFor_27 (by decide) (fun h => ?_) (fun h => ?_)
      · exact w34 _ _ _ _ hw (lv_sub hl [] rfl) h
      · exact w30 _ _ _ _ hw (lv_sub hl [] rfl) h
def f_X2_there_67_2_51 (k6 : x_M → Int32 → Int32 → Int32 → Int32 → Int32 → Option (Int32 × x_M)) (M : x_M) (v2 : Int32) (v3 : Int32) (v4 : Int32) (v5 : Int32) (v6 : Int32) : Option (Int32 × x_M) := k6 M v2 v3 v4 v5 (v6 + (nI 1))
def f_X2_there_67_2_6 : Nat → x_M → Int32 → Int32 → Int32 → Int32 → Int32 → Option (Int32 × x_M)
  | 0, _, _, _, _, _, _ => none
  | n + 1, M, v2, v3, v4, v5, v6 => x_gf M 67 9 (fun r9 => if r9 ≤ v6 then some (v5, M) else x_rd 100 (M 72) v6 (fun r21 => if r21 ≤ v4 then f_X2_there_67_2_51 (f_X2_there_67_2_6 n) M v2 v3 v4 v5 v6 else x_bn (f_X2_isFor_67_2 M v2 v3 v6) (fun r33 M => if r33 = 0 then f_X2_there_67_2_51 (f_X2_there_67_2_6 n) M v2 v3 v4 v5 v6 else x_rd 100 (M 71) v6 (fun r47 => f_X2_there_67_2_51 (f_X2_there_67_2_6 n) M v2 v3 v4 (v5 + r47) v6))))
theorem f_X2_there_67_2_6_0 (M : x_M) (v2 : Int32) (v3 : Int32) (v4 : Int32) (v5 : Int32) (v6 : Int32) : f_X2_there_67_2_6 0 M v2 v3 v4 v5 v6 = none := rfl
theorem f_X2_there_67_2_6_s (n : Nat) (M : x_M) (v2 : Int32) (v3 : Int32) (v4 : Int32) (v5 : Int32) (v6 : Int32) : f_X2_there_67_2_6 (n + 1) M v2 v3 v4 v5 v6 = (x_gf M 67 9 (fun r9 => if r9 ≤ v6 then some (v5, M) else x_rd 100 (M 72) v6 (fun r21 => if r21 ≤ v4 then f_X2_there_67_2_51 (f_X2_there_67_2_6 n) M v2 v3 v4 v5 v6 else x_bn (f_X2_isFor_67_2 M v2 v3 v6) (fun r33 M => if r33 = 0 then f_X2_there_67_2_51 (f_X2_there_67_2_6 n) M v2 v3 v4 v5 v6 else x_rd 100 (M 71) v6 (fun r47 => f_X2_there_67_2_51 (f_X2_there_67_2_6 n) M v2 v3 v4 (v5 + r47) v6))))) := rfl
def f_X2_there_67_2 (M : x_M) (a2 : Int32) (a3 : Int32) (a4 : Int32) : Option (Int32 × x_M) := f_X2_there_67_2_6 x_FU M a2 a3 a4 (nI 0) (nI 0)
abbrev rm_X2_there_67_2 : Room := { frames := 2, cells := 0, slots := 0, locals := 46 }
set_option maxHeartbeats 4000000 in
set_option maxRecDepth 100000 in
theorem c_X2_there_67_2 {l : Launch} {D : va_G} {cy : Nat → ClassId} {q ad : Nat → Nat} {NC : Nat} {s0 : State} (hq : x_Q q NC s0.heap.size) (hN : 88 ≤ NC) {M : x_M} {a2 : Int32} {a3 : Int32} {a4 : Int32} {z : Int32 × x_M} (h : f_X2_there_67_2 M a2 a3 a4 = some z) : x_Ci l D cy q ad x_spX NC s0 yX2_there (x_uw yX2_there cX2_there 7 (some .int)) rm_X2_there_67_2 [.ref (q 67), .ref (q 2), .int a2, .int a3, .int a4] M z.1 z.2 := by
  refine x_meti hq (by decide) (Nat.le_of_ble_eq_true rfl) ?_
  intro p e s m args below meth c ls Q C hret hl hw
  have hx := C.1.1
  have hb := C.1.2.1
  have ho := C.1.2.2.2.1
  have hL := C.1.2.2.2.2
  have hl : lv_has ls 7 [(0, .ref (q 67)), (1, .ref (q 2)), (2, .int a2), (3, .int a3), (4, .int a4)] := hl
  have w6 : ∀ (n : Nat) (M : x_M) (v2 : Int32) (v3 : Int32) (v4 : Int32) (v5 : Int32) (v6 : Int32) (H : Heap) (locs : List Loc) (ls : Array Slot), x_B D cy q ad x_spX NC s H locs M → lv_has ls 7 [(0, .ref (q 67)), (1, .ref (q 2)), (2, .int v2), (3, .int v3), (4, .int v4), (5, .int v5), (6, .int v6)] → f_X2_there_67_2_6 n M v2 v3 v4 v5 v6 = some z → W p l e rm_X2_there_67_2 s m args below meth c H locs 0 0 Q (F0 m 6 ls []) := by
    intro n
    induction n with
    | zero =>
      intro M v2 v3 v4 v5 v6 H locs ls hw hl h
      rw [f_X2_there_67_2_6_0] at h
      cases h
    | succ n6 ih6 =>
      have w51 : ∀ (M : x_M) (v2 : Int32) (v3 : Int32) (v4 : Int32) (v5 : Int32) (v6 : Int32) (H : Heap) (locs : List Loc) (ls : Array Slot), x_B D cy q ad x_spX NC s H locs M → lv_has ls 7 [(0, .ref (q 67)), (1, .ref (q 2)), (2, .int v2), (3, .int v3), (4, .int v4), (5, .int v5), (6, .int v6)] → f_X2_there_67_2_51 (f_X2_there_67_2_6 n6) M v2 v3 v4 v5 v6 = some z → W p l e rm_X2_there_67_2 s m args below meth c H locs 0 0 Q (F0 m 51 ls []) := by
        intro M v2 v3 v4 v5 v6 H locs ls hw hl h
        unfold f_X2_there_67_2_51 at h
        refine lv_iinc (lv' := [(6, .int _), (0, .ref (q 67)), (1, .ref (q 2)), (2, .int _), (3, .int _), (4, .int _), (5, .int _)]) hx hb dX2_there_51 hl (k := 6) rfl (x_inc (show Int32.ofInt 1 = (nI 1) by decide) _) (by decide) rfl (fun ls hl => ?_)
        refine lv_goto (tgt := 6) hx hb dX2_there_54 (by decide) ?_
        exact ih6 _ _ _ _ _ _ _ _ _ hw (lv_sub hl [1, 2, 3, 4, 5, 6, 0] rfl) h
      intro M v2 v3 v4 v5 v6 H locs ls hw hl h
      rw [f_X2_there_67_2_6_s] at h
      refine lv_iload hx hb dX2_there_6 (lv_at hl 6 rfl) ?_
      refine lv_aload_n hx hb dX2_there_8 rfl (lv_at hl 0 rfl) ?_
      refine xh_geti C hw 67 9 h sX_67 (x_lt hN rfl) rfl rfl rfl lk_RX2_43 dX2_there_9 (fun r9 h => ?_)
      refine x_icmp_ge (tgt := 57) hx hb h dX2_there_12 (by decide) (fun h => ?_) (fun h => ?_)
      · refine lv_iload hx hb dX2_there_57 (lv_at hl 5 rfl) ?_
        exact hret dX2_there_59 rfl hw h
      · refine lv_aload_n hx hb dX2_there_15 rfl (lv_at hl 0 rfl) ?_
        refine xh_getr C hw 67 3 sX_67 (x_lt hN rfl) rfl rfl rfl lk_RX2_25 dX2_there_16 ?_
        refine lv_iload hx hb dX2_there_19 (lv_at hl 6 rfl) ?_
        refine xh_iald C hw 72 100 h sX_72 (x_lt hN rfl) dX2_there_21 (fun r21 h => ?_)
        refine lv_iload hx hb dX2_there_22 (lv_at hl 4 rfl) ?_
        refine x_icmp_le (tgt := 51) hx hb h dX2_there_24 (by decide) (fun h => ?_) (fun h => ?_)
        · exact w51 _ _ _ _ _ _ _ _ _ hw (lv_sub hl [0, 1, 2, 3, 4, 5, 6] rfl) h
        · refine lv_aload_n hx hb dX2_there_27 rfl (lv_at hl 0 rfl) ?_
          refine lv_aload_n hx hb dX2_there_28 rfl (lv_at hl 1 rfl) ?_
          refine lv_iload_n hx hb dX2_there_29 rfl (lv_at hl 2 rfl) ?_
          refine lv_iload_n hx hb dX2_there_30 rfl (lv_at hl 3 rfl) ?_
          refine lv_iload hx hb dX2_there_31 (lv_at hl 6 rfl) ?_
          refine xh_cVi C hw (rest := []) h (fun _ hy => c_X2_isFor_67_2 hq hN hy) ml_RX2_166 mv_X2_isFor sX_67 (x_lt hN rfl) rfl ⟨rfl, rfl, by decide, by decide⟩ rfl hl.1 rfl (Nat.le_of_ble_eq_true rfl) dX2_there_33 (fun H locs r33 M hw h => ?_)
          refine x_if_eq (tgt := 51) hx hb h dX2_there_36 (by decide) (fun h => ?_) (fun h => ?_)
          · exact w51 _ _ _ _ _ _ _ _ _ hw (lv_sub hl [0, 1, 2, 3, 4, 5, 6] rfl) h
          · refine lv_iload hx hb dX2_there_39 (lv_at hl 5 rfl) ?_
            refine lv_aload_n hx hb dX2_there_41 rfl (lv_at hl 0 rfl) ?_
            refine xh_getr C hw 67 2 sX_67 (x_lt hN rfl) rfl rfl rfl lk_RX2_22 dX2_there_42 ?_
            refine lv_iload hx hb dX2_there_45 (lv_at hl 6 rfl) ?_
            refine xh_iald C hw 71 100 h sX_71 (x_lt hN rfl) dX2_there_47 (fun r47 h => ?_)
            refine lv_iadd hx hb dX2_there_48 ?_
            refine lv_istore (lv' := [(5, .int _), (0, .ref (q 67)), (1, .ref (q 2)), (2, .int _), (3, .int _), (4, .int _), (6, .int _)]) hx hb dX2_there_49 hl (by decide) rfl (fun ls hl => ?_)
            exact w51 _ _ _ _ _ _ _ _ _ hw (lv_sub hl [1, 2, 3, 4, 5, 0, 6] rfl) h
  unfold f_X2_there_67_2 at h
  refine lv_iconst (v := (nI 0)) hx hb dX2_there_0 (by decide) ?_
  refine lv_istore (lv' := [(5, .int _), (0, .ref (q 67)), (1, .ref (q 2)), (2, .int _), (3, .int _), (4, .int _)]) hx hb dX2_there_1 hl (by decide) rfl (fun ls hl => ?_)
  refine lv_iconst (v := (nI 0)) hx hb dX2_there_3 (by decide) ?_
  refine lv_istore (lv' := [(6, .int _), (5, .int _), (0, .ref (q 67)), (1, .ref (q 2)), (2, .int _), (3, .int _), (4, .int _)]) hx hb dX2_there_4 hl (by decide) rfl (fun ls hl => ?_)
  exact w6 _ _ _ _ _ _ _ _ _ _ hw (lv_sub hl [2, 3, 4, 5, 6, 1, 0] rfl) h
def f_X2_take_67_2_113 (k11 : x_M → Int32 → Int32 → Int32 → Int32 → Int32 → Int32 → Option (Int32 × x_M)) (M : x_M) (v2 : Int32) (v3 : Int32) (v4 : Int32) (v6 : Int32) (v7 : Int32) (v8 : Int32) : Option (Int32 × x_M) := k11 M v2 v3 v4 v6 v7 (v8 + (nI 1))
def f_X2_take_67_2_111 (k11 : x_M → Int32 → Int32 → Int32 → Int32 → Int32 → Int32 → Option (Int32 × x_M)) (M : x_M) (v2 : Int32) (v3 : Int32) (v4 : Int32) (v6 : Int32) (v8 : Int32) (t0 : Int32) : Option (Int32 × x_M) := f_X2_take_67_2_113 k11 M v2 v3 v4 v6 t0 v8
def f_X2_take_67_2_119 (M : x_M) (v7 : Int32) : Option (Int32 × x_M) := some (v7, M)
def f_X2_take_67_2_11 : Nat → x_M → Int32 → Int32 → Int32 → Int32 → Int32 → Int32 → Option (Int32 × x_M)
  | 0, _, _, _, _, _, _, _ => none
  | n + 1, M, v2, v3, v4, v6, v7, v8 => x_gf M 67 9 (fun r14 => if r14 ≤ v8 then f_X2_take_67_2_119 M v7 else if v6 ≤ 0 then f_X2_take_67_2_119 M v7 else x_rd 100 (M 71) v8 (fun r31 => if r31 ≤ 0 then f_X2_take_67_2_113 (f_X2_take_67_2_11 n) M v2 v3 v4 v6 v7 v8 else x_rd 100 (M 72) v8 (fun r41 => if r41 ≤ v4 then f_X2_take_67_2_113 (f_X2_take_67_2_11 n) M v2 v3 v4 v6 v7 v8 else x_bn (f_X2_isFor_67_2 M v2 v3 v8) (fun r53 M => if r53 = 0 then f_X2_take_67_2_113 (f_X2_take_67_2_11 n) M v2 v3 v4 v6 v7 v8 else x_rd 100 (M 71) v8 (fun r67 => x_rd 100 (M 71) v8 (fun r80 => x_wr 100 M 71 v8 (r80 - (if r67 < v6 then r67 else v6)) (fun M => if v7 = (-1000000005) then x_rd 100 (M 72) v8 (fun r105 => f_X2_take_67_2_111 (f_X2_take_67_2_11 n) M v2 v3 v4 (v6 - (if r67 < v6 then r67 else v6)) v8 r105) else f_X2_take_67_2_111 (f_X2_take_67_2_11 n) M v2 v3 v4 (v6 - (if r67 < v6 then r67 else v6)) v8 v7)))))))
theorem f_X2_take_67_2_11_0 (M : x_M) (v2 : Int32) (v3 : Int32) (v4 : Int32) (v6 : Int32) (v7 : Int32) (v8 : Int32) : f_X2_take_67_2_11 0 M v2 v3 v4 v6 v7 v8 = none := rfl
theorem f_X2_take_67_2_11_s (n : Nat) (M : x_M) (v2 : Int32) (v3 : Int32) (v4 : Int32) (v6 : Int32) (v7 : Int32) (v8 : Int32) : f_X2_take_67_2_11 (n + 1) M v2 v3 v4 v6 v7 v8 = (x_gf M 67 9 (fun r14 => if r14 ≤ v8 then f_X2_take_67_2_119 M v7 else if v6 ≤ 0 then f_X2_take_67_2_119 M v7 else x_rd 100 (M 71) v8 (fun r31 => if r31 ≤ 0 then f_X2_take_67_2_113 (f_X2_take_67_2_11 n) M v2 v3 v4 v6 v7 v8 else x_rd 100 (M 72) v8 (fun r41 => if r41 ≤ v4 then f_X2_take_67_2_113 (f_X2_take_67_2_11 n) M v2 v3 v4 v6 v7 v8 else x_bn (f_X2_isFor_67_2 M v2 v3 v8) (fun r53 M => if r53 = 0 then f_X2_take_67_2_113 (f_X2_take_67_2_11 n) M v2 v3 v4 v6 v7 v8 else x_rd 100 (M 71) v8 (fun r67 => x_rd 100 (M 71) v8 (fun r80 => x_wr 100 M 71 v8 (r80 - (if r67 < v6 then r67 else v6)) (fun M => if v7 = (-1000000005) then x_rd 100 (M 72) v8 (fun r105 => f_X2_take_67_2_111 (f_X2_take_67_2_11 n) M v2 v3 v4 (v6 - (if r67 < v6 then r67 else v6)) v8 r105) else f_X2_take_67_2_111 (f_X2_take_67_2_11 n) M v2 v3 v4 (v6 - (if r67 < v6 then r67 else v6)) v8 v7)))))))) := rfl
def f_X2_take_67_2 (M : x_M) (a2 : Int32) (a3 : Int32) (a4 : Int32) (a5 : Int32) : Option (Int32 × x_M) := f_X2_take_67_2_11 x_FU M a2 a3 a4 a5 (-1000000005) (nI 0)
abbrev rm_X2_take_67_2 : Room := { frames := 2, cells := 0, slots := 0, locals := 46 }
set_option maxHeartbeats 4000000 in
set_option maxRecDepth 100000 in
theorem c_X2_take_67_2 {l : Launch} {D : va_G} {cy : Nat → ClassId} {q ad : Nat → Nat} {NC : Nat} {s0 : State} (hq : x_Q q NC s0.heap.size) (hN : 88 ≤ NC) {M : x_M} {a2 : Int32} {a3 : Int32} {a4 : Int32} {a5 : Int32} {z : Int32 × x_M} (h : f_X2_take_67_2 M a2 a3 a4 a5 = some z) : x_Ci l D cy q ad x_spX NC s0 yX2_take (x_uw yX2_take cX2_take 10 (some .int)) rm_X2_take_67_2 [.ref (q 67), .ref (q 2), .int a2, .int a3, .int a4, .int a5] M z.1 z.2 := by
  refine x_meti hq (by decide) (Nat.le_of_ble_eq_true rfl) ?_
  intro p e s m args below meth c ls Q C hret hl hw
  have hx := C.1.1
  have hb := C.1.2.1
  have ho := C.1.2.2.2.1
  have hL := C.1.2.2.2.2
  have hl : lv_has ls 10 [(0, .ref (q 67)), (1, .ref (q 2)), (2, .int a2), (3, .int a3), (4, .int a4), (5, .int a5)] := hl
  have w11 : ∀ (n : Nat) (M : x_M) (v2 : Int32) (v3 : Int32) (v4 : Int32) (v6 : Int32) (v7 : Int32) (v8 : Int32) (H : Heap) (locs : List Loc) (ls : Array Slot), x_B D cy q ad x_spX NC s H locs M → lv_has ls 10 [(0, .ref (q 67)), (1, .ref (q 2)), (2, .int v2), (3, .int v3), (4, .int v4), (6, .int v6), (7, .int v7), (8, .int v8)] → f_X2_take_67_2_11 n M v2 v3 v4 v6 v7 v8 = some z → W p l e rm_X2_take_67_2 s m args below meth c H locs 0 0 Q (F0 m 11 ls []) := by
    intro n
    induction n with
    | zero =>
      intro M v2 v3 v4 v6 v7 v8 H locs ls hw hl h
      rw [f_X2_take_67_2_11_0] at h
      cases h
    | succ n11 ih11 =>
      have w113 : ∀ (M : x_M) (v2 : Int32) (v3 : Int32) (v4 : Int32) (v6 : Int32) (v7 : Int32) (v8 : Int32) (H : Heap) (locs : List Loc) (ls : Array Slot), x_B D cy q ad x_spX NC s H locs M → lv_has ls 10 [(0, .ref (q 67)), (1, .ref (q 2)), (2, .int v2), (3, .int v3), (4, .int v4), (6, .int v6), (7, .int v7), (8, .int v8)] → f_X2_take_67_2_113 (f_X2_take_67_2_11 n11) M v2 v3 v4 v6 v7 v8 = some z → W p l e rm_X2_take_67_2 s m args below meth c H locs 0 0 Q (F0 m 113 ls []) := by
        intro M v2 v3 v4 v6 v7 v8 H locs ls hw hl h
        unfold f_X2_take_67_2_113 at h
        refine lv_iinc (lv' := [(8, .int _), (0, .ref (q 67)), (1, .ref (q 2)), (2, .int _), (3, .int _), (4, .int _), (6, .int _), (7, .int _)]) hx hb dX2_take_113 hl (k := 7) rfl (x_inc (show Int32.ofInt 1 = (nI 1) by decide) _) (by decide) rfl (fun ls hl => ?_)
        refine lv_goto (tgt := 11) hx hb dX2_take_116 (by decide) ?_
        exact ih11 _ _ _ _ _ _ _ _ _ _ hw (lv_sub hl [1, 2, 3, 4, 5, 6, 7, 0] rfl) h
      have w111 : ∀ (M : x_M) (v2 : Int32) (v3 : Int32) (v4 : Int32) (v6 : Int32) (v8 : Int32) (t0 : Int32) (H : Heap) (locs : List Loc) (ls : Array Slot), x_B D cy q ad x_spX NC s H locs M → lv_has ls 10 [(0, .ref (q 67)), (1, .ref (q 2)), (2, .int v2), (3, .int v3), (4, .int v4), (6, .int v6), (8, .int v8)] → f_X2_take_67_2_111 (f_X2_take_67_2_11 n11) M v2 v3 v4 v6 v8 t0 = some z → W p l e rm_X2_take_67_2 s m args below meth c H locs 0 0 Q (F0 m 111 ls [.int t0]) := by
        intro M v2 v3 v4 v6 v8 t0 H locs ls hw hl h
        unfold f_X2_take_67_2_111 at h
        refine lv_istore (lv' := [(7, .int _), (0, .ref (q 67)), (1, .ref (q 2)), (2, .int _), (3, .int _), (4, .int _), (6, .int _), (8, .int _)]) hx hb dX2_take_111 hl (by decide) rfl (fun ls hl => ?_)
        exact w113 _ _ _ _ _ _ _ _ _ _ hw (lv_sub hl [1, 2, 3, 4, 5, 6, 0, 7] rfl) h
      have w119 : ∀ (M : x_M) (v7 : Int32) (H : Heap) (locs : List Loc) (ls : Array Slot), x_B D cy q ad x_spX NC s H locs M → lv_has ls 10 [(7, .int v7)] → f_X2_take_67_2_119 M v7 = some z → W p l e rm_X2_take_67_2 s m args below meth c H locs 0 0 Q (F0 m 119 ls []) := by
        intro M v7 H locs ls hw hl h
        unfold f_X2_take_67_2_119 at h
        refine lv_iload hx hb dX2_take_119 (lv_at hl 0 rfl) ?_
        exact hret dX2_take_121 rfl hw h
      intro M v2 v3 v4 v6 v7 v8 H locs ls hw hl h
      rw [f_X2_take_67_2_11_s] at h
      refine lv_iload hx hb dX2_take_11 (lv_at hl 7 rfl) ?_
      refine lv_aload_n hx hb dX2_take_13 rfl (lv_at hl 0 rfl) ?_
      refine xh_geti C hw 67 9 h sX_67 (x_lt hN rfl) rfl rfl rfl lk_RX2_43 dX2_take_14 (fun r14 h => ?_)
      refine x_icmp_ge (tgt := 119) hx hb h dX2_take_17 (by decide) (fun h => ?_) (fun h => ?_)
      · exact w119 _ _ _ _ _ hw (lv_sub hl [6] rfl) h
      · refine lv_iload hx hb dX2_take_20 (lv_at hl 5 rfl) ?_
        refine x_if_le (tgt := 119) hx hb h dX2_take_22 (by decide) (fun h => ?_) (fun h => ?_)
        · exact w119 _ _ _ _ _ hw (lv_sub hl [6] rfl) h
        · refine lv_aload_n hx hb dX2_take_25 rfl (lv_at hl 0 rfl) ?_
          refine xh_getr C hw 67 2 sX_67 (x_lt hN rfl) rfl rfl rfl lk_RX2_22 dX2_take_26 ?_
          refine lv_iload hx hb dX2_take_29 (lv_at hl 7 rfl) ?_
          refine xh_iald C hw 71 100 h sX_71 (x_lt hN rfl) dX2_take_31 (fun r31 h => ?_)
          refine x_if_le (tgt := 113) hx hb h dX2_take_32 (by decide) (fun h => ?_) (fun h => ?_)
          · exact w113 _ _ _ _ _ _ _ _ _ _ hw (lv_sub hl [0, 1, 2, 3, 4, 5, 6, 7] rfl) h
          · refine lv_aload_n hx hb dX2_take_35 rfl (lv_at hl 0 rfl) ?_
            refine xh_getr C hw 67 3 sX_67 (x_lt hN rfl) rfl rfl rfl lk_RX2_25 dX2_take_36 ?_
            refine lv_iload hx hb dX2_take_39 (lv_at hl 7 rfl) ?_
            refine xh_iald C hw 72 100 h sX_72 (x_lt hN rfl) dX2_take_41 (fun r41 h => ?_)
            refine lv_iload hx hb dX2_take_42 (lv_at hl 4 rfl) ?_
            refine x_icmp_le (tgt := 113) hx hb h dX2_take_44 (by decide) (fun h => ?_) (fun h => ?_)
            · exact w113 _ _ _ _ _ _ _ _ _ _ hw (lv_sub hl [0, 1, 2, 3, 4, 5, 6, 7] rfl) h
            · refine lv_aload_n hx hb dX2_take_47 rfl (lv_at hl 0 rfl) ?_
              refine lv_aload_n hx hb dX2_take_48 rfl (lv_at hl 1 rfl) ?_
              refine lv_iload_n hx hb dX2_take_49 rfl (lv_at hl 2 rfl) ?_
              refine lv_iload_n hx hb dX2_take_50 rfl (lv_at hl 3 rfl) ?_
              refine lv_iload hx hb dX2_take_51 (lv_at hl 7 rfl) ?_
              refine xh_cVi C hw (rest := []) h (fun _ hy => c_X2_isFor_67_2 hq hN hy) ml_RX2_166 mv_X2_isFor sX_67 (x_lt hN rfl) rfl ⟨rfl, rfl, by decide, by decide⟩ rfl hl.1 rfl (Nat.le_of_ble_eq_true rfl) dX2_take_53 (fun H locs r53 M hw h => ?_)
              refine x_if_eq (tgt := 113) hx hb h dX2_take_56 (by decide) (fun h => ?_) (fun h => ?_)
              · exact w113 _ _ _ _ _ _ _ _ _ _ hw (lv_sub hl [0, 1, 2, 3, 4, 5, 6, 7] rfl) h
              · refine lv_iload hx hb dX2_take_59 (lv_at hl 5 rfl) ?_
                refine lv_aload_n hx hb dX2_take_61 rfl (lv_at hl 0 rfl) ?_
                refine xh_getr C hw 67 2 sX_67 (x_lt hN rfl) rfl rfl rfl lk_RX2_22 dX2_take_62 ?_
                refine lv_iload hx hb dX2_take_65 (lv_at hl 7 rfl) ?_
                refine xh_iald C hw 71 100 h sX_71 (x_lt hN rfl) dX2_take_67 (fun r67 h => ?_)
                refine xh_min C (rest := []) mw_RX2_171 hl.1 ⟨by decide, Nat.le_of_ble_eq_true rfl⟩ dX2_take_68 ?_
                refine lv_istore (lv' := [(9, .int _), (0, .ref (q 67)), (1, .ref (q 2)), (2, .int _), (3, .int _), (4, .int _), (6, .int _), (7, .int _), (8, .int _)]) hx hb dX2_take_71 hl (by decide) rfl (fun ls hl => ?_)
                refine lv_aload_n hx hb dX2_take_73 rfl (lv_at hl 1 rfl) ?_
                refine xh_getr C hw 67 2 sX_67 (x_lt hN rfl) rfl rfl rfl lk_RX2_22 dX2_take_74 ?_
                refine lv_iload hx hb dX2_take_77 (lv_at hl 8 rfl) ?_
                refine lv_dup2_11 hx hb dX2_take_79 rfl rfl ?_
                refine xh_iald C hw 71 100 h sX_71 (x_lt hN rfl) dX2_take_80 (fun r80 h => ?_)
                refine lv_iload hx hb dX2_take_81 (lv_at hl 0 rfl) ?_
                refine lv_isub hx hb dX2_take_83 ?_
                refine xh_iast C hw 71 100 h sX_71 (x_lt hN rfl) dX2_take_84 (fun H locs M hw h => ?_)
                refine lv_iload hx hb dX2_take_85 (lv_at hl 6 rfl) ?_
                refine lv_iload hx hb dX2_take_87 (lv_at hl 0 rfl) ?_
                refine lv_isub hx hb dX2_take_89 ?_
                refine lv_istore (lv' := [(6, .int _), (9, .int _), (0, .ref (q 67)), (1, .ref (q 2)), (2, .int _), (3, .int _), (4, .int _), (7, .int _), (8, .int _)]) hx hb dX2_take_90 hl (by decide) rfl (fun ls hl => ?_)
                refine lv_iload hx hb dX2_take_92 (lv_at hl 7 rfl) ?_
                refine lv_ldc hx hb ho (hL _ kc_RX2_170) dX2_take_94 ?_
                refine x_icmp_ne (tgt := 109) hx hb h dX2_take_96 (by decide) (fun h => ?_) (fun h => ?_)
                · refine lv_aload_n hx hb dX2_take_99 rfl (lv_at hl 2 rfl) ?_
                  refine xh_getr C hw 67 3 sX_67 (x_lt hN rfl) rfl rfl rfl lk_RX2_25 dX2_take_100 ?_
                  refine lv_iload hx hb dX2_take_103 (lv_at hl 8 rfl) ?_
                  refine xh_iald C hw 72 100 h sX_72 (x_lt hN rfl) dX2_take_105 (fun r105 h => ?_)
                  refine lv_goto (tgt := 111) hx hb dX2_take_106 (by decide) ?_
                  exact w111 _ _ _ _ _ _ _ _ _ _ hw (lv_sub hl [2, 3, 4, 5, 6, 0, 8] rfl) h
                · refine lv_iload hx hb dX2_take_109 (lv_at hl 7 rfl) ?_
                  exact w111 _ _ _ _ _ _ _ _ _ _ hw (lv_sub hl [2, 3, 4, 5, 6, 0, 8] rfl) h
  unfold f_X2_take_67_2 at h
  refine lv_iload hx hb dX2_take_0 (lv_at hl 5 rfl) ?_
  refine lv_istore (lv' := [(6, .int _), (0, .ref (q 67)), (1, .ref (q 2)), (2, .int _), (3, .int _), (4, .int _), (5, .int _)]) hx hb dX2_take_2 hl (by decide) rfl (fun ls hl => ?_)
  refine lv_ldc hx hb ho (hL _ kc_RX2_170) dX2_take_4 ?_
  refine lv_istore (lv' := [(7, .int _), (6, .int _), (0, .ref (q 67)), (1, .ref (q 2)), (2, .int _), (3, .int _), (4, .int _), (5, .int _)]) hx hb dX2_take_6 hl (by decide) rfl (fun ls hl => ?_)
  refine lv_iconst (v := (nI 0)) hx hb dX2_take_8 (by decide) ?_
  refine lv_istore (lv' := [(8, .int _), (7, .int _), (6, .int _), (0, .ref (q 67)), (1, .ref (q 2)), (2, .int _), (3, .int _), (4, .int _), (5, .int _)]) hx hb dX2_take_9 hl (by decide) rfl (fun ls hl => ?_)
  exact w11 _ _ _ _ _ _ _ _ _ _ _ hw (lv_sub hl [3, 4, 5, 6, 7, 2, 1, 0] rfl) h
def f_X2_bringSpend_67_1 (M : x_M) (a2 : Int32) : Option (Int32 × x_M) := x_rd 100 (M 8) a2 (fun r10 => x_rd 100 (M 12) a2 (fun r18 => x_rd 100 (M 9) a2 (fun r26 => x_bn (f_X2_there_67_2 M r10 (nI 1) r26) (fun r39 M => if r18 ≤ r39 then x_bn (f_X2_take_67_2 M r10 (nI 1) r26 r18) (fun r61 M => x_rd 100 (M 13) a2 (fun r74 => x_rd 4 (M 75) r74 (fun r76 => x_wr 4 M 75 r74 (r76 + r18) (fun M => some (r18, M))))) else some ((nI 0), M)))))
abbrev rm_X2_bringSpend_67_1 : Room := { frames := 3, cells := 0, slots := 0, locals := 75 }
set_option maxHeartbeats 4000000 in
set_option maxRecDepth 100000 in
theorem c_X2_bringSpend_67_1 {l : Launch} {D : va_G} {cy : Nat → ClassId} {q ad : Nat → Nat} {NC : Nat} {s0 : State} (hq : x_Q q NC s0.heap.size) (hN : 88 ≤ NC) {M : x_M} {a2 : Int32} {z : Int32 × x_M} (h : f_X2_bringSpend_67_1 M a2 = some z) : x_Ci l D cy q ad x_spX NC s0 yX2_bringSpend (x_uw yX2_bringSpend cX2_bringSpend 7 (some .int)) rm_X2_bringSpend_67_1 [.ref (q 67), .ref (q 1), .int a2] M z.1 z.2 := by
  refine x_meti hq (by decide) (Nat.le_of_ble_eq_true rfl) ?_
  intro p e s m args below meth c ls Q C hret hl hw
  have hx := C.1.1
  have hb := C.1.2.1
  have ho := C.1.2.2.2.1
  have hL := C.1.2.2.2.2
  have hl : lv_has ls 7 [(0, .ref (q 67)), (1, .ref (q 1)), (2, .int a2)] := hl
  unfold f_X2_bringSpend_67_1 at h
  refine lv_aload_n hx hb dX2_bringSpend_0 rfl (lv_at hl 1 rfl) ?_
  refine xh_getr C hw 1 1 sX_1 (x_lt hN rfl) rfl rfl rfl lk_RX2_53 dX2_bringSpend_1 ?_
  refine lv_astore_n (lv' := [(3, .ref (q 6)), (0, .ref (q 67)), (1, .ref (q 1)), (2, .int _)]) hx hb dX2_bringSpend_4 rfl hl (by decide) rfl (fun ls hl => ?_)
  refine lv_aload_n hx hb dX2_bringSpend_5 rfl (lv_at hl 0 rfl) ?_
  refine xh_getr C hw 6 1 sX_6 (x_lt hN rfl) rfl rfl rfl lk_RX2_90 dX2_bringSpend_6 ?_
  refine lv_iload_n hx hb dX2_bringSpend_9 rfl (lv_at hl 3 rfl) ?_
  refine xh_iald C hw 8 100 h sX_8 (x_lt hN rfl) dX2_bringSpend_10 (fun r10 h => ?_)
  refine lv_istore (lv' := [(4, .int _), (3, .ref (q 6)), (0, .ref (q 67)), (1, .ref (q 1)), (2, .int _)]) hx hb dX2_bringSpend_11 hl (by decide) rfl (fun ls hl => ?_)
  refine lv_aload_n hx hb dX2_bringSpend_13 rfl (lv_at hl 1 rfl) ?_
  refine xh_getr C hw 6 5 sX_6 (x_lt hN rfl) rfl rfl rfl lk_RX2_110 dX2_bringSpend_14 ?_
  refine lv_iload_n hx hb dX2_bringSpend_17 rfl (lv_at hl 4 rfl) ?_
  refine xh_iald C hw 12 100 h sX_12 (x_lt hN rfl) dX2_bringSpend_18 (fun r18 h => ?_)
  refine lv_istore (lv' := [(5, .int _), (4, .int _), (3, .ref (q 6)), (0, .ref (q 67)), (1, .ref (q 1)), (2, .int _)]) hx hb dX2_bringSpend_19 hl (by decide) rfl (fun ls hl => ?_)
  refine lv_aload_n hx hb dX2_bringSpend_21 rfl (lv_at hl 2 rfl) ?_
  refine xh_getr C hw 6 2 sX_6 (x_lt hN rfl) rfl rfl rfl lk_RX2_67 dX2_bringSpend_22 ?_
  refine lv_iload_n hx hb dX2_bringSpend_25 rfl (lv_at hl 5 rfl) ?_
  refine xh_iald C hw 9 100 h sX_9 (x_lt hN rfl) dX2_bringSpend_26 (fun r26 h => ?_)
  refine lv_istore (lv' := [(6, .int _), (5, .int _), (4, .int _), (3, .ref (q 6)), (0, .ref (q 67)), (1, .ref (q 1)), (2, .int _)]) hx hb dX2_bringSpend_27 hl (by decide) rfl (fun ls hl => ?_)
  refine lv_aload_n hx hb dX2_bringSpend_29 rfl (lv_at hl 4 rfl) ?_
  refine lv_aload_n hx hb dX2_bringSpend_30 rfl (lv_at hl 5 rfl) ?_
  refine xh_getr C hw 1 0 sX_1 (x_lt hN rfl) rfl rfl rfl lk_RX2_117 dX2_bringSpend_31 ?_
  refine lv_iload hx hb dX2_bringSpend_34 (lv_at hl 2 rfl) ?_
  refine lv_iconst (v := (nI 1)) hx hb dX2_bringSpend_36 (by decide) ?_
  refine lv_iload hx hb dX2_bringSpend_37 (lv_at hl 0 rfl) ?_
  refine xh_cVi C hw (rest := []) h (fun _ hy => c_X2_there_67_2 hq hN hy) ml_RX2_148 mv_X2_there sX_67 (x_lt hN rfl) rfl ⟨rfl, rfl, by decide, by decide⟩ rfl hl.1 rfl (Nat.le_of_ble_eq_true rfl) dX2_bringSpend_39 (fun H locs r39 M hw h => ?_)
  refine lv_iload hx hb dX2_bringSpend_42 (lv_at hl 1 rfl) ?_
  refine x_icmp_ge (tgt := 49) hx hb h dX2_bringSpend_44 (by decide) (fun h => ?_) (fun h => ?_)
  · refine lv_aload_n hx hb dX2_bringSpend_49 rfl (lv_at hl 4 rfl) ?_
    refine lv_aload_n hx hb dX2_bringSpend_50 rfl (lv_at hl 5 rfl) ?_
    refine xh_getr C hw 1 0 sX_1 (x_lt hN rfl) rfl rfl rfl lk_RX2_117 dX2_bringSpend_51 ?_
    refine lv_iload hx hb dX2_bringSpend_54 (lv_at hl 2 rfl) ?_
    refine lv_iconst (v := (nI 1)) hx hb dX2_bringSpend_56 (by decide) ?_
    refine lv_iload hx hb dX2_bringSpend_57 (lv_at hl 0 rfl) ?_
    refine lv_iload hx hb dX2_bringSpend_59 (lv_at hl 1 rfl) ?_
    refine xh_cVi C hw (rest := []) h (fun _ hy => c_X2_take_67_2 hq hN hy) ml_RX2_152 mv_X2_take sX_67 (x_lt hN rfl) rfl ⟨rfl, rfl, by decide, by decide⟩ rfl hl.1 rfl (Nat.le_of_ble_eq_true rfl) dX2_bringSpend_61 (fun H locs r61 M hw h => ?_)
    refine lv_pop hx hb dX2_bringSpend_64 rfl ?_
    refine lv_aload_n hx hb dX2_bringSpend_65 rfl (lv_at hl 4 rfl) ?_
    refine xh_getr C hw 67 6 sX_67 (x_lt hN rfl) rfl rfl rfl lk_RX2_34 dX2_bringSpend_66 ?_
    refine lv_aload_n hx hb dX2_bringSpend_69 rfl (lv_at hl 3 rfl) ?_
    refine xh_getr C hw 6 6 sX_6 (x_lt hN rfl) rfl rfl rfl lk_RX2_93 dX2_bringSpend_70 ?_
    refine lv_iload_n hx hb dX2_bringSpend_73 rfl (lv_at hl 6 rfl) ?_
    refine xh_iald C hw 13 100 h sX_13 (x_lt hN rfl) dX2_bringSpend_74 (fun r74 h => ?_)
    refine lv_dup2_11 hx hb dX2_bringSpend_75 rfl rfl ?_
    refine xh_iald C hw 75 4 h sX_75 (x_lt hN rfl) dX2_bringSpend_76 (fun r76 h => ?_)
    refine lv_iload hx hb dX2_bringSpend_77 (lv_at hl 1 rfl) ?_
    refine lv_iadd hx hb dX2_bringSpend_79 ?_
    refine xh_iast C hw 75 4 h sX_75 (x_lt hN rfl) dX2_bringSpend_80 (fun H locs M hw h => ?_)
    refine lv_iload hx hb dX2_bringSpend_81 (lv_at hl 1 rfl) ?_
    exact hret dX2_bringSpend_83 rfl hw h
  · refine lv_iconst (v := (nI 0)) hx hb dX2_bringSpend_47 (by decide) ?_
    exact hret dX2_bringSpend_48 rfl hw h
def f_X2_bringGift_67_1 (M : x_M) (a2 : Int32) : Option (Int32 × x_M) := x_rd 100 (M 8) a2 (fun r10 => x_rd 100 (M 12) a2 (fun r18 => x_rd 100 (M 9) a2 (fun r26 => x_bn (f_X2_there_67_2 M r10 (nI 0) r26) (fun r39 M => if r18 ≤ r39 then x_bn (f_X2_take_67_2 M r10 (nI 0) r26 r18) (fun r61 M => x_rd 100 (M 13) a2 (fun r72 => x_bn (f_X2_come M r72 r18 r61) (fun _ M => some (r18, M)))) else some ((nI 0), M)))))
abbrev rm_X2_bringGift_67_1 : Room := { frames := 3, cells := 0, slots := 0, locals := 75 }
set_option maxHeartbeats 4000000 in
set_option maxRecDepth 100000 in
theorem c_X2_bringGift_67_1 {l : Launch} {D : va_G} {cy : Nat → ClassId} {q ad : Nat → Nat} {NC : Nat} {s0 : State} (hq : x_Q q NC s0.heap.size) (hN : 88 ≤ NC) {M : x_M} {a2 : Int32} {z : Int32 × x_M} (h : f_X2_bringGift_67_1 M a2 = some z) : x_Ci l D cy q ad x_spX NC s0 yX2_bringGift (x_uw yX2_bringGift cX2_bringGift 8 (some .int)) rm_X2_bringGift_67_1 [.ref (q 67), .ref (q 1), .int a2] M z.1 z.2 := by
  refine x_meti hq (by decide) (Nat.le_of_ble_eq_true rfl) ?_
  intro p e s m args below meth c ls Q C hret hl hw
  have hx := C.1.1
  have hb := C.1.2.1
  have ho := C.1.2.2.2.1
  have hL := C.1.2.2.2.2
  have hl : lv_has ls 8 [(0, .ref (q 67)), (1, .ref (q 1)), (2, .int a2)] := hl
  unfold f_X2_bringGift_67_1 at h
  refine lv_aload_n hx hb dX2_bringGift_0 rfl (lv_at hl 1 rfl) ?_
  refine xh_getr C hw 1 1 sX_1 (x_lt hN rfl) rfl rfl rfl lk_RX2_53 dX2_bringGift_1 ?_
  refine lv_astore_n (lv' := [(3, .ref (q 6)), (0, .ref (q 67)), (1, .ref (q 1)), (2, .int _)]) hx hb dX2_bringGift_4 rfl hl (by decide) rfl (fun ls hl => ?_)
  refine lv_aload_n hx hb dX2_bringGift_5 rfl (lv_at hl 0 rfl) ?_
  refine xh_getr C hw 6 1 sX_6 (x_lt hN rfl) rfl rfl rfl lk_RX2_90 dX2_bringGift_6 ?_
  refine lv_iload_n hx hb dX2_bringGift_9 rfl (lv_at hl 3 rfl) ?_
  refine xh_iald C hw 8 100 h sX_8 (x_lt hN rfl) dX2_bringGift_10 (fun r10 h => ?_)
  refine lv_istore (lv' := [(4, .int _), (3, .ref (q 6)), (0, .ref (q 67)), (1, .ref (q 1)), (2, .int _)]) hx hb dX2_bringGift_11 hl (by decide) rfl (fun ls hl => ?_)
  refine lv_aload_n hx hb dX2_bringGift_13 rfl (lv_at hl 1 rfl) ?_
  refine xh_getr C hw 6 5 sX_6 (x_lt hN rfl) rfl rfl rfl lk_RX2_110 dX2_bringGift_14 ?_
  refine lv_iload_n hx hb dX2_bringGift_17 rfl (lv_at hl 4 rfl) ?_
  refine xh_iald C hw 12 100 h sX_12 (x_lt hN rfl) dX2_bringGift_18 (fun r18 h => ?_)
  refine lv_istore (lv' := [(5, .int _), (4, .int _), (3, .ref (q 6)), (0, .ref (q 67)), (1, .ref (q 1)), (2, .int _)]) hx hb dX2_bringGift_19 hl (by decide) rfl (fun ls hl => ?_)
  refine lv_aload_n hx hb dX2_bringGift_21 rfl (lv_at hl 2 rfl) ?_
  refine xh_getr C hw 6 2 sX_6 (x_lt hN rfl) rfl rfl rfl lk_RX2_67 dX2_bringGift_22 ?_
  refine lv_iload_n hx hb dX2_bringGift_25 rfl (lv_at hl 5 rfl) ?_
  refine xh_iald C hw 9 100 h sX_9 (x_lt hN rfl) dX2_bringGift_26 (fun r26 h => ?_)
  refine lv_istore (lv' := [(6, .int _), (5, .int _), (4, .int _), (3, .ref (q 6)), (0, .ref (q 67)), (1, .ref (q 1)), (2, .int _)]) hx hb dX2_bringGift_27 hl (by decide) rfl (fun ls hl => ?_)
  refine lv_aload_n hx hb dX2_bringGift_29 rfl (lv_at hl 4 rfl) ?_
  refine lv_aload_n hx hb dX2_bringGift_30 rfl (lv_at hl 5 rfl) ?_
  refine xh_getr C hw 1 0 sX_1 (x_lt hN rfl) rfl rfl rfl lk_RX2_117 dX2_bringGift_31 ?_
  refine lv_iload hx hb dX2_bringGift_34 (lv_at hl 2 rfl) ?_
  refine lv_iconst (v := (nI 0)) hx hb dX2_bringGift_36 (by decide) ?_
  refine lv_iload hx hb dX2_bringGift_37 (lv_at hl 0 rfl) ?_
  refine xh_cVi C hw (rest := []) h (fun _ hy => c_X2_there_67_2 hq hN hy) ml_RX2_148 mv_X2_there sX_67 (x_lt hN rfl) rfl ⟨rfl, rfl, by decide, by decide⟩ rfl hl.1 rfl (Nat.le_of_ble_eq_true rfl) dX2_bringGift_39 (fun H locs r39 M hw h => ?_)
  refine lv_iload hx hb dX2_bringGift_42 (lv_at hl 1 rfl) ?_
  refine x_icmp_ge (tgt := 49) hx hb h dX2_bringGift_44 (by decide) (fun h => ?_) (fun h => ?_)
  · refine lv_aload_n hx hb dX2_bringGift_49 rfl (lv_at hl 4 rfl) ?_
    refine lv_aload_n hx hb dX2_bringGift_50 rfl (lv_at hl 5 rfl) ?_
    refine xh_getr C hw 1 0 sX_1 (x_lt hN rfl) rfl rfl rfl lk_RX2_117 dX2_bringGift_51 ?_
    refine lv_iload hx hb dX2_bringGift_54 (lv_at hl 2 rfl) ?_
    refine lv_iconst (v := (nI 0)) hx hb dX2_bringGift_56 (by decide) ?_
    refine lv_iload hx hb dX2_bringGift_57 (lv_at hl 0 rfl) ?_
    refine lv_iload hx hb dX2_bringGift_59 (lv_at hl 1 rfl) ?_
    refine xh_cVi C hw (rest := []) h (fun _ hy => c_X2_take_67_2 hq hN hy) ml_RX2_152 mv_X2_take sX_67 (x_lt hN rfl) rfl ⟨rfl, rfl, by decide, by decide⟩ rfl hl.1 rfl (Nat.le_of_ble_eq_true rfl) dX2_bringGift_61 (fun H locs r61 M hw h => ?_)
    refine lv_istore (lv' := [(7, .int _), (6, .int _), (5, .int _), (4, .int _), (3, .ref (q 6)), (0, .ref (q 67)), (1, .ref (q 1)), (2, .int _)]) hx hb dX2_bringGift_64 hl (by decide) rfl (fun ls hl => ?_)
    refine lv_aload_n hx hb dX2_bringGift_66 rfl (lv_at hl 5 rfl) ?_
    refine lv_aload_n hx hb dX2_bringGift_67 rfl (lv_at hl 4 rfl) ?_
    refine xh_getr C hw 6 6 sX_6 (x_lt hN rfl) rfl rfl rfl lk_RX2_93 dX2_bringGift_68 ?_
    refine lv_iload_n hx hb dX2_bringGift_71 rfl (lv_at hl 7 rfl) ?_
    refine xh_iald C hw 13 100 h sX_13 (x_lt hN rfl) dX2_bringGift_72 (fun r72 h => ?_)
    refine lv_iload hx hb dX2_bringGift_73 (lv_at hl 2 rfl) ?_
    refine lv_iload hx hb dX2_bringGift_75 (lv_at hl 0 rfl) ?_
    refine xh_cVv C hw (rest := []) h (fun _ hy => c_X2_come hq hN hy) ml_RX2_144 mv_X2_come sX_67 (x_lt hN rfl) rfl ⟨rfl, rfl, by decide, by decide⟩ rfl hl.1 rfl (Nat.le_of_ble_eq_true rfl) dX2_bringGift_77 (fun H locs _ M hw h => ?_)
    refine lv_iload hx hb dX2_bringGift_80 (lv_at hl 2 rfl) ?_
    exact hret dX2_bringGift_82 rfl hw h
  · refine lv_iconst (v := (nI 0)) hx hb dX2_bringGift_47 (by decide) ?_
    exact hret dX2_bringGift_48 rfl hw h
def f_X2_bringBack_67_1_37 (M : x_M) : Option (Int32 × x_M) := some ((nI 0), M)
def f_X2_bringBack_67_1 (M : x_M) (a2 : Int32) : Option (Int32 × x_M) := x_rd 100 (M 13) a2 (fun r10 => x_rd 100 (M 76) r10 (fun r19 => if r19 ≤ 0 then f_X2_bringBack_67_1_37 M else x_rd 100 (M 77) r10 (fun r33 => if r33 = 0 then x_wr 100 M 77 r10 (nI 1) (fun M => x_rd 100 (M 8) r10 (fun r54 => x_rd 100 (M 9) a2 (fun r62 => x_rd 3 (M 31) (nI 1) (fun r68 => x_bn (f_X2_come M r54 r19 (r62 + r68)) (fun _ M => x_rd 100 (M 13) r10 (fun r83 => x_rd 4 (M 75) r83 (fun r85 => x_wr 4 M 75 r83 (r85 - r19) (fun M => some (r19, M))))))))) else f_X2_bringBack_67_1_37 M)))
abbrev rm_X2_bringBack_67_1 : Room := { frames := 2, cells := 0, slots := 0, locals := 47 }
set_option maxHeartbeats 4000000 in
set_option maxRecDepth 100000 in
theorem c_X2_bringBack_67_1 {l : Launch} {D : va_G} {cy : Nat → ClassId} {q ad : Nat → Nat} {NC : Nat} {s0 : State} (hq : x_Q q NC s0.heap.size) (hN : 88 ≤ NC) {M : x_M} {a2 : Int32} {z : Int32 × x_M} (h : f_X2_bringBack_67_1 M a2 = some z) : x_Ci l D cy q ad x_spX NC s0 yX2_bringBack (x_uw yX2_bringBack cX2_bringBack 6 (some .int)) rm_X2_bringBack_67_1 [.ref (q 67), .ref (q 1), .int a2] M z.1 z.2 := by
  refine x_meti hq (by decide) (Nat.le_of_ble_eq_true rfl) ?_
  intro p e s m args below meth c ls Q C hret hl hw
  have hx := C.1.1
  have hb := C.1.2.1
  have ho := C.1.2.2.2.1
  have hL := C.1.2.2.2.2
  have hl : lv_has ls 6 [(0, .ref (q 67)), (1, .ref (q 1)), (2, .int a2)] := hl
  have w37 : ∀ (M : x_M) (H : Heap) (locs : List Loc) (ls : Array Slot), x_B D cy q ad x_spX NC s H locs M → lv_has ls 6 [] → f_X2_bringBack_67_1_37 M = some z → W p l e rm_X2_bringBack_67_1 s m args below meth c H locs 0 0 Q (F0 m 37 ls []) := by
    intro M H locs ls hw hl h
    unfold f_X2_bringBack_67_1_37 at h
    refine lv_iconst (v := (nI 0)) hx hb dX2_bringBack_37 (by decide) ?_
    exact hret dX2_bringBack_38 rfl hw h
  unfold f_X2_bringBack_67_1 at h
  refine lv_aload_n hx hb dX2_bringBack_0 rfl (lv_at hl 1 rfl) ?_
  refine xh_getr C hw 1 1 sX_1 (x_lt hN rfl) rfl rfl rfl lk_RX2_53 dX2_bringBack_1 ?_
  refine lv_astore_n (lv' := [(3, .ref (q 6)), (0, .ref (q 67)), (1, .ref (q 1)), (2, .int _)]) hx hb dX2_bringBack_4 rfl hl (by decide) rfl (fun ls hl => ?_)
  refine lv_aload_n hx hb dX2_bringBack_5 rfl (lv_at hl 0 rfl) ?_
  refine xh_getr C hw 6 6 sX_6 (x_lt hN rfl) rfl rfl rfl lk_RX2_93 dX2_bringBack_6 ?_
  refine lv_iload_n hx hb dX2_bringBack_9 rfl (lv_at hl 3 rfl) ?_
  refine xh_iald C hw 13 100 h sX_13 (x_lt hN rfl) dX2_bringBack_10 (fun r10 h => ?_)
  refine lv_istore (lv' := [(4, .int _), (3, .ref (q 6)), (0, .ref (q 67)), (1, .ref (q 1)), (2, .int _)]) hx hb dX2_bringBack_11 hl (by decide) rfl (fun ls hl => ?_)
  refine lv_aload_n hx hb dX2_bringBack_13 rfl (lv_at hl 2 rfl) ?_
  refine xh_getr C hw 67 7 sX_67 (x_lt hN rfl) rfl rfl rfl lk_RX2_37 dX2_bringBack_14 ?_
  refine lv_iload hx hb dX2_bringBack_17 (lv_at hl 0 rfl) ?_
  refine xh_iald C hw 76 100 h sX_76 (x_lt hN rfl) dX2_bringBack_19 (fun r19 h => ?_)
  refine lv_istore (lv' := [(5, .int _), (4, .int _), (3, .ref (q 6)), (0, .ref (q 67)), (1, .ref (q 1)), (2, .int _)]) hx hb dX2_bringBack_20 hl (by decide) rfl (fun ls hl => ?_)
  refine lv_iload hx hb dX2_bringBack_22 (lv_at hl 0 rfl) ?_
  refine x_if_le (tgt := 37) hx hb h dX2_bringBack_24 (by decide) (fun h => ?_) (fun h => ?_)
  · exact w37 _ _ _ _ hw (lv_sub hl [] rfl) h
  · refine lv_aload_n hx hb dX2_bringBack_27 rfl (lv_at hl 3 rfl) ?_
    refine xh_getr C hw 67 8 sX_67 (x_lt hN rfl) rfl rfl rfl lk_RX2_40 dX2_bringBack_28 ?_
    refine lv_iload hx hb dX2_bringBack_31 (lv_at hl 1 rfl) ?_
    refine xh_iald C hw 77 100 h sX_77 (x_lt hN rfl) dX2_bringBack_33 (fun r33 h => ?_)
    refine x_if_eq (tgt := 39) hx hb h dX2_bringBack_34 (by decide) (fun h => ?_) (fun h => ?_)
    · refine lv_aload_n hx hb dX2_bringBack_39 rfl (lv_at hl 3 rfl) ?_
      refine xh_getr C hw 67 8 sX_67 (x_lt hN rfl) rfl rfl rfl lk_RX2_40 dX2_bringBack_40 ?_
      refine lv_iload hx hb dX2_bringBack_43 (lv_at hl 1 rfl) ?_
      refine lv_iconst (v := (nI 1)) hx hb dX2_bringBack_45 (by decide) ?_
      refine xh_iast C hw 77 100 h sX_77 (x_lt hN rfl) dX2_bringBack_46 (fun H locs M hw h => ?_)
      refine lv_aload_n hx hb dX2_bringBack_47 rfl (lv_at hl 3 rfl) ?_
      refine lv_aload_n hx hb dX2_bringBack_48 rfl (lv_at hl 2 rfl) ?_
      refine xh_getr C hw 6 1 sX_6 (x_lt hN rfl) rfl rfl rfl lk_RX2_90 dX2_bringBack_49 ?_
      refine lv_iload hx hb dX2_bringBack_52 (lv_at hl 1 rfl) ?_
      refine xh_iald C hw 8 100 h sX_8 (x_lt hN rfl) dX2_bringBack_54 (fun r54 h => ?_)
      refine lv_iload hx hb dX2_bringBack_55 (lv_at hl 0 rfl) ?_
      refine lv_aload_n hx hb dX2_bringBack_57 rfl (lv_at hl 2 rfl) ?_
      refine xh_getr C hw 6 2 sX_6 (x_lt hN rfl) rfl rfl rfl lk_RX2_67 dX2_bringBack_58 ?_
      refine lv_iload_n hx hb dX2_bringBack_61 rfl (lv_at hl 5 rfl) ?_
      refine xh_iald C hw 9 100 h sX_9 (x_lt hN rfl) dX2_bringBack_62 (fun r62 h => ?_)
      refine lv_aload_n hx hb dX2_bringBack_63 rfl (lv_at hl 4 rfl) ?_
      refine xh_getr C hw 1 5 sX_1 (x_lt hN rfl) rfl rfl rfl lk_RX2_156 dX2_bringBack_64 ?_
      refine lv_iconst (v := (nI 1)) hx hb dX2_bringBack_67 (by decide) ?_
      refine xh_iald C hw 31 3 h sX_31 (x_lt hN rfl) dX2_bringBack_68 (fun r68 h => ?_)
      refine lv_iadd hx hb dX2_bringBack_69 ?_
      refine xh_cVv C hw (rest := []) h (fun _ hy => c_X2_come hq hN hy) ml_RX2_144 mv_X2_come sX_67 (x_lt hN rfl) rfl ⟨rfl, rfl, by decide, by decide⟩ rfl hl.1 rfl (Nat.le_of_ble_eq_true rfl) dX2_bringBack_70 (fun H locs _ M hw h => ?_)
      refine lv_aload_n hx hb dX2_bringBack_73 rfl (lv_at hl 3 rfl) ?_
      refine xh_getr C hw 67 6 sX_67 (x_lt hN rfl) rfl rfl rfl lk_RX2_34 dX2_bringBack_74 ?_
      refine lv_aload_n hx hb dX2_bringBack_77 rfl (lv_at hl 2 rfl) ?_
      refine xh_getr C hw 6 6 sX_6 (x_lt hN rfl) rfl rfl rfl lk_RX2_93 dX2_bringBack_78 ?_
      refine lv_iload hx hb dX2_bringBack_81 (lv_at hl 1 rfl) ?_
      refine xh_iald C hw 13 100 h sX_13 (x_lt hN rfl) dX2_bringBack_83 (fun r83 h => ?_)
      refine lv_dup2_11 hx hb dX2_bringBack_84 rfl rfl ?_
      refine xh_iald C hw 75 4 h sX_75 (x_lt hN rfl) dX2_bringBack_85 (fun r85 h => ?_)
      refine lv_iload hx hb dX2_bringBack_86 (lv_at hl 0 rfl) ?_
      refine lv_isub hx hb dX2_bringBack_88 ?_
      refine xh_iast C hw 75 4 h sX_75 (x_lt hN rfl) dX2_bringBack_89 (fun H locs M hw h => ?_)
      refine lv_iload hx hb dX2_bringBack_90 (lv_at hl 0 rfl) ?_
      exact hret dX2_bringBack_92 rfl hw h
    · exact w37 _ _ _ _ hw (lv_sub hl [] rfl) h
def f_X2_goThrough_67_1_197 (NC : Nat) (k54 : x_M → Int32 → Int32 → Int32 → Option (Unit × x_M)) (M : x_M) (v2 : Int32) (v3 : Int32) (v5 : Int32) : Option (Unit × x_M) := k54 M v2 v3 (v5 + (nI 1))
def f_X2_goThrough_67_1_54 (NC : Nat) : Nat → x_M → Int32 → Int32 → Int32 → Option (Unit × x_M)
  | 0, _, _, _, _ => none
  | n + 1, M, v2, v3, v5 => x_gf M 6 9 (fun r58 => if r58 ≤ v5 then some ((), M) else x_rd 100 (M 15) v5 (fun r71 => x_rd 100 (M 9) r71 (fun r81 => if v2 < r81 then f_X2_goThrough_67_1_197 NC (f_X2_goThrough_67_1_54 NC n) M v2 v3 v5 else x_bn (f_X3_isKnown M r71 v3) (fun r91 M => if r91 = 0 then f_X2_goThrough_67_1_197 NC (f_X2_goThrough_67_1_54 NC n) M v2 v3 v5 else x_rd 100 (M 7) r71 (fun r104 => if r104 = (nI 0) then x_bn (f_X2_bringFly_67_1 NC M r71) (fun r142 M => x_wr 100 M 76 r71 r142 (fun M => f_X2_goThrough_67_1_197 NC (f_X2_goThrough_67_1_54 NC n) M v2 v3 v5)) else if r104 = (nI 1) then x_bn (f_X2_bringSpend_67_1 M r71) (fun r159 M => x_wr 100 M 76 r71 r159 (fun M => f_X2_goThrough_67_1_197 NC (f_X2_goThrough_67_1_54 NC n) M v2 v3 v5)) else if r104 = (nI 2) then x_bn (f_X2_bringGift_67_1 M r71) (fun r176 M => x_wr 100 M 76 r71 r176 (fun M => f_X2_goThrough_67_1_197 NC (f_X2_goThrough_67_1_54 NC n) M v2 v3 v5)) else x_bn (f_X2_bringBack_67_1 M r71) (fun r193 M => x_wr 100 M 76 r71 r193 (fun M => f_X2_goThrough_67_1_197 NC (f_X2_goThrough_67_1_54 NC n) M v2 v3 v5)))))))
theorem f_X2_goThrough_67_1_54_0 (NC : Nat) (M : x_M) (v2 : Int32) (v3 : Int32) (v5 : Int32) : f_X2_goThrough_67_1_54 NC 0 M v2 v3 v5 = none := rfl
theorem f_X2_goThrough_67_1_54_s (NC : Nat) (n : Nat) (M : x_M) (v2 : Int32) (v3 : Int32) (v5 : Int32) : f_X2_goThrough_67_1_54 NC (n + 1) M v2 v3 v5 = (x_gf M 6 9 (fun r58 => if r58 ≤ v5 then some ((), M) else x_rd 100 (M 15) v5 (fun r71 => x_rd 100 (M 9) r71 (fun r81 => if v2 < r81 then f_X2_goThrough_67_1_197 NC (f_X2_goThrough_67_1_54 NC n) M v2 v3 v5 else x_bn (f_X3_isKnown M r71 v3) (fun r91 M => if r91 = 0 then f_X2_goThrough_67_1_197 NC (f_X2_goThrough_67_1_54 NC n) M v2 v3 v5 else x_rd 100 (M 7) r71 (fun r104 => if r104 = (nI 0) then x_bn (f_X2_bringFly_67_1 NC M r71) (fun r142 M => x_wr 100 M 76 r71 r142 (fun M => f_X2_goThrough_67_1_197 NC (f_X2_goThrough_67_1_54 NC n) M v2 v3 v5)) else if r104 = (nI 1) then x_bn (f_X2_bringSpend_67_1 M r71) (fun r159 M => x_wr 100 M 76 r71 r159 (fun M => f_X2_goThrough_67_1_197 NC (f_X2_goThrough_67_1_54 NC n) M v2 v3 v5)) else if r104 = (nI 2) then x_bn (f_X2_bringGift_67_1 M r71) (fun r176 M => x_wr 100 M 76 r71 r176 (fun M => f_X2_goThrough_67_1_197 NC (f_X2_goThrough_67_1_54 NC n) M v2 v3 v5)) else x_bn (f_X2_bringBack_67_1 M r71) (fun r193 M => x_wr 100 M 76 r71 r193 (fun M => f_X2_goThrough_67_1_197 NC (f_X2_goThrough_67_1_54 NC n) M v2 v3 v5)))))))) := rfl
def f_X2_goThrough_67_1 (NC : Nat) (M : x_M) (a2 : Int32) (a3 : Int32) : Option (Unit × x_M) := x_pf M 67 9 (nI 0) (fun M => x_bn (f_J7_fill_53178_73 M (nI 0)) (fun _ M => x_bn (f_J7_fill_53178_74 M (nI 0)) (fun _ M => x_bn (f_J7_fill_53178_75 M (nI 0)) (fun _ M => x_bn (f_J7_fill_53178_76 M (nI 0)) (fun _ M => x_bn (f_J7_fill_53178_77 M (nI 0)) (fun _ M => f_X2_goThrough_67_1_54 NC x_FU M a2 a3 (nI 0)))))))
abbrev rm_X2_goThrough_67_1 : Room := { frames := 6, cells := 0, slots := 0, locals := 157 }
set_option maxHeartbeats 4000000 in
set_option maxRecDepth 100000 in
theorem c_X2_goThrough_67_1 {l : Launch} {D : va_G} {cy : Nat → ClassId} {q ad : Nat → Nat} {NC : Nat} {s0 : State} (hq : x_Q q NC s0.heap.size) (hN : 88 ≤ NC) {M : x_M} {a2 : Int32} {a3 : Int32} {z : Unit × x_M} (h : f_X2_goThrough_67_1 NC M a2 a3 = some z) : x_Cv l D cy q ad x_spX NC s0 yX2_goThrough (x_uw yX2_goThrough cX2_goThrough 7 none) rm_X2_goThrough_67_1 [.ref (q 67), .ref (q 1), .int a2, .int a3] M z.2 := by
  refine x_metv hq (by decide) (Nat.le_of_ble_eq_true rfl) ?_
  intro p e s m args below meth c ls Q C hret hl hw
  have hx := C.1.1
  have hb := C.1.2.1
  have ho := C.1.2.2.2.1
  have hL := C.1.2.2.2.2
  have hl : lv_has ls 7 [(0, .ref (q 67)), (1, .ref (q 1)), (2, .int a2), (3, .int a3)] := hl
  have w54 : ∀ (n : Nat) (M : x_M) (v2 : Int32) (v3 : Int32) (v5 : Int32) (H : Heap) (locs : List Loc) (ls : Array Slot), x_B D cy q ad x_spX NC s H locs M → lv_has ls 7 [(0, .ref (q 67)), (1, .ref (q 1)), (2, .int v2), (3, .int v3), (4, .ref (q 6)), (5, .int v5)] → f_X2_goThrough_67_1_54 NC n M v2 v3 v5 = some z → W p l e rm_X2_goThrough_67_1 s m args below meth c H locs 0 0 Q (F0 m 54 ls []) := by
    intro n
    induction n with
    | zero =>
      intro M v2 v3 v5 H locs ls hw hl h
      rw [f_X2_goThrough_67_1_54_0] at h
      cases h
    | succ n54 ih54 =>
      have w197 : ∀ (M : x_M) (v2 : Int32) (v3 : Int32) (v5 : Int32) (H : Heap) (locs : List Loc) (ls : Array Slot), x_B D cy q ad x_spX NC s H locs M → lv_has ls 7 [(0, .ref (q 67)), (1, .ref (q 1)), (2, .int v2), (3, .int v3), (4, .ref (q 6)), (5, .int v5)] → f_X2_goThrough_67_1_197 NC (f_X2_goThrough_67_1_54 NC n54) M v2 v3 v5 = some z → W p l e rm_X2_goThrough_67_1 s m args below meth c H locs 0 0 Q (F0 m 197 ls []) := by
        intro M v2 v3 v5 H locs ls hw hl h
        unfold f_X2_goThrough_67_1_197 at h
        refine lv_iinc (lv' := [(5, .int _), (0, .ref (q 67)), (1, .ref (q 1)), (2, .int _), (3, .int _), (4, .ref (q 6))]) hx hb dX2_goThrough_197 hl (k := 5) rfl (x_inc (show Int32.ofInt 1 = (nI 1) by decide) _) (by decide) rfl (fun ls hl => ?_)
        refine lv_goto (tgt := 54) hx hb dX2_goThrough_200 (by decide) ?_
        exact ih54 _ _ _ _ _ _ _ hw (lv_sub hl [1, 2, 3, 4, 5, 0] rfl) h
      intro M v2 v3 v5 H locs ls hw hl h
      rw [f_X2_goThrough_67_1_54_s] at h
      refine lv_iload hx hb dX2_goThrough_54 (lv_at hl 5 rfl) ?_
      refine lv_aload hx hb dX2_goThrough_56 (lv_at hl 4 rfl) ?_
      refine xh_geti C hw 6 9 h sX_6 (x_lt hN rfl) rfl rfl rfl lk_RX2_59 dX2_goThrough_58 (fun r58 h => ?_)
      refine x_icmp_ge (tgt := 203) hx hb h dX2_goThrough_61 (by decide) (fun h => ?_) (fun h => ?_)
      · exact hret dX2_goThrough_203 hw h
      · refine lv_aload hx hb dX2_goThrough_64 (lv_at hl 4 rfl) ?_
        refine xh_getr C hw 6 8 sX_6 (x_lt hN rfl) rfl rfl rfl lk_RX2_64 dX2_goThrough_66 ?_
        refine lv_iload hx hb dX2_goThrough_69 (lv_at hl 5 rfl) ?_
        refine xh_iald C hw 15 100 h sX_15 (x_lt hN rfl) dX2_goThrough_71 (fun r71 h => ?_)
        refine lv_istore (lv' := [(6, .int _), (0, .ref (q 67)), (1, .ref (q 1)), (2, .int _), (3, .int _), (4, .ref (q 6)), (5, .int _)]) hx hb dX2_goThrough_72 hl (by decide) rfl (fun ls hl => ?_)
        refine lv_aload hx hb dX2_goThrough_74 (lv_at hl 5 rfl) ?_
        refine xh_getr C hw 6 2 sX_6 (x_lt hN rfl) rfl rfl rfl lk_RX2_67 dX2_goThrough_76 ?_
        refine lv_iload hx hb dX2_goThrough_79 (lv_at hl 0 rfl) ?_
        refine xh_iald C hw 9 100 h sX_9 (x_lt hN rfl) dX2_goThrough_81 (fun r81 h => ?_)
        refine lv_iload_n hx hb dX2_goThrough_82 rfl (lv_at hl 3 rfl) ?_
        refine x_icmp_gt (tgt := 197) hx hb h dX2_goThrough_83 (by decide) (fun h => ?_) (fun h => ?_)
        · exact w197 _ _ _ _ _ _ _ hw (lv_sub hl [1, 2, 3, 4, 5, 6] rfl) h
        · refine lv_aload hx hb dX2_goThrough_86 (lv_at hl 5 rfl) ?_
          refine lv_iload hx hb dX2_goThrough_88 (lv_at hl 0 rfl) ?_
          refine lv_iload_n hx hb dX2_goThrough_90 rfl (lv_at hl 4 rfl) ?_
          refine xh_cVi C hw (rest := []) h (fun _ hy => c_X3_isKnown hq hN hy) ml_RX2_70 mv_X3_isKnown sX_6 (x_lt hN rfl) rfl ⟨rfl, rfl, by decide, by decide⟩ rfl hl.1 rfl (Nat.le_of_ble_eq_true rfl) dX2_goThrough_91 (fun H locs r91 M hw h => ?_)
          refine x_if_eq (tgt := 197) hx hb h dX2_goThrough_94 (by decide) (fun h => ?_) (fun h => ?_)
          · exact w197 _ _ _ _ _ _ _ hw (lv_sub hl [1, 2, 3, 4, 5, 6] rfl) h
          · refine lv_aload hx hb dX2_goThrough_97 (lv_at hl 5 rfl) ?_
            refine xh_getr C hw 6 0 sX_6 (x_lt hN rfl) rfl rfl rfl lk_RX2_74 dX2_goThrough_99 ?_
            refine lv_iload hx hb dX2_goThrough_102 (lv_at hl 0 rfl) ?_
            refine xh_iald C hw 7 100 h sX_7 (x_lt hN rfl) dX2_goThrough_104 (fun r104 h => ?_)
            refine (Decidable.em (r104 = (nI 0))).elim (fun c105_0 => ?_) (fun c105_0 => ?_)
            · rw [if_pos c105_0] at h
              rw [c105_0]
              refine lv_tableIn (off := 27) (tgt := 132) hx hb dX2_goThrough_105 (by decide) (by decide) (by decide) (by decide) ?_
              refine lv_aload_n hx hb dX2_goThrough_132 rfl (lv_at hl 1 rfl) ?_
              refine xh_getr C hw 67 7 sX_67 (x_lt hN rfl) rfl rfl rfl lk_RX2_37 dX2_goThrough_133 ?_
              refine lv_iload hx hb dX2_goThrough_136 (lv_at hl 0 rfl) ?_
              refine lv_aload_n hx hb dX2_goThrough_138 rfl (lv_at hl 1 rfl) ?_
              refine lv_aload_n hx hb dX2_goThrough_139 rfl (lv_at hl 2 rfl) ?_
              refine lv_iload hx hb dX2_goThrough_140 (lv_at hl 0 rfl) ?_
              refine xh_cVi C hw (rest := [_, _]) h (fun _ hy => c_X2_bringFly_67_1 hq hN hy) ml_RX2_77 mv_X2_bringFly sX_67 (x_lt hN rfl) rfl ⟨rfl, rfl, by decide, by decide⟩ rfl hl.1 rfl (Nat.le_of_ble_eq_true rfl) dX2_goThrough_142 (fun H locs r142 M hw h => ?_)
              refine xh_iast C hw 76 100 h sX_76 (x_lt hN rfl) dX2_goThrough_145 (fun H locs M hw h => ?_)
              refine lv_goto (tgt := 197) hx hb dX2_goThrough_146 (by decide) ?_
              exact w197 _ _ _ _ _ _ _ hw (lv_sub hl [1, 2, 3, 4, 5, 6] rfl) h
            rw [if_neg c105_0] at h
            refine (Decidable.em (r104 = (nI 1))).elim (fun c105_1 => ?_) (fun c105_1 => ?_)
            · rw [if_pos c105_1] at h
              rw [c105_1]
              refine lv_tableIn (off := 44) (tgt := 149) hx hb dX2_goThrough_105 (by decide) (by decide) (by decide) (by decide) ?_
              refine lv_aload_n hx hb dX2_goThrough_149 rfl (lv_at hl 1 rfl) ?_
              refine xh_getr C hw 67 7 sX_67 (x_lt hN rfl) rfl rfl rfl lk_RX2_37 dX2_goThrough_150 ?_
              refine lv_iload hx hb dX2_goThrough_153 (lv_at hl 0 rfl) ?_
              refine lv_aload_n hx hb dX2_goThrough_155 rfl (lv_at hl 1 rfl) ?_
              refine lv_aload_n hx hb dX2_goThrough_156 rfl (lv_at hl 2 rfl) ?_
              refine lv_iload hx hb dX2_goThrough_157 (lv_at hl 0 rfl) ?_
              refine xh_cVi C hw (rest := [_, _]) h (fun _ hy => c_X2_bringSpend_67_1 hq hN hy) ml_RX2_81 mv_X2_bringSpend sX_67 (x_lt hN rfl) rfl ⟨rfl, rfl, by decide, by decide⟩ rfl hl.1 rfl (Nat.le_of_ble_eq_true rfl) dX2_goThrough_159 (fun H locs r159 M hw h => ?_)
              refine xh_iast C hw 76 100 h sX_76 (x_lt hN rfl) dX2_goThrough_162 (fun H locs M hw h => ?_)
              refine lv_goto (tgt := 197) hx hb dX2_goThrough_163 (by decide) ?_
              exact w197 _ _ _ _ _ _ _ hw (lv_sub hl [1, 2, 3, 4, 5, 6] rfl) h
            rw [if_neg c105_1] at h
            refine (Decidable.em (r104 = (nI 2))).elim (fun c105_2 => ?_) (fun c105_2 => ?_)
            · rw [if_pos c105_2] at h
              rw [c105_2]
              refine lv_tableIn (off := 61) (tgt := 166) hx hb dX2_goThrough_105 (by decide) (by decide) (by decide) (by decide) ?_
              refine lv_aload_n hx hb dX2_goThrough_166 rfl (lv_at hl 1 rfl) ?_
              refine xh_getr C hw 67 7 sX_67 (x_lt hN rfl) rfl rfl rfl lk_RX2_37 dX2_goThrough_167 ?_
              refine lv_iload hx hb dX2_goThrough_170 (lv_at hl 0 rfl) ?_
              refine lv_aload_n hx hb dX2_goThrough_172 rfl (lv_at hl 1 rfl) ?_
              refine lv_aload_n hx hb dX2_goThrough_173 rfl (lv_at hl 2 rfl) ?_
              refine lv_iload hx hb dX2_goThrough_174 (lv_at hl 0 rfl) ?_
              refine xh_cVi C hw (rest := [_, _]) h (fun _ hy => c_X2_bringGift_67_1 hq hN hy) ml_RX2_84 mv_X2_bringGift sX_67 (x_lt hN rfl) rfl ⟨rfl, rfl, by decide, by decide⟩ rfl hl.1 rfl (Nat.le_of_ble_eq_true rfl) dX2_goThrough_176 (fun H locs r176 M hw h => ?_)
              refine xh_iast C hw 76 100 h sX_76 (x_lt hN rfl) dX2_goThrough_179 (fun H locs M hw h => ?_)
              refine lv_goto (tgt := 197) hx hb dX2_goThrough_180 (by decide) ?_
              exact w197 _ _ _ _ _ _ _ hw (lv_sub hl [1, 2, 3, 4, 5, 6] rfl) h
            rw [if_neg c105_2] at h
            refine lv_tableOut (tgt := 183) hx hb dX2_goThrough_105 (by have e0 := lv_neT c105_0 (show ((nI 0) : Int32).toInt = 0 by decide); have e1 := lv_neT c105_1 (show ((nI 1) : Int32).toInt = 1 by decide); have e2 := lv_neT c105_2 (show ((nI 2) : Int32).toInt = 2 by decide); omega) (by decide) ?_
            refine lv_aload_n hx hb dX2_goThrough_183 rfl (lv_at hl 1 rfl) ?_
            refine xh_getr C hw 67 7 sX_67 (x_lt hN rfl) rfl rfl rfl lk_RX2_37 dX2_goThrough_184 ?_
            refine lv_iload hx hb dX2_goThrough_187 (lv_at hl 0 rfl) ?_
            refine lv_aload_n hx hb dX2_goThrough_189 rfl (lv_at hl 1 rfl) ?_
            refine lv_aload_n hx hb dX2_goThrough_190 rfl (lv_at hl 2 rfl) ?_
            refine lv_iload hx hb dX2_goThrough_191 (lv_at hl 0 rfl) ?_
            refine xh_cVi C hw (rest := [_, _]) h (fun _ hy => c_X2_bringBack_67_1 hq hN hy) ml_RX2_87 mv_X2_bringBack sX_67 (x_lt hN rfl) rfl ⟨rfl, rfl, by decide, by decide⟩ rfl hl.1 rfl (Nat.le_of_ble_eq_true rfl) dX2_goThrough_193 (fun H locs r193 M hw h => ?_)
            refine xh_iast C hw 76 100 h sX_76 (x_lt hN rfl) dX2_goThrough_196 (fun H locs M hw h => ?_)
            exact w197 _ _ _ _ _ _ _ hw (lv_sub hl [1, 2, 3, 4, 5, 6] rfl) h
  unfold f_X2_goThrough_67_1 at h
  refine lv_aload_n hx hb dX2_goThrough_0 rfl (lv_at hl 0 rfl) ?_
  refine lv_iconst (v := (nI 0)) hx hb dX2_goThrough_1 (by decide) ?_
  refine xh_puti C hw 67 9 h sX_67 (x_lt hN rfl) rfl rfl rfl lk_RX2_43 rfl rfl dX2_goThrough_2 (fun H locs M hw h => ?_)
  refine lv_aload_n hx hb dX2_goThrough_5 rfl (lv_at hl 0 rfl) ?_
  refine xh_getr C hw 67 4 sX_67 (x_lt hN rfl) rfl rfl rfl lk_RX2_28 dX2_goThrough_6 ?_
  refine lv_iconst (v := (nI 0)) hx hb dX2_goThrough_9 (by decide) ?_
  refine xh_cSv C hw (rest := []) h (fun _ hy => c_J7_fill_53178_73 hq hN hy) ml_RX2_47 st_J7_fill_53178 ⟨rfl, rfl, by decide, by decide⟩ rfl hl.1 rfl (Nat.le_of_ble_eq_true rfl) dX2_goThrough_10 (fun H locs _ M hw h => ?_)
  refine lv_aload_n hx hb dX2_goThrough_13 rfl (lv_at hl 0 rfl) ?_
  refine xh_getr C hw 67 5 sX_67 (x_lt hN rfl) rfl rfl rfl lk_RX2_31 dX2_goThrough_14 ?_
  refine lv_iconst (v := (nI 0)) hx hb dX2_goThrough_17 (by decide) ?_
  refine xh_cSv C hw (rest := []) h (fun _ hy => c_J7_fill_53178_74 hq hN hy) ml_RX2_47 st_J7_fill_53178 ⟨rfl, rfl, by decide, by decide⟩ rfl hl.1 rfl (Nat.le_of_ble_eq_true rfl) dX2_goThrough_18 (fun H locs _ M hw h => ?_)
  refine lv_aload_n hx hb dX2_goThrough_21 rfl (lv_at hl 0 rfl) ?_
  refine xh_getr C hw 67 6 sX_67 (x_lt hN rfl) rfl rfl rfl lk_RX2_34 dX2_goThrough_22 ?_
  refine lv_iconst (v := (nI 0)) hx hb dX2_goThrough_25 (by decide) ?_
  refine xh_cSv C hw (rest := []) h (fun _ hy => c_J7_fill_53178_75 hq hN hy) ml_RX2_47 st_J7_fill_53178 ⟨rfl, rfl, by decide, by decide⟩ rfl hl.1 rfl (Nat.le_of_ble_eq_true rfl) dX2_goThrough_26 (fun H locs _ M hw h => ?_)
  refine lv_aload_n hx hb dX2_goThrough_29 rfl (lv_at hl 0 rfl) ?_
  refine xh_getr C hw 67 7 sX_67 (x_lt hN rfl) rfl rfl rfl lk_RX2_37 dX2_goThrough_30 ?_
  refine lv_iconst (v := (nI 0)) hx hb dX2_goThrough_33 (by decide) ?_
  refine xh_cSv C hw (rest := []) h (fun _ hy => c_J7_fill_53178_76 hq hN hy) ml_RX2_47 st_J7_fill_53178 ⟨rfl, rfl, by decide, by decide⟩ rfl hl.1 rfl (Nat.le_of_ble_eq_true rfl) dX2_goThrough_34 (fun H locs _ M hw h => ?_)
  refine lv_aload_n hx hb dX2_goThrough_37 rfl (lv_at hl 0 rfl) ?_
  refine xh_getr C hw 67 8 sX_67 (x_lt hN rfl) rfl rfl rfl lk_RX2_40 dX2_goThrough_38 ?_
  refine lv_iconst (v := (nI 0)) hx hb dX2_goThrough_41 (by decide) ?_
  refine xh_cSv C hw (rest := []) h (fun _ hy => c_J7_fill_53178_77 hq hN hy) ml_RX2_47 st_J7_fill_53178 ⟨rfl, rfl, by decide, by decide⟩ rfl hl.1 rfl (Nat.le_of_ble_eq_true rfl) dX2_goThrough_42 (fun H locs _ M hw h => ?_)
  refine lv_aload_n hx hb dX2_goThrough_45 rfl (lv_at hl 1 rfl) ?_
  refine xh_getr C hw 1 1 sX_1 (x_lt hN rfl) rfl rfl rfl lk_RX2_53 dX2_goThrough_46 ?_
  refine lv_astore (lv' := [(4, .ref (q 6)), (0, .ref (q 67)), (1, .ref (q 1)), (2, .int _), (3, .int _)]) hx hb dX2_goThrough_49 hl (by decide) rfl (fun ls hl => ?_)
  refine lv_iconst (v := (nI 0)) hx hb dX2_goThrough_51 (by decide) ?_
  refine lv_istore (lv' := [(5, .int _), (4, .ref (q 6)), (0, .ref (q 67)), (1, .ref (q 1)), (2, .int _), (3, .int _)]) hx hb dX2_goThrough_52 hl (by decide) rfl (fun ls hl => ?_)
  exact w54 _ _ _ _ _ _ _ _ hw (lv_sub hl [2, 3, 4, 5, 1, 0] rfl) h
def f_X2_lapsing_53 (k6 : x_M → Int32 → Int32 → Int32 → Int32 → Int32 → Option (Int32 × x_M)) (M : x_M) (v1 : Int32) (v2 : Int32) (v3 : Int32) (v4 : Int32) (v5 : Int32) : Option (Int32 × x_M) := k6 M v1 v2 v3 v4 (v5 + (nI 1))
def f_X2_lapsing_6 : Nat → x_M → Int32 → Int32 → Int32 → Int32 → Int32 → Option (Int32 × x_M)
  | 0, _, _, _, _, _, _ => none
  | n + 1, M, v1, v2, v3, v4, v5 => x_gf M 67 9 (fun r9 => if r9 ≤ v5 then some (v4, M) else x_rd 100 (M 70) v5 (fun r21 => if r21 = v1 then x_rd 100 (M 72) v5 (fun r32 => x_bn (f_X11_within M r32 v2 v3) (fun r35 M => if r35 = 0 then f_X2_lapsing_53 (f_X2_lapsing_6 n) M v1 v2 v3 v4 v5 else x_rd 100 (M 71) v5 (fun r49 => f_X2_lapsing_53 (f_X2_lapsing_6 n) M v1 v2 v3 (v4 + r49) v5))) else f_X2_lapsing_53 (f_X2_lapsing_6 n) M v1 v2 v3 v4 v5))
theorem f_X2_lapsing_6_0 (M : x_M) (v1 : Int32) (v2 : Int32) (v3 : Int32) (v4 : Int32) (v5 : Int32) : f_X2_lapsing_6 0 M v1 v2 v3 v4 v5 = none := rfl
theorem f_X2_lapsing_6_s (n : Nat) (M : x_M) (v1 : Int32) (v2 : Int32) (v3 : Int32) (v4 : Int32) (v5 : Int32) : f_X2_lapsing_6 (n + 1) M v1 v2 v3 v4 v5 = (x_gf M 67 9 (fun r9 => if r9 ≤ v5 then some (v4, M) else x_rd 100 (M 70) v5 (fun r21 => if r21 = v1 then x_rd 100 (M 72) v5 (fun r32 => x_bn (f_X11_within M r32 v2 v3) (fun r35 M => if r35 = 0 then f_X2_lapsing_53 (f_X2_lapsing_6 n) M v1 v2 v3 v4 v5 else x_rd 100 (M 71) v5 (fun r49 => f_X2_lapsing_53 (f_X2_lapsing_6 n) M v1 v2 v3 (v4 + r49) v5))) else f_X2_lapsing_53 (f_X2_lapsing_6 n) M v1 v2 v3 v4 v5))) := rfl
def f_X2_lapsing (M : x_M) (a1 : Int32) (a2 : Int32) (a3 : Int32) : Option (Int32 × x_M) := f_X2_lapsing_6 x_FU M a1 a2 a3 (nI 0) (nI 0)
abbrev rm_X2_lapsing : Room := { frames := 1, cells := 0, slots := 0, locals := 22 }
set_option maxHeartbeats 4000000 in
set_option maxRecDepth 100000 in
theorem c_X2_lapsing {l : Launch} {D : va_G} {cy : Nat → ClassId} {q ad : Nat → Nat} {NC : Nat} {s0 : State} (hq : x_Q q NC s0.heap.size) (hN : 88 ≤ NC) {M : x_M} {a1 : Int32} {a2 : Int32} {a3 : Int32} {z : Int32 × x_M} (h : f_X2_lapsing M a1 a2 a3 = some z) : x_Ci l D cy q ad x_spX NC s0 yX2_lapsing (x_uw yX2_lapsing cX2_lapsing 6 (some .int)) rm_X2_lapsing [.ref (q 67), .int a1, .int a2, .int a3] M z.1 z.2 := by
  refine x_meti hq (by decide) (Nat.le_of_ble_eq_true rfl) ?_
  intro p e s m args below meth c ls Q C hret hl hw
  have hx := C.1.1
  have hb := C.1.2.1
  have ho := C.1.2.2.2.1
  have hL := C.1.2.2.2.2
  have hl : lv_has ls 6 [(0, .ref (q 67)), (1, .int a1), (2, .int a2), (3, .int a3)] := hl
  have w6 : ∀ (n : Nat) (M : x_M) (v1 : Int32) (v2 : Int32) (v3 : Int32) (v4 : Int32) (v5 : Int32) (H : Heap) (locs : List Loc) (ls : Array Slot), x_B D cy q ad x_spX NC s H locs M → lv_has ls 6 [(0, .ref (q 67)), (1, .int v1), (2, .int v2), (3, .int v3), (4, .int v4), (5, .int v5)] → f_X2_lapsing_6 n M v1 v2 v3 v4 v5 = some z → W p l e rm_X2_lapsing s m args below meth c H locs 0 0 Q (F0 m 6 ls []) := by
    intro n
    induction n with
    | zero =>
      intro M v1 v2 v3 v4 v5 H locs ls hw hl h
      rw [f_X2_lapsing_6_0] at h
      cases h
    | succ n6 ih6 =>
      have w53 : ∀ (M : x_M) (v1 : Int32) (v2 : Int32) (v3 : Int32) (v4 : Int32) (v5 : Int32) (H : Heap) (locs : List Loc) (ls : Array Slot), x_B D cy q ad x_spX NC s H locs M → lv_has ls 6 [(0, .ref (q 67)), (1, .int v1), (2, .int v2), (3, .int v3), (4, .int v4), (5, .int v5)] → f_X2_lapsing_53 (f_X2_lapsing_6 n6) M v1 v2 v3 v4 v5 = some z → W p l e rm_X2_lapsing s m args below meth c H locs 0 0 Q (F0 m 53 ls []) := by
        intro M v1 v2 v3 v4 v5 H locs ls hw hl h
        unfold f_X2_lapsing_53 at h
        refine lv_iinc (lv' := [(5, .int _), (0, .ref (q 67)), (1, .int _), (2, .int _), (3, .int _), (4, .int _)]) hx hb dX2_lapsing_53 hl (k := 5) rfl (x_inc (show Int32.ofInt 1 = (nI 1) by decide) _) (by decide) rfl (fun ls hl => ?_)
        refine lv_goto (tgt := 6) hx hb dX2_lapsing_56 (by decide) ?_
        exact ih6 _ _ _ _ _ _ _ _ _ hw (lv_sub hl [1, 2, 3, 4, 5, 0] rfl) h
      intro M v1 v2 v3 v4 v5 H locs ls hw hl h
      rw [f_X2_lapsing_6_s] at h
      refine lv_iload hx hb dX2_lapsing_6 (lv_at hl 5 rfl) ?_
      refine lv_aload_n hx hb dX2_lapsing_8 rfl (lv_at hl 0 rfl) ?_
      refine xh_geti C hw 67 9 h sX_67 (x_lt hN rfl) rfl rfl rfl lk_RX2_43 dX2_lapsing_9 (fun r9 h => ?_)
      refine x_icmp_ge (tgt := 59) hx hb h dX2_lapsing_12 (by decide) (fun h => ?_) (fun h => ?_)
      · refine lv_iload hx hb dX2_lapsing_59 (lv_at hl 4 rfl) ?_
        exact hret dX2_lapsing_61 rfl hw h
      · refine lv_aload_n hx hb dX2_lapsing_15 rfl (lv_at hl 0 rfl) ?_
        refine xh_getr C hw 67 1 sX_67 (x_lt hN rfl) rfl rfl rfl lk_RX2_18 dX2_lapsing_16 ?_
        refine lv_iload hx hb dX2_lapsing_19 (lv_at hl 5 rfl) ?_
        refine xh_iald C hw 70 100 h sX_70 (x_lt hN rfl) dX2_lapsing_21 (fun r21 h => ?_)
        refine lv_iload_n hx hb dX2_lapsing_22 rfl (lv_at hl 1 rfl) ?_
        refine x_icmp_ne (tgt := 53) hx hb h dX2_lapsing_23 (by decide) (fun h => ?_) (fun h => ?_)
        · refine lv_aload_n hx hb dX2_lapsing_26 rfl (lv_at hl 0 rfl) ?_
          refine xh_getr C hw 67 3 sX_67 (x_lt hN rfl) rfl rfl rfl lk_RX2_25 dX2_lapsing_27 ?_
          refine lv_iload hx hb dX2_lapsing_30 (lv_at hl 5 rfl) ?_
          refine xh_iald C hw 72 100 h sX_72 (x_lt hN rfl) dX2_lapsing_32 (fun r32 h => ?_)
          refine lv_iload_n hx hb dX2_lapsing_33 rfl (lv_at hl 2 rfl) ?_
          refine lv_iload_n hx hb dX2_lapsing_34 rfl (lv_at hl 3 rfl) ?_
          refine xh_cNi C hw (n := 3) (rest := []) h (fun _ hy => c_X11_within hq hN hy) (host := "MilesHall") ⟨by decide +kernel, ii_RX11, cd_X11_within⟩ (by decide +kernel) st_X11_within ⟨rfl, rfl, by decide, by decide⟩ rfl hl.1 rfl (Nat.le_of_ble_eq_true rfl) dX2_lapsing_35 (fun H locs r35 M hw h => ?_)
          refine x_if_eq (tgt := 53) hx hb h dX2_lapsing_38 (by decide) (fun h => ?_) (fun h => ?_)
          · exact w53 _ _ _ _ _ _ _ _ _ hw (lv_sub hl [0, 1, 2, 3, 4, 5] rfl) h
          · refine lv_iload hx hb dX2_lapsing_41 (lv_at hl 4 rfl) ?_
            refine lv_aload_n hx hb dX2_lapsing_43 rfl (lv_at hl 0 rfl) ?_
            refine xh_getr C hw 67 2 sX_67 (x_lt hN rfl) rfl rfl rfl lk_RX2_22 dX2_lapsing_44 ?_
            refine lv_iload hx hb dX2_lapsing_47 (lv_at hl 5 rfl) ?_
            refine xh_iald C hw 71 100 h sX_71 (x_lt hN rfl) dX2_lapsing_49 (fun r49 h => ?_)
            refine lv_iadd hx hb dX2_lapsing_50 ?_
            refine lv_istore (lv' := [(4, .int _), (0, .ref (q 67)), (1, .int _), (2, .int _), (3, .int _), (5, .int _)]) hx hb dX2_lapsing_51 hl (by decide) rfl (fun ls hl => ?_)
            exact w53 _ _ _ _ _ _ _ _ _ hw (lv_sub hl [1, 2, 3, 4, 0, 5] rfl) h
        · exact w53 _ _ _ _ _ _ _ _ _ hw (lv_sub hl [0, 1, 2, 3, 4, 5] rfl) h
  unfold f_X2_lapsing at h
  refine lv_iconst (v := (nI 0)) hx hb dX2_lapsing_0 (by decide) ?_
  refine lv_istore (lv' := [(4, .int _), (0, .ref (q 67)), (1, .int _), (2, .int _), (3, .int _)]) hx hb dX2_lapsing_1 hl (by decide) rfl (fun ls hl => ?_)
  refine lv_iconst (v := (nI 0)) hx hb dX2_lapsing_3 (by decide) ?_
  refine lv_istore (lv' := [(5, .int _), (4, .int _), (0, .ref (q 67)), (1, .int _), (2, .int _), (3, .int _)]) hx hb dX2_lapsing_4 hl (by decide) rfl (fun ls hl => ?_)
  exact w6 _ _ _ _ _ _ _ _ _ _ hw (lv_sub hl [2, 3, 4, 5, 1, 0] rfl) h
def f_X11_stands_32 (NC : Nat) (M : x_M) : Option (Int32 × x_M) := some ((-1000000001), M)
def f_X11_stands (NC : Nat) (M : x_M) (a1 : Int32) (a2 : Int32) (a3 : Int32) (a4 : Int32) : Option (Int32 × x_M) := x_bn (f_X11_isMember M a1) (fun r2 M => if r2 = 0 then f_X11_stands_32 NC M else x_bn (f_X11_isDay M a2) (fun r9 M => if r9 = 0 then f_X11_stands_32 NC M else x_bn (f_X11_isDay M a3) (fun r16 M => if r16 = 0 then f_X11_stands_32 NC M else x_bn (f_X11_within M a4 (nI 0) (nI 4)) (fun r26 M => if r26 = 0 then f_X11_stands_32 NC M else x_bn (f_X2_goThrough_67_1 NC M a2 a3) (fun _ M => if a4 = (nI 0) then x_bn (f_X2_lapsing M a1 (a2 + (nI 1)) (nI 11199)) (fun r91 M => some (r91, M)) else if a4 = (nI 1) then x_dv (nI 360) (x_bn (f_X2_pointsOf M a1 (a2 / (nI 360))) (fun r105 M => some (r105, M))) else if a4 = (nI 2) then x_bn (f_X2_tierOf_67_1 NC M a1 a2) (fun r119 M => some (r119, M)) else if a4 = (nI 3) then x_rd 3 (M 31) (nI 2) (fun r140 => x_bn (f_X2_lapsing M a1 (a2 + (nI 1)) (a2 + r140)) (fun r142 M => some (r142, M))) else x_bn (f_X2_lapsing M a1 (nI 0) a2) (fun r153 M => some (r153, M)))))))
abbrev rm_X11_stands : Room := { frames := 7, cells := 0, slots := 0, locals := 183 }
set_option maxHeartbeats 4000000 in
set_option maxRecDepth 100000 in
theorem c_X11_stands {l : Launch} {D : va_G} {cy : Nat → ClassId} {q ad : Nat → Nat} {NC : Nat} {s0 : State} (hq : x_Q q NC s0.heap.size) (hN : 88 ≤ NC) {M : x_M} {a1 : Int32} {a2 : Int32} {a3 : Int32} {a4 : Int32} {z : Int32 × x_M} (h : f_X11_stands NC M a1 a2 a3 a4 = some z) : x_Ci l D cy q ad x_spX NC s0 yX11_stands (x_uw yX11_stands cX11_stands 5 (some .int)) rm_X11_stands [.ref (q 0), .int a1, .int a2, .int a3, .int a4] M z.1 z.2 := by
  refine x_meti hq (by decide) (Nat.le_of_ble_eq_true rfl) ?_
  intro p e s m args below meth c ls Q C hret hl hw
  have hx := C.1.1
  have hb := C.1.2.1
  have ho := C.1.2.2.2.1
  have hL := C.1.2.2.2.2
  have hl : lv_has ls 5 [(0, .ref (q 0)), (1, .int a1), (2, .int a2), (3, .int a3), (4, .int a4)] := hl
  have w32 : ∀ (M : x_M) (H : Heap) (locs : List Loc) (ls : Array Slot), x_B D cy q ad x_spX NC s H locs M → lv_has ls 5 [] → f_X11_stands_32 NC M = some z → W p l e rm_X11_stands s m args below meth c H locs 0 0 Q (F0 m 32 ls []) := by
    intro M H locs ls hw hl h
    unfold f_X11_stands_32 at h
    refine lv_ldc hx hb ho (hL _ kc_RX11_58) dX11_stands_32 ?_
    exact hret dX11_stands_34 rfl hw h
  unfold f_X11_stands at h
  refine lv_aload_n hx hb dX11_stands_0 rfl (lv_at hl 0 rfl) ?_
  refine lv_iload_n hx hb dX11_stands_1 rfl (lv_at hl 1 rfl) ?_
  refine xh_cVi C hw (rest := []) h (fun _ hy => c_X11_isMember hq hN hy) ml_RX11_69 mv_X11_isMember sX_0 (x_lt hN rfl) rfl ⟨rfl, rfl, by decide, by decide⟩ rfl hl.1 rfl (Nat.le_of_ble_eq_true rfl) dX11_stands_2 (fun H locs r2 M hw h => ?_)
  refine x_if_eq (tgt := 32) hx hb h dX11_stands_5 (by decide) (fun h => ?_) (fun h => ?_)
  · exact w32 _ _ _ _ hw (lv_sub hl [] rfl) h
  · refine lv_iload_n hx hb dX11_stands_8 rfl (lv_at hl 2 rfl) ?_
    refine xh_cSi C hw (rest := []) h (fun _ hy => c_X11_isDay hq hN hy) ml_RX11_151 st_X11_isDay ⟨rfl, rfl, by decide, by decide⟩ rfl hl.1 rfl (Nat.le_of_ble_eq_true rfl) dX11_stands_9 (fun H locs r9 M hw h => ?_)
    refine x_if_eq (tgt := 32) hx hb h dX11_stands_12 (by decide) (fun h => ?_) (fun h => ?_)
    · exact w32 _ _ _ _ hw (lv_sub hl [] rfl) h
    · refine lv_iload_n hx hb dX11_stands_15 rfl (lv_at hl 3 rfl) ?_
      refine xh_cSi C hw (rest := []) h (fun _ hy => c_X11_isDay hq hN hy) ml_RX11_151 st_X11_isDay ⟨rfl, rfl, by decide, by decide⟩ rfl hl.1 rfl (Nat.le_of_ble_eq_true rfl) dX11_stands_16 (fun H locs r16 M hw h => ?_)
      refine x_if_eq (tgt := 32) hx hb h dX11_stands_19 (by decide) (fun h => ?_) (fun h => ?_)
      · exact w32 _ _ _ _ hw (lv_sub hl [] rfl) h
      · refine lv_iload hx hb dX11_stands_22 (lv_at hl 4 rfl) ?_
        refine lv_iconst (v := (nI 0)) hx hb dX11_stands_24 (by decide) ?_
        refine lv_iconst (v := (nI 4)) hx hb dX11_stands_25 (by decide) ?_
        refine xh_cSi C hw (rest := []) h (fun _ hy => c_X11_within hq hN hy) ml_RX11_54 st_X11_within ⟨rfl, rfl, by decide, by decide⟩ rfl hl.1 rfl (Nat.le_of_ble_eq_true rfl) dX11_stands_26 (fun H locs r26 M hw h => ?_)
        refine x_if_ne (tgt := 35) hx hb h dX11_stands_29 (by decide) (fun h => ?_) (fun h => ?_)
        · exact w32 _ _ _ _ hw (lv_sub hl [] rfl) h
        · refine lv_aload_n hx hb dX11_stands_35 rfl (lv_at hl 0 rfl) ?_
          refine xh_getr C hw 0 2 sX_0 (x_lt hN rfl) rfl rfl rfl lk_RX11_22 dX11_stands_36 ?_
          refine lv_aload_n hx hb dX11_stands_39 rfl (lv_at hl 0 rfl) ?_
          refine xh_getr C hw 0 0 sX_0 (x_lt hN rfl) rfl rfl rfl lk_RX11_12 dX11_stands_40 ?_
          refine lv_iload_n hx hb dX11_stands_43 rfl (lv_at hl 2 rfl) ?_
          refine lv_iload_n hx hb dX11_stands_44 rfl (lv_at hl 3 rfl) ?_
          refine xh_cVv C hw (rest := []) h (fun _ hy => c_X2_goThrough_67_1 hq hN hy) ml_RX11_154 mv_X2_goThrough sX_67 (x_lt hN rfl) rfl ⟨rfl, rfl, by decide, by decide⟩ rfl hl.1 rfl (Nat.le_of_ble_eq_true rfl) dX11_stands_45 (fun H locs _ M hw h => ?_)
          refine lv_iload hx hb dX11_stands_48 (lv_at hl 4 rfl) ?_
          refine (Decidable.em (a4 = (nI 0))).elim (fun c50_0 => ?_) (fun c50_0 => ?_)
          · rw [if_pos c50_0] at h
            rw [c50_0]
            refine lv_tableIn (off := 30) (tgt := 80) hx hb dX11_stands_50 (by decide) (by decide) (by decide) (by decide) ?_
            refine lv_aload_n hx hb dX11_stands_80 rfl (lv_at hl 0 rfl) ?_
            refine xh_getr C hw 0 2 sX_0 (x_lt hN rfl) rfl rfl rfl lk_RX11_22 dX11_stands_81 ?_
            refine lv_iload_n hx hb dX11_stands_84 rfl (lv_at hl 1 rfl) ?_
            refine lv_iload_n hx hb dX11_stands_85 rfl (lv_at hl 2 rfl) ?_
            refine lv_iconst (v := (nI 1)) hx hb dX11_stands_86 (by decide) ?_
            refine lv_iadd hx hb dX11_stands_87 ?_
            refine lv_sipush (v := (nI 11199)) hx hb dX11_stands_88 (by decide) ?_
            refine xh_cVi C hw (rest := []) h (fun _ hy => c_X2_lapsing hq hN hy) ml_RX11_158 mv_X2_lapsing sX_67 (x_lt hN rfl) rfl ⟨rfl, rfl, by decide, by decide⟩ rfl hl.1 rfl (Nat.le_of_ble_eq_true rfl) dX11_stands_91 (fun H locs r91 M hw h => ?_)
            exact hret dX11_stands_94 rfl hw h
          rw [if_neg c50_0] at h
          refine (Decidable.em (a4 = (nI 1))).elim (fun c50_1 => ?_) (fun c50_1 => ?_)
          · rw [if_pos c50_1] at h
            rw [c50_1]
            refine lv_tableIn (off := 45) (tgt := 95) hx hb dX11_stands_50 (by decide) (by decide) (by decide) (by decide) ?_
            refine lv_aload_n hx hb dX11_stands_95 rfl (lv_at hl 0 rfl) ?_
            refine xh_getr C hw 0 2 sX_0 (x_lt hN rfl) rfl rfl rfl lk_RX11_22 dX11_stands_96 ?_
            refine lv_iload_n hx hb dX11_stands_99 rfl (lv_at hl 1 rfl) ?_
            refine lv_iload_n hx hb dX11_stands_100 rfl (lv_at hl 2 rfl) ?_
            refine lv_sipush (v := (nI 360)) hx hb dX11_stands_101 (by decide) ?_
            refine xh_idiv hx hb h dX11_stands_104 (fun h => ?_)
            refine xh_cVi C hw (rest := []) h (fun _ hy => c_X2_pointsOf hq hN hy) ml_RX11_162 mv_X2_pointsOf sX_67 (x_lt hN rfl) rfl ⟨rfl, rfl, by decide, by decide⟩ rfl hl.1 rfl (Nat.le_of_ble_eq_true rfl) dX11_stands_105 (fun H locs r105 M hw h => ?_)
            exact hret dX11_stands_108 rfl hw h
          rw [if_neg c50_1] at h
          refine (Decidable.em (a4 = (nI 2))).elim (fun c50_2 => ?_) (fun c50_2 => ?_)
          · rw [if_pos c50_2] at h
            rw [c50_2]
            refine lv_tableIn (off := 59) (tgt := 109) hx hb dX11_stands_50 (by decide) (by decide) (by decide) (by decide) ?_
            refine lv_aload_n hx hb dX11_stands_109 rfl (lv_at hl 0 rfl) ?_
            refine xh_getr C hw 0 2 sX_0 (x_lt hN rfl) rfl rfl rfl lk_RX11_22 dX11_stands_110 ?_
            refine lv_aload_n hx hb dX11_stands_113 rfl (lv_at hl 0 rfl) ?_
            refine xh_getr C hw 0 0 sX_0 (x_lt hN rfl) rfl rfl rfl lk_RX11_12 dX11_stands_114 ?_
            refine lv_iload_n hx hb dX11_stands_117 rfl (lv_at hl 1 rfl) ?_
            refine lv_iload_n hx hb dX11_stands_118 rfl (lv_at hl 2 rfl) ?_
            refine xh_cVi C hw (rest := []) h (fun _ hy => c_X2_tierOf_67_1 hq hN hy) ml_RX11_165 mv_X2_tierOf sX_67 (x_lt hN rfl) rfl ⟨rfl, rfl, by decide, by decide⟩ rfl hl.1 rfl (Nat.le_of_ble_eq_true rfl) dX11_stands_119 (fun H locs r119 M hw h => ?_)
            exact hret dX11_stands_122 rfl hw h
          rw [if_neg c50_2] at h
          refine (Decidable.em (a4 = (nI 3))).elim (fun c50_3 => ?_) (fun c50_3 => ?_)
          · rw [if_pos c50_3] at h
            rw [c50_3]
            refine lv_tableIn (off := 73) (tgt := 123) hx hb dX11_stands_50 (by decide) (by decide) (by decide) (by decide) ?_
            refine lv_aload_n hx hb dX11_stands_123 rfl (lv_at hl 0 rfl) ?_
            refine xh_getr C hw 0 2 sX_0 (x_lt hN rfl) rfl rfl rfl lk_RX11_22 dX11_stands_124 ?_
            refine lv_iload_n hx hb dX11_stands_127 rfl (lv_at hl 1 rfl) ?_
            refine lv_iload_n hx hb dX11_stands_128 rfl (lv_at hl 2 rfl) ?_
            refine lv_iconst (v := (nI 1)) hx hb dX11_stands_129 (by decide) ?_
            refine lv_iadd hx hb dX11_stands_130 ?_
            refine lv_iload_n hx hb dX11_stands_131 rfl (lv_at hl 2 rfl) ?_
            refine lv_aload_n hx hb dX11_stands_132 rfl (lv_at hl 0 rfl) ?_
            refine xh_getr C hw 0 0 sX_0 (x_lt hN rfl) rfl rfl rfl lk_RX11_12 dX11_stands_133 ?_
            refine xh_getr C hw 1 5 sX_1 (x_lt hN rfl) rfl rfl rfl lk_RX11_106 dX11_stands_136 ?_
            refine lv_iconst (v := (nI 2)) hx hb dX11_stands_139 (by decide) ?_
            refine xh_iald C hw 31 3 h sX_31 (x_lt hN rfl) dX11_stands_140 (fun r140 h => ?_)
            refine lv_iadd hx hb dX11_stands_141 ?_
            refine xh_cVi C hw (rest := []) h (fun _ hy => c_X2_lapsing hq hN hy) ml_RX11_158 mv_X2_lapsing sX_67 (x_lt hN rfl) rfl ⟨rfl, rfl, by decide, by decide⟩ rfl hl.1 rfl (Nat.le_of_ble_eq_true rfl) dX11_stands_142 (fun H locs r142 M hw h => ?_)
            exact hret dX11_stands_145 rfl hw h
          rw [if_neg c50_3] at h
          refine lv_tableOut (tgt := 146) hx hb dX11_stands_50 (by have e0 := lv_neT c50_0 (show ((nI 0) : Int32).toInt = 0 by decide); have e1 := lv_neT c50_1 (show ((nI 1) : Int32).toInt = 1 by decide); have e2 := lv_neT c50_2 (show ((nI 2) : Int32).toInt = 2 by decide); have e3 := lv_neT c50_3 (show ((nI 3) : Int32).toInt = 3 by decide); omega) (by decide) ?_
          refine lv_aload_n hx hb dX11_stands_146 rfl (lv_at hl 0 rfl) ?_
          refine xh_getr C hw 0 2 sX_0 (x_lt hN rfl) rfl rfl rfl lk_RX11_22 dX11_stands_147 ?_
          refine lv_iload_n hx hb dX11_stands_150 rfl (lv_at hl 1 rfl) ?_
          refine lv_iconst (v := (nI 0)) hx hb dX11_stands_151 (by decide) ?_
          refine lv_iload_n hx hb dX11_stands_152 rfl (lv_at hl 2 rfl) ?_
          refine xh_cVi C hw (rest := []) h (fun _ hy => c_X2_lapsing hq hN hy) ml_RX11_158 mv_X2_lapsing sX_67 (x_lt hN rfl) rfl ⟨rfl, rfl, by decide, by decide⟩ rfl hl.1 rfl (Nat.le_of_ble_eq_true rfl) dX11_stands_153 (fun H locs r153 M hw h => ?_)
          exact hret dX11_stands_156 rfl hw h
def f_X11_brought_22 (NC : Nat) (M : x_M) : Option (Int32 × x_M) := some ((-1000000001), M)
def f_X11_brought_56 (NC : Nat) (M : x_M) : Option (Int32 × x_M) := some ((-1000000002), M)
def f_X11_brought (NC : Nat) (M : x_M) (a1 : Int32) (a2 : Int32) (a3 : Int32) : Option (Int32 × x_M) := x_bn (f_X11_isLine M a1) (fun r2 M => if r2 = 0 then f_X11_brought_22 NC M else x_bn (f_X11_isDay M a2) (fun r9 M => if r9 = 0 then f_X11_brought_22 NC M else x_bn (f_X11_isDay M a3) (fun r16 M => if r16 = 0 then f_X11_brought_22 NC M else x_bn (f_X3_isKnown M a1 a3) (fun r34 M => if r34 = 0 then f_X11_brought_56 NC M else x_rd 100 (M 9) a1 (fun r51 => if r51 ≤ a2 then x_bn (f_X2_goThrough_67_1 NC M a2 a3) (fun _ M => x_rd 100 (M 76) a1 (fun r80 => some (r80, M))) else f_X11_brought_56 NC M)))))
abbrev rm_X11_brought : Room := { frames := 7, cells := 0, slots := 0, locals := 183 }
set_option maxHeartbeats 4000000 in
set_option maxRecDepth 100000 in
theorem c_X11_brought {l : Launch} {D : va_G} {cy : Nat → ClassId} {q ad : Nat → Nat} {NC : Nat} {s0 : State} (hq : x_Q q NC s0.heap.size) (hN : 88 ≤ NC) {M : x_M} {a1 : Int32} {a2 : Int32} {a3 : Int32} {z : Int32 × x_M} (h : f_X11_brought NC M a1 a2 a3 = some z) : x_Ci l D cy q ad x_spX NC s0 yX11_brought (x_uw yX11_brought cX11_brought 4 (some .int)) rm_X11_brought [.ref (q 0), .int a1, .int a2, .int a3] M z.1 z.2 := by
  refine x_meti hq (by decide) (Nat.le_of_ble_eq_true rfl) ?_
  intro p e s m args below meth c ls Q C hret hl hw
  have hx := C.1.1
  have hb := C.1.2.1
  have ho := C.1.2.2.2.1
  have hL := C.1.2.2.2.2
  have hl : lv_has ls 4 [(0, .ref (q 0)), (1, .int a1), (2, .int a2), (3, .int a3)] := hl
  have w22 : ∀ (M : x_M) (H : Heap) (locs : List Loc) (ls : Array Slot), x_B D cy q ad x_spX NC s H locs M → lv_has ls 4 [] → f_X11_brought_22 NC M = some z → W p l e rm_X11_brought s m args below meth c H locs 0 0 Q (F0 m 22 ls []) := by
    intro M H locs ls hw hl h
    unfold f_X11_brought_22 at h
    refine lv_ldc hx hb ho (hL _ kc_RX11_58) dX11_brought_22 ?_
    exact hret dX11_brought_24 rfl hw h
  have w56 : ∀ (M : x_M) (H : Heap) (locs : List Loc) (ls : Array Slot), x_B D cy q ad x_spX NC s H locs M → lv_has ls 4 [] → f_X11_brought_56 NC M = some z → W p l e rm_X11_brought s m args below meth c H locs 0 0 Q (F0 m 56 ls []) := by
    intro M H locs ls hw hl h
    unfold f_X11_brought_56 at h
    refine lv_ldc hx hb ho (hL _ kc_RX11_144) dX11_brought_56 ?_
    exact hret dX11_brought_58 rfl hw h
  unfold f_X11_brought at h
  refine lv_aload_n hx hb dX11_brought_0 rfl (lv_at hl 0 rfl) ?_
  refine lv_iload_n hx hb dX11_brought_1 rfl (lv_at hl 1 rfl) ?_
  refine xh_cVi C hw (rest := []) h (fun _ hy => c_X11_isLine hq hN hy) ml_RX11_120 mv_X11_isLine sX_0 (x_lt hN rfl) rfl ⟨rfl, rfl, by decide, by decide⟩ rfl hl.1 rfl (Nat.le_of_ble_eq_true rfl) dX11_brought_2 (fun H locs r2 M hw h => ?_)
  refine x_if_eq (tgt := 22) hx hb h dX11_brought_5 (by decide) (fun h => ?_) (fun h => ?_)
  · exact w22 _ _ _ _ hw (lv_sub hl [] rfl) h
  · refine lv_iload_n hx hb dX11_brought_8 rfl (lv_at hl 2 rfl) ?_
    refine xh_cSi C hw (rest := []) h (fun _ hy => c_X11_isDay hq hN hy) ml_RX11_151 st_X11_isDay ⟨rfl, rfl, by decide, by decide⟩ rfl hl.1 rfl (Nat.le_of_ble_eq_true rfl) dX11_brought_9 (fun H locs r9 M hw h => ?_)
    refine x_if_eq (tgt := 22) hx hb h dX11_brought_12 (by decide) (fun h => ?_) (fun h => ?_)
    · exact w22 _ _ _ _ hw (lv_sub hl [] rfl) h
    · refine lv_iload_n hx hb dX11_brought_15 rfl (lv_at hl 3 rfl) ?_
      refine xh_cSi C hw (rest := []) h (fun _ hy => c_X11_isDay hq hN hy) ml_RX11_151 st_X11_isDay ⟨rfl, rfl, by decide, by decide⟩ rfl hl.1 rfl (Nat.le_of_ble_eq_true rfl) dX11_brought_16 (fun H locs r16 M hw h => ?_)
      refine x_if_ne (tgt := 25) hx hb h dX11_brought_19 (by decide) (fun h => ?_) (fun h => ?_)
      · exact w22 _ _ _ _ hw (lv_sub hl [] rfl) h
      · refine lv_aload_n hx hb dX11_brought_25 rfl (lv_at hl 0 rfl) ?_
        refine xh_getr C hw 0 0 sX_0 (x_lt hN rfl) rfl rfl rfl lk_RX11_12 dX11_brought_26 ?_
        refine xh_getr C hw 1 1 sX_1 (x_lt hN rfl) rfl rfl rfl lk_RX11_123 dX11_brought_29 ?_
        refine lv_iload_n hx hb dX11_brought_32 rfl (lv_at hl 1 rfl) ?_
        refine lv_iload_n hx hb dX11_brought_33 rfl (lv_at hl 3 rfl) ?_
        refine xh_cVi C hw (rest := []) h (fun _ hy => c_X3_isKnown hq hN hy) ml_RX11_169 mv_X3_isKnown sX_6 (x_lt hN rfl) rfl ⟨rfl, rfl, by decide, by decide⟩ rfl hl.1 rfl (Nat.le_of_ble_eq_true rfl) dX11_brought_34 (fun H locs r34 M hw h => ?_)
        refine x_if_eq (tgt := 56) hx hb h dX11_brought_37 (by decide) (fun h => ?_) (fun h => ?_)
        · exact w56 _ _ _ _ hw (lv_sub hl [] rfl) h
        · refine lv_aload_n hx hb dX11_brought_40 rfl (lv_at hl 0 rfl) ?_
          refine xh_getr C hw 0 0 sX_0 (x_lt hN rfl) rfl rfl rfl lk_RX11_12 dX11_brought_41 ?_
          refine xh_getr C hw 1 1 sX_1 (x_lt hN rfl) rfl rfl rfl lk_RX11_123 dX11_brought_44 ?_
          refine xh_getr C hw 6 2 sX_6 (x_lt hN rfl) rfl rfl rfl lk_RX11_132 dX11_brought_47 ?_
          refine lv_iload_n hx hb dX11_brought_50 rfl (lv_at hl 1 rfl) ?_
          refine xh_iald C hw 9 100 h sX_9 (x_lt hN rfl) dX11_brought_51 (fun r51 h => ?_)
          refine lv_iload_n hx hb dX11_brought_52 rfl (lv_at hl 2 rfl) ?_
          refine x_icmp_le (tgt := 59) hx hb h dX11_brought_53 (by decide) (fun h => ?_) (fun h => ?_)
          · refine lv_aload_n hx hb dX11_brought_59 rfl (lv_at hl 0 rfl) ?_
            refine xh_getr C hw 0 2 sX_0 (x_lt hN rfl) rfl rfl rfl lk_RX11_22 dX11_brought_60 ?_
            refine lv_aload_n hx hb dX11_brought_63 rfl (lv_at hl 0 rfl) ?_
            refine xh_getr C hw 0 0 sX_0 (x_lt hN rfl) rfl rfl rfl lk_RX11_12 dX11_brought_64 ?_
            refine lv_iload_n hx hb dX11_brought_67 rfl (lv_at hl 2 rfl) ?_
            refine lv_iload_n hx hb dX11_brought_68 rfl (lv_at hl 3 rfl) ?_
            refine xh_cVv C hw (rest := []) h (fun _ hy => c_X2_goThrough_67_1 hq hN hy) ml_RX11_154 mv_X2_goThrough sX_67 (x_lt hN rfl) rfl ⟨rfl, rfl, by decide, by decide⟩ rfl hl.1 rfl (Nat.le_of_ble_eq_true rfl) dX11_brought_69 (fun H locs _ M hw h => ?_)
            refine lv_aload_n hx hb dX11_brought_72 rfl (lv_at hl 0 rfl) ?_
            refine xh_getr C hw 0 2 sX_0 (x_lt hN rfl) rfl rfl rfl lk_RX11_22 dX11_brought_73 ?_
            refine xh_getr C hw 67 7 sX_67 (x_lt hN rfl) rfl rfl rfl lk_RX11_172 dX11_brought_76 ?_
            refine lv_iload_n hx hb dX11_brought_79 rfl (lv_at hl 1 rfl) ?_
            refine xh_iald C hw 76 100 h sX_76 (x_lt hN rfl) dX11_brought_80 (fun r80 h => ?_)
            exact hret dX11_brought_81 rfl hw h
          · exact w56 _ _ _ _ hw (lv_sub hl [] rfl) h
def f_X11_owes_23 (NC : Nat) (M : x_M) : Option (Int32 × x_M) := some ((-1000000001), M)
def f_X11_owes (NC : Nat) (M : x_M) (a1 : Int32) (a2 : Int32) (a3 : Int32) : Option (Int32 × x_M) := x_bn (f_X11_within M a1 (nI 1) (nI 3)) (fun r3 M => if r3 = 0 then f_X11_owes_23 NC M else x_bn (f_X11_isDay M a2) (fun r10 M => if r10 = 0 then f_X11_owes_23 NC M else x_bn (f_X11_isDay M a3) (fun r17 M => if r17 = 0 then f_X11_owes_23 NC M else x_bn (f_X2_goThrough_67_1 NC M a2 a3) (fun _ M => x_rd 4 (M 74) a1 (fun r47 => x_rd 4 (M 32) a1 (fun r57 => x_dl (1000 : Int64) (x_rd 4 (M 75) a1 (fun r74 => x_rd 4 (M 33) a1 (fun r84 => x_dl (1000 : Int64) (some ((((((((r47).toInt64) * ((r57).toInt64)) / (1000 : Int64)) - ((((r74).toInt64) * ((r84).toInt64)) / (1000 : Int64)))).toInt32), M)))))))))))
abbrev rm_X11_owes : Room := { frames := 7, cells := 0, slots := 0, locals := 183 }
set_option maxHeartbeats 4000000 in
set_option maxRecDepth 100000 in
theorem c_X11_owes {l : Launch} {D : va_G} {cy : Nat → ClassId} {q ad : Nat → Nat} {NC : Nat} {s0 : State} (hq : x_Q q NC s0.heap.size) (hN : 88 ≤ NC) {M : x_M} {a1 : Int32} {a2 : Int32} {a3 : Int32} {z : Int32 × x_M} (h : f_X11_owes NC M a1 a2 a3 = some z) : x_Ci l D cy q ad x_spX NC s0 yX11_owes (x_uw yX11_owes cX11_owes 8 (some .int)) rm_X11_owes [.ref (q 0), .int a1, .int a2, .int a3] M z.1 z.2 := by
  refine x_meti hq (by decide) (Nat.le_of_ble_eq_true rfl) ?_
  intro p e s m args below meth c ls Q C hret hl hw
  have hx := C.1.1
  have hb := C.1.2.1
  have ho := C.1.2.2.2.1
  have hL := C.1.2.2.2.2
  have hl : lv_has ls 8 [(0, .ref (q 0)), (1, .int a1), (2, .int a2), (3, .int a3)] := hl
  have w23 : ∀ (M : x_M) (H : Heap) (locs : List Loc) (ls : Array Slot), x_B D cy q ad x_spX NC s H locs M → lv_has ls 8 [] → f_X11_owes_23 NC M = some z → W p l e rm_X11_owes s m args below meth c H locs 0 0 Q (F0 m 23 ls []) := by
    intro M H locs ls hw hl h
    unfold f_X11_owes_23 at h
    refine lv_ldc hx hb ho (hL _ kc_RX11_58) dX11_owes_23 ?_
    exact hret dX11_owes_25 rfl hw h
  unfold f_X11_owes at h
  refine lv_iload_n hx hb dX11_owes_0 rfl (lv_at hl 1 rfl) ?_
  refine lv_iconst (v := (nI 1)) hx hb dX11_owes_1 (by decide) ?_
  refine lv_iconst (v := (nI 3)) hx hb dX11_owes_2 (by decide) ?_
  refine xh_cSi C hw (rest := []) h (fun _ hy => c_X11_within hq hN hy) ml_RX11_54 st_X11_within ⟨rfl, rfl, by decide, by decide⟩ rfl hl.1 rfl (Nat.le_of_ble_eq_true rfl) dX11_owes_3 (fun H locs r3 M hw h => ?_)
  refine x_if_eq (tgt := 23) hx hb h dX11_owes_6 (by decide) (fun h => ?_) (fun h => ?_)
  · exact w23 _ _ _ _ hw (lv_sub hl [] rfl) h
  · refine lv_iload_n hx hb dX11_owes_9 rfl (lv_at hl 2 rfl) ?_
    refine xh_cSi C hw (rest := []) h (fun _ hy => c_X11_isDay hq hN hy) ml_RX11_151 st_X11_isDay ⟨rfl, rfl, by decide, by decide⟩ rfl hl.1 rfl (Nat.le_of_ble_eq_true rfl) dX11_owes_10 (fun H locs r10 M hw h => ?_)
    refine x_if_eq (tgt := 23) hx hb h dX11_owes_13 (by decide) (fun h => ?_) (fun h => ?_)
    · exact w23 _ _ _ _ hw (lv_sub hl [] rfl) h
    · refine lv_iload_n hx hb dX11_owes_16 rfl (lv_at hl 3 rfl) ?_
      refine xh_cSi C hw (rest := []) h (fun _ hy => c_X11_isDay hq hN hy) ml_RX11_151 st_X11_isDay ⟨rfl, rfl, by decide, by decide⟩ rfl hl.1 rfl (Nat.le_of_ble_eq_true rfl) dX11_owes_17 (fun H locs r17 M hw h => ?_)
      refine x_if_ne (tgt := 26) hx hb h dX11_owes_20 (by decide) (fun h => ?_) (fun h => ?_)
      · exact w23 _ _ _ _ hw (lv_sub hl [] rfl) h
      · refine lv_aload_n hx hb dX11_owes_26 rfl (lv_at hl 0 rfl) ?_
        refine xh_getr C hw 0 2 sX_0 (x_lt hN rfl) rfl rfl rfl lk_RX11_22 dX11_owes_27 ?_
        refine lv_aload_n hx hb dX11_owes_30 rfl (lv_at hl 0 rfl) ?_
        refine xh_getr C hw 0 0 sX_0 (x_lt hN rfl) rfl rfl rfl lk_RX11_12 dX11_owes_31 ?_
        refine lv_iload_n hx hb dX11_owes_34 rfl (lv_at hl 2 rfl) ?_
        refine lv_iload_n hx hb dX11_owes_35 rfl (lv_at hl 3 rfl) ?_
        refine xh_cVv C hw (rest := []) h (fun _ hy => c_X2_goThrough_67_1 hq hN hy) ml_RX11_154 mv_X2_goThrough sX_67 (x_lt hN rfl) rfl ⟨rfl, rfl, by decide, by decide⟩ rfl hl.1 rfl (Nat.le_of_ble_eq_true rfl) dX11_owes_36 (fun H locs _ M hw h => ?_)
        refine lv_aload_n hx hb dX11_owes_39 rfl (lv_at hl 0 rfl) ?_
        refine xh_getr C hw 0 2 sX_0 (x_lt hN rfl) rfl rfl rfl lk_RX11_22 dX11_owes_40 ?_
        refine xh_getr C hw 67 5 sX_67 (x_lt hN rfl) rfl rfl rfl lk_RX11_175 dX11_owes_43 ?_
        refine lv_iload_n hx hb dX11_owes_46 rfl (lv_at hl 1 rfl) ?_
        refine xh_iald C hw 74 4 h sX_74 (x_lt hN rfl) dX11_owes_47 (fun r47 h => ?_)
        refine lv_i2l hx hb dX11_owes_48 rfl ?_
        refine lv_aload_n hx hb dX11_owes_49 rfl (lv_at hl 0 rfl) ?_
        refine xh_getr C hw 0 0 sX_0 (x_lt hN rfl) rfl rfl rfl lk_RX11_12 dX11_owes_50 ?_
        refine xh_getr C hw 1 6 sX_1 (x_lt hN rfl) rfl rfl rfl lk_RX11_178 dX11_owes_53 ?_
        refine lv_iload_n hx hb dX11_owes_56 rfl (lv_at hl 1 rfl) ?_
        refine xh_iald C hw 32 4 h sX_32 (x_lt hN rfl) dX11_owes_57 (fun r57 h => ?_)
        refine lv_i2l hx hb dX11_owes_58 rfl ?_
        refine lv_lmul hx hb dX11_owes_59 ?_
        refine lv_ldc2 hx hb ho (hL _ kl_RX11_181) dX11_owes_60 ?_
        refine xh_ldiv hx hb h dX11_owes_63 (fun h => ?_)
        refine lv_lstore (lv' := [(4, .long _), (0, .ref (q 0)), (1, .int _), (2, .int _), (3, .int _)]) hx hb dX11_owes_64 hl (by decide) rfl (fun ls hl => ?_)
        refine lv_aload_n hx hb dX11_owes_66 rfl (lv_at hl 1 rfl) ?_
        refine xh_getr C hw 0 2 sX_0 (x_lt hN rfl) rfl rfl rfl lk_RX11_22 dX11_owes_67 ?_
        refine xh_getr C hw 67 6 sX_67 (x_lt hN rfl) rfl rfl rfl lk_RX11_183 dX11_owes_70 ?_
        refine lv_iload_n hx hb dX11_owes_73 rfl (lv_at hl 2 rfl) ?_
        refine xh_iald C hw 75 4 h sX_75 (x_lt hN rfl) dX11_owes_74 (fun r74 h => ?_)
        refine lv_i2l hx hb dX11_owes_75 rfl ?_
        refine lv_aload_n hx hb dX11_owes_76 rfl (lv_at hl 1 rfl) ?_
        refine xh_getr C hw 0 0 sX_0 (x_lt hN rfl) rfl rfl rfl lk_RX11_12 dX11_owes_77 ?_
        refine xh_getr C hw 1 7 sX_1 (x_lt hN rfl) rfl rfl rfl lk_RX11_186 dX11_owes_80 ?_
        refine lv_iload_n hx hb dX11_owes_83 rfl (lv_at hl 2 rfl) ?_
        refine xh_iald C hw 33 4 h sX_33 (x_lt hN rfl) dX11_owes_84 (fun r84 h => ?_)
        refine lv_i2l hx hb dX11_owes_85 rfl ?_
        refine lv_lmul hx hb dX11_owes_86 ?_
        refine lv_ldc2 hx hb ho (hL _ kl_RX11_181) dX11_owes_87 ?_
        refine xh_ldiv hx hb h dX11_owes_90 (fun h => ?_)
        refine lv_lstore (lv' := [(6, .long _), (4, .long _), (0, .ref (q 0)), (1, .int _), (2, .int _), (3, .int _)]) hx hb dX11_owes_91 hl (by decide) rfl (fun ls hl => ?_)
        refine lv_lload hx hb dX11_owes_93 (lv_at hl 1 rfl) ?_
        refine lv_lload hx hb dX11_owes_95 (lv_at hl 0 rfl) ?_
        refine lv_lsub hx hb dX11_owes_97 ?_
        refine lv_l2i hx hb dX11_owes_98 rfl ?_
        exact hret dX11_owes_99 rfl hw h
def f_X11_rate_29 (M : x_M) : Option (Int32 × x_M) := some ((-1000000001), M)
def f_X11_rate (M : x_M) (a1 : Int32) (a2 : Int32) (a3 : Int32) : Option (Int32 × x_M) := x_bn (f_X11_within M a1 (nI 1) (nI 3)) (fun r3 M => if r3 = 0 then f_X11_rate_29 M else x_bn (f_X11_within M a2 (nI 0) (nI 1)) (fun r12 M => if r12 = 0 then f_X11_rate_29 M else x_bn (f_X11_within M a3 (nI 0) (nI 999)) (fun r23 M => if r23 = 0 then f_X11_rate_29 M else if a2 = 0 then x_rd 4 (M 32) a1 (fun r58 => x_wr 4 M 32 a1 a3 (fun M => some (r58, M))) else x_rd 4 (M 33) a1 (fun r58 => x_wr 4 M 33 a1 a3 (fun M => some (r58, M))))))
abbrev rm_X11_rate : Room := { frames := 1, cells := 0, slots := 0, locals := 22 }
set_option maxHeartbeats 4000000 in
set_option maxRecDepth 100000 in
theorem c_X11_rate {l : Launch} {D : va_G} {cy : Nat → ClassId} {q ad : Nat → Nat} {NC : Nat} {s0 : State} (hq : x_Q q NC s0.heap.size) (hN : 88 ≤ NC) {M : x_M} {a1 : Int32} {a2 : Int32} {a3 : Int32} {z : Int32 × x_M} (h : f_X11_rate M a1 a2 a3 = some z) : x_Ci l D cy q ad x_spX NC s0 yX11_rate (x_uw yX11_rate cX11_rate 6 (some .int)) rm_X11_rate [.ref (q 0), .int a1, .int a2, .int a3] M z.1 z.2 := by
  refine x_meti hq (by decide) (Nat.le_of_ble_eq_true rfl) ?_
  intro p e s m args below meth c ls Q C hret hl hw
  have hx := C.1.1
  have hb := C.1.2.1
  have ho := C.1.2.2.2.1
  have hL := C.1.2.2.2.2
  have hl : lv_has ls 6 [(0, .ref (q 0)), (1, .int a1), (2, .int a2), (3, .int a3)] := hl
  have w29 : ∀ (M : x_M) (H : Heap) (locs : List Loc) (ls : Array Slot), x_B D cy q ad x_spX NC s H locs M → lv_has ls 6 [] → f_X11_rate_29 M = some z → W p l e rm_X11_rate s m args below meth c H locs 0 0 Q (F0 m 29 ls []) := by
    intro M H locs ls hw hl h
    unfold f_X11_rate_29 at h
    refine lv_ldc hx hb ho (hL _ kc_RX11_58) dX11_rate_29 ?_
    exact hret dX11_rate_31 rfl hw h
  unfold f_X11_rate at h
  refine lv_iload_n hx hb dX11_rate_0 rfl (lv_at hl 1 rfl) ?_
  refine lv_iconst (v := (nI 1)) hx hb dX11_rate_1 (by decide) ?_
  refine lv_iconst (v := (nI 3)) hx hb dX11_rate_2 (by decide) ?_
  refine xh_cSi C hw (rest := []) h (fun _ hy => c_X11_within hq hN hy) ml_RX11_54 st_X11_within ⟨rfl, rfl, by decide, by decide⟩ rfl hl.1 rfl (Nat.le_of_ble_eq_true rfl) dX11_rate_3 (fun H locs r3 M hw h => ?_)
  refine x_if_eq (tgt := 29) hx hb h dX11_rate_6 (by decide) (fun h => ?_) (fun h => ?_)
  · exact w29 _ _ _ _ hw (lv_sub hl [] rfl) h
  · refine lv_iload_n hx hb dX11_rate_9 rfl (lv_at hl 2 rfl) ?_
    refine lv_iconst (v := (nI 0)) hx hb dX11_rate_10 (by decide) ?_
    refine lv_iconst (v := (nI 1)) hx hb dX11_rate_11 (by decide) ?_
    refine xh_cSi C hw (rest := []) h (fun _ hy => c_X11_within hq hN hy) ml_RX11_54 st_X11_within ⟨rfl, rfl, by decide, by decide⟩ rfl hl.1 rfl (Nat.le_of_ble_eq_true rfl) dX11_rate_12 (fun H locs r12 M hw h => ?_)
    refine x_if_eq (tgt := 29) hx hb h dX11_rate_15 (by decide) (fun h => ?_) (fun h => ?_)
    · exact w29 _ _ _ _ hw (lv_sub hl [] rfl) h
    · refine lv_iload_n hx hb dX11_rate_18 rfl (lv_at hl 3 rfl) ?_
      refine lv_iconst (v := (nI 0)) hx hb dX11_rate_19 (by decide) ?_
      refine lv_sipush (v := (nI 999)) hx hb dX11_rate_20 (by decide) ?_
      refine xh_cSi C hw (rest := []) h (fun _ hy => c_X11_within hq hN hy) ml_RX11_54 st_X11_within ⟨rfl, rfl, by decide, by decide⟩ rfl hl.1 rfl (Nat.le_of_ble_eq_true rfl) dX11_rate_23 (fun H locs r23 M hw h => ?_)
      refine x_if_ne (tgt := 32) hx hb h dX11_rate_26 (by decide) (fun h => ?_) (fun h => ?_)
      · exact w29 _ _ _ _ hw (lv_sub hl [] rfl) h
      · refine lv_iload_n hx hb dX11_rate_32 rfl (lv_at hl 2 rfl) ?_
        refine x_if_ne (tgt := 46) hx hb h dX11_rate_33 (by decide) (fun h => ?_) (fun h => ?_)
        · refine lv_aload_n hx hb dX11_rate_36 rfl (lv_at hl 0 rfl) ?_
          refine xh_getr C hw 0 0 sX_0 (x_lt hN rfl) rfl rfl rfl lk_RX11_12 dX11_rate_37 ?_
          refine xh_getr C hw 1 6 sX_1 (x_lt hN rfl) rfl rfl rfl lk_RX11_178 dX11_rate_40 ?_
          refine lv_goto (tgt := 53) hx hb dX11_rate_43 (by decide) ?_
          refine lv_astore (lv' := [(4, .ref (q 32)), (0, .ref (q 0)), (1, .int _), (2, .int _), (3, .int _)]) hx hb dX11_rate_53 hl (by decide) rfl (fun ls hl => ?_)
          refine lv_aload hx hb dX11_rate_55 (lv_at hl 0 rfl) ?_
          refine lv_iload_n hx hb dX11_rate_57 rfl (lv_at hl 2 rfl) ?_
          refine xh_iald C hw 32 4 h sX_32 (x_lt hN rfl) dX11_rate_58 (fun r58 h => ?_)
          refine lv_istore (lv' := [(5, .int _), (4, .ref (q 32)), (0, .ref (q 0)), (1, .int _), (2, .int _), (3, .int _)]) hx hb dX11_rate_59 hl (by decide) rfl (fun ls hl => ?_)
          refine lv_aload hx hb dX11_rate_61 (lv_at hl 1 rfl) ?_
          refine lv_iload_n hx hb dX11_rate_63 rfl (lv_at hl 3 rfl) ?_
          refine lv_iload_n hx hb dX11_rate_64 rfl (lv_at hl 5 rfl) ?_
          refine xh_iast C hw 32 4 h sX_32 (x_lt hN rfl) dX11_rate_65 (fun H locs M hw h => ?_)
          refine lv_iload hx hb dX11_rate_66 (lv_at hl 0 rfl) ?_
          exact hret dX11_rate_68 rfl hw h
        · refine lv_aload_n hx hb dX11_rate_46 rfl (lv_at hl 0 rfl) ?_
          refine xh_getr C hw 0 0 sX_0 (x_lt hN rfl) rfl rfl rfl lk_RX11_12 dX11_rate_47 ?_
          refine xh_getr C hw 1 7 sX_1 (x_lt hN rfl) rfl rfl rfl lk_RX11_186 dX11_rate_50 ?_
          refine lv_astore (lv' := [(4, .ref (q 33)), (0, .ref (q 0)), (1, .int _), (2, .int _), (3, .int _)]) hx hb dX11_rate_53 hl (by decide) rfl (fun ls hl => ?_)
          refine lv_aload hx hb dX11_rate_55 (lv_at hl 0 rfl) ?_
          refine lv_iload_n hx hb dX11_rate_57 rfl (lv_at hl 2 rfl) ?_
          refine xh_iald C hw 33 4 h sX_33 (x_lt hN rfl) dX11_rate_58 (fun r58 h => ?_)
          refine lv_istore (lv' := [(5, .int _), (4, .ref (q 33)), (0, .ref (q 0)), (1, .int _), (2, .int _), (3, .int _)]) hx hb dX11_rate_59 hl (by decide) rfl (fun ls hl => ?_)
          refine lv_aload hx hb dX11_rate_61 (lv_at hl 1 rfl) ?_
          refine lv_iload_n hx hb dX11_rate_63 rfl (lv_at hl 3 rfl) ?_
          refine lv_iload_n hx hb dX11_rate_64 rfl (lv_at hl 5 rfl) ?_
          refine xh_iast C hw 33 4 h sX_33 (x_lt hN rfl) dX11_rate_65 (fun H locs M hw h => ?_)
          refine lv_iload hx hb dX11_rate_66 (lv_at hl 0 rfl) ?_
          exact hret dX11_rate_68 rfl hw h
def f_X7_put_3 : Nat → x_M → Int32 → Int32 → Option (Unit × x_M)
  | 0, _, _, _ => none
  | n + 1, M, v1, v2 => if v2 < 0 then some ((), M) else x_gf M 80 3 (fun r8 => if (nI 132) ≤ r8 then some ((), M) else x_gf M 80 3 (fun r22 => x_wr 132 M 81 r22 (vp_nar .byte (((v1 >>> (v2 &&& 31))).toInt8.toInt32)) (fun M => x_gf M 80 3 (fun r32 => x_pf M 80 3 (r32 + (nI 1)) (fun M => (f_X7_put_3 n) M v1 (v2 + (-8)))))))
theorem f_X7_put_3_0 (M : x_M) (v1 : Int32) (v2 : Int32) : f_X7_put_3 0 M v1 v2 = none := rfl
theorem f_X7_put_3_s (n : Nat) (M : x_M) (v1 : Int32) (v2 : Int32) : f_X7_put_3 (n + 1) M v1 v2 = (if v2 < 0 then some ((), M) else x_gf M 80 3 (fun r8 => if (nI 132) ≤ r8 then some ((), M) else x_gf M 80 3 (fun r22 => x_wr 132 M 81 r22 (vp_nar .byte (((v1 >>> (v2 &&& 31))).toInt8.toInt32)) (fun M => x_gf M 80 3 (fun r32 => x_pf M 80 3 (r32 + (nI 1)) (fun M => (f_X7_put_3 n) M v1 (v2 + (-8)))))))) := rfl
def f_X7_put (M : x_M) (a1 : Int32) : Option (Unit × x_M) := f_X7_put_3 x_FU M a1 (nI 24)
abbrev rm_X7_put : Room := { frames := 0, cells := 0, slots := 0, locals := 0 }
set_option maxHeartbeats 4000000 in
set_option maxRecDepth 100000 in
theorem c_X7_put {l : Launch} {D : va_G} {cy : Nat → ClassId} {q ad : Nat → Nat} {NC : Nat} {s0 : State} (hq : x_Q q NC s0.heap.size) (hN : 88 ≤ NC) {M : x_M} {a1 : Int32} {z : Unit × x_M} (h : f_X7_put M a1 = some z) : x_Cv l D cy q ad x_spX NC s0 yX7_put (x_uw yX7_put cX7_put 3 none) rm_X7_put [.ref (q 80), .int a1] M z.2 := by
  refine x_metv hq (by decide) (Nat.le_of_ble_eq_true rfl) ?_
  intro p e s m args below meth c ls Q C hret hl hw
  have hx := C.1.1
  have hb := C.1.2.1
  have ho := C.1.2.2.2.1
  have hL := C.1.2.2.2.2
  have hl : lv_has ls 3 [(0, .ref (q 80)), (1, .int a1)] := hl
  have w3 : ∀ (n : Nat) (M : x_M) (v1 : Int32) (v2 : Int32) (H : Heap) (locs : List Loc) (ls : Array Slot), x_B D cy q ad x_spX NC s H locs M → lv_has ls 3 [(0, .ref (q 80)), (1, .int v1), (2, .int v2)] → f_X7_put_3 n M v1 v2 = some z → W p l e rm_X7_put s m args below meth c H locs 0 0 Q (F0 m 3 ls []) := by
    intro n
    induction n with
    | zero =>
      intro M v1 v2 H locs ls hw hl h
      rw [f_X7_put_3_0] at h
      cases h
    | succ n3 ih3 =>
      intro M v1 v2 H locs ls hw hl h
      rw [f_X7_put_3_s] at h
      refine lv_iload_n hx hb dX7_put_3 rfl (lv_at hl 2 rfl) ?_
      refine x_if_lt (tgt := 46) hx hb h dX7_put_4 (by decide) (fun h => ?_) (fun h => ?_)
      · exact hret dX7_put_46 hw h
      · refine lv_aload_n hx hb dX7_put_7 rfl (lv_at hl 0 rfl) ?_
        refine xh_geti C hw 80 3 h sX_80 (x_lt hN rfl) rfl rfl rfl lk_RX7_28 dX7_put_8 (fun r8 h => ?_)
        refine lv_sipush (v := (nI 132)) hx hb dX7_put_11 (by decide) ?_
        refine x_icmp_ge (tgt := 46) hx hb h dX7_put_14 (by decide) (fun h => ?_) (fun h => ?_)
        · exact hret dX7_put_46 hw h
        · refine lv_aload_n hx hb dX7_put_17 rfl (lv_at hl 0 rfl) ?_
          refine xh_getr C hw 80 0 sX_80 (x_lt hN rfl) rfl rfl rfl lk_RX7_9 dX7_put_18 ?_
          refine lv_aload_n hx hb dX7_put_21 rfl (lv_at hl 0 rfl) ?_
          refine xh_geti C hw 80 3 h sX_80 (x_lt hN rfl) rfl rfl rfl lk_RX7_28 dX7_put_22 (fun r22 h => ?_)
          refine lv_iload_n hx hb dX7_put_25 rfl (lv_at hl 1 rfl) ?_
          refine lv_iload_n hx hb dX7_put_26 rfl (lv_at hl 2 rfl) ?_
          refine lv_ishr hx hb dX7_put_27 ?_
          refine lv_i2b hx hb dX7_put_28 rfl ?_
          refine xh_bast C hw 81 132 h sX_81 (x_lt hN rfl) dX7_put_29 (fun H locs M hw h => ?_)
          refine lv_aload_n hx hb dX7_put_30 rfl (lv_at hl 0 rfl) ?_
          refine lv_dup hx hb dX7_put_31 rfl ?_
          refine xh_geti C hw 80 3 h sX_80 (x_lt hN rfl) rfl rfl rfl lk_RX7_28 dX7_put_32 (fun r32 h => ?_)
          refine lv_iconst (v := (nI 1)) hx hb dX7_put_35 (by decide) ?_
          refine lv_iadd hx hb dX7_put_36 ?_
          refine xh_puti C hw 80 3 h sX_80 (x_lt hN rfl) rfl rfl rfl lk_RX7_28 rfl rfl dX7_put_37 (fun H locs M hw h => ?_)
          refine lv_iinc (lv' := [(2, .int _), (0, .ref (q 80)), (1, .int _)]) hx hb dX7_put_40 hl (k := 2) rfl (x_inc (show Int32.ofInt (-8) = (-8) by decide) _) (by decide) rfl (fun ls hl => ?_)
          refine lv_goto (tgt := 3) hx hb dX7_put_43 (by decide) ?_
          exact ih3 _ _ _ _ _ _ hw (lv_sub hl [1, 2, 0] rfl) h
  unfold f_X7_put at h
  refine lv_bipush (v := (nI 24)) hx hb dX7_put_0 (by decide) ?_
  refine lv_istore_n (lv' := [(2, .int _), (0, .ref (q 80)), (1, .int _)]) hx hb dX7_put_2 rfl hl (by decide) rfl (fun ls hl => ?_)
  exact w3 _ _ _ _ _ _ _ hw (lv_sub hl [1, 2, 0] rfl) h
def f_X11_feed (M : x_M) (a1 : Int32) (a2 : Int32) (a3 : Int32) : Option (Int32 × x_M) := x_gf M 80 3 (fun r4 => if (r4 + (nI 12)) ≤ (nI 132) then x_bn (f_X7_put M a1) (fun _ M => x_bn (f_X7_put M a2) (fun _ M => x_bn (f_X7_put M a3) (fun _ M => x_gf M 80 3 (fun r47 => some (r47, M))))) else some ((-1000000003), M))
abbrev rm_X11_feed : Room := { frames := 1, cells := 0, slots := 0, locals := 22 }
set_option maxHeartbeats 4000000 in
set_option maxRecDepth 100000 in
theorem c_X11_feed {l : Launch} {D : va_G} {cy : Nat → ClassId} {q ad : Nat → Nat} {NC : Nat} {s0 : State} (hq : x_Q q NC s0.heap.size) (hN : 88 ≤ NC) {M : x_M} {a1 : Int32} {a2 : Int32} {a3 : Int32} {z : Int32 × x_M} (h : f_X11_feed M a1 a2 a3 = some z) : x_Ci l D cy q ad x_spX NC s0 yX11_feed (x_uw yX11_feed cX11_feed 4 (some .int)) rm_X11_feed [.ref (q 0), .int a1, .int a2, .int a3] M z.1 z.2 := by
  refine x_meti hq (by decide) (Nat.le_of_ble_eq_true rfl) ?_
  intro p e s m args below meth c ls Q C hret hl hw
  have hx := C.1.1
  have hb := C.1.2.1
  have ho := C.1.2.2.2.1
  have hL := C.1.2.2.2.2
  have hl : lv_has ls 4 [(0, .ref (q 0)), (1, .int a1), (2, .int a2), (3, .int a3)] := hl
  unfold f_X11_feed at h
  refine lv_aload_n hx hb dX11_feed_0 rfl (lv_at hl 0 rfl) ?_
  refine xh_getr C hw 0 4 sX_0 (x_lt hN rfl) rfl rfl rfl lk_RX11_36 dX11_feed_1 ?_
  refine xh_geti C hw 80 3 h sX_80 (x_lt hN rfl) rfl rfl rfl lk_RX11_189 dX11_feed_4 (fun r4 h => ?_)
  refine lv_bipush (v := (nI 12)) hx hb dX11_feed_7 (by decide) ?_
  refine lv_iadd hx hb dX11_feed_9 ?_
  refine lv_sipush (v := (nI 132)) hx hb dX11_feed_10 (by decide) ?_
  refine x_icmp_le (tgt := 19) hx hb h dX11_feed_13 (by decide) (fun h => ?_) (fun h => ?_)
  · refine lv_aload_n hx hb dX11_feed_19 rfl (lv_at hl 0 rfl) ?_
    refine xh_getr C hw 0 4 sX_0 (x_lt hN rfl) rfl rfl rfl lk_RX11_36 dX11_feed_20 ?_
    refine lv_iload_n hx hb dX11_feed_23 rfl (lv_at hl 1 rfl) ?_
    refine xh_cVv C hw (rest := []) h (fun _ hy => c_X7_put hq hN hy) ml_RX11_193 mv_X7_put sX_80 (x_lt hN rfl) rfl ⟨rfl, rfl, by decide, by decide⟩ rfl hl.1 rfl (Nat.le_of_ble_eq_true rfl) dX11_feed_24 (fun H locs _ M hw h => ?_)
    refine lv_aload_n hx hb dX11_feed_27 rfl (lv_at hl 0 rfl) ?_
    refine xh_getr C hw 0 4 sX_0 (x_lt hN rfl) rfl rfl rfl lk_RX11_36 dX11_feed_28 ?_
    refine lv_iload_n hx hb dX11_feed_31 rfl (lv_at hl 2 rfl) ?_
    refine xh_cVv C hw (rest := []) h (fun _ hy => c_X7_put hq hN hy) ml_RX11_193 mv_X7_put sX_80 (x_lt hN rfl) rfl ⟨rfl, rfl, by decide, by decide⟩ rfl hl.1 rfl (Nat.le_of_ble_eq_true rfl) dX11_feed_32 (fun H locs _ M hw h => ?_)
    refine lv_aload_n hx hb dX11_feed_35 rfl (lv_at hl 0 rfl) ?_
    refine xh_getr C hw 0 4 sX_0 (x_lt hN rfl) rfl rfl rfl lk_RX11_36 dX11_feed_36 ?_
    refine lv_iload_n hx hb dX11_feed_39 rfl (lv_at hl 3 rfl) ?_
    refine xh_cVv C hw (rest := []) h (fun _ hy => c_X7_put hq hN hy) ml_RX11_193 mv_X7_put sX_80 (x_lt hN rfl) rfl ⟨rfl, rfl, by decide, by decide⟩ rfl hl.1 rfl (Nat.le_of_ble_eq_true rfl) dX11_feed_40 (fun H locs _ M hw h => ?_)
    refine lv_aload_n hx hb dX11_feed_43 rfl (lv_at hl 0 rfl) ?_
    refine xh_getr C hw 0 4 sX_0 (x_lt hN rfl) rfl rfl rfl lk_RX11_36 dX11_feed_44 ?_
    refine xh_geti C hw 80 3 h sX_80 (x_lt hN rfl) rfl rfl rfl lk_RX11_189 dX11_feed_47 (fun r47 h => ?_)
    exact hret dX11_feed_50 rfl hw h
  · refine lv_ldc hx hb ho (hL _ kc_RX11_192) dX11_feed_16 ?_
    exact hret dX11_feed_18 rfl hw h
def f_X11_trim (M : x_M) (a1 : Int32) : Option (Int32 × x_M) := x_gf M 80 3 (fun r6 => x_bn (f_X11_within M a1 (nI 0) r6) (fun r9 M => if r9 = 0 then some ((-1000000001), M) else x_pf M 80 3 a1 (fun M => some (a1, M))))
abbrev rm_X11_trim : Room := { frames := 1, cells := 0, slots := 0, locals := 22 }
set_option maxHeartbeats 4000000 in
set_option maxRecDepth 100000 in
theorem c_X11_trim {l : Launch} {D : va_G} {cy : Nat → ClassId} {q ad : Nat → Nat} {NC : Nat} {s0 : State} (hq : x_Q q NC s0.heap.size) (hN : 88 ≤ NC) {M : x_M} {a1 : Int32} {z : Int32 × x_M} (h : f_X11_trim M a1 = some z) : x_Ci l D cy q ad x_spX NC s0 yX11_trim (x_uw yX11_trim cX11_trim 2 (some .int)) rm_X11_trim [.ref (q 0), .int a1] M z.1 z.2 := by
  refine x_meti hq (by decide) (Nat.le_of_ble_eq_true rfl) ?_
  intro p e s m args below meth c ls Q C hret hl hw
  have hx := C.1.1
  have hb := C.1.2.1
  have ho := C.1.2.2.2.1
  have hL := C.1.2.2.2.2
  have hl : lv_has ls 2 [(0, .ref (q 0)), (1, .int a1)] := hl
  unfold f_X11_trim at h
  refine lv_iload_n hx hb dX11_trim_0 rfl (lv_at hl 1 rfl) ?_
  refine lv_iconst (v := (nI 0)) hx hb dX11_trim_1 (by decide) ?_
  refine lv_aload_n hx hb dX11_trim_2 rfl (lv_at hl 0 rfl) ?_
  refine xh_getr C hw 0 4 sX_0 (x_lt hN rfl) rfl rfl rfl lk_RX11_36 dX11_trim_3 ?_
  refine xh_geti C hw 80 3 h sX_80 (x_lt hN rfl) rfl rfl rfl lk_RX11_189 dX11_trim_6 (fun r6 h => ?_)
  refine xh_cSi C hw (rest := []) h (fun _ hy => c_X11_within hq hN hy) ml_RX11_54 st_X11_within ⟨rfl, rfl, by decide, by decide⟩ rfl hl.1 rfl (Nat.le_of_ble_eq_true rfl) dX11_trim_9 (fun H locs r9 M hw h => ?_)
  refine x_if_ne (tgt := 18) hx hb h dX11_trim_12 (by decide) (fun h => ?_) (fun h => ?_)
  · refine lv_ldc hx hb ho (hL _ kc_RX11_58) dX11_trim_15 ?_
    exact hret dX11_trim_17 rfl hw h
  · refine lv_aload_n hx hb dX11_trim_18 rfl (lv_at hl 0 rfl) ?_
    refine xh_getr C hw 0 4 sX_0 (x_lt hN rfl) rfl rfl rfl lk_RX11_36 dX11_trim_19 ?_
    refine lv_iload_n hx hb dX11_trim_22 rfl (lv_at hl 1 rfl) ?_
    refine xh_puti C hw 80 3 h sX_80 (x_lt hN rfl) rfl rfl rfl lk_RX11_189 rfl rfl dX11_trim_23 (fun H locs M hw h => ?_)
    refine lv_iload_n hx hb dX11_trim_26 rfl (lv_at hl 1 rfl) ?_
    exact hret dX11_trim_27 rfl hw h
def f_X7_useUp (M : x_M) : Option (Unit × x_M) := x_gf M 80 3 (fun r2 => x_pf M 80 4 r2 (fun M => x_pf M 80 3 (nI 0) (fun M => some ((), M))))
abbrev rm_X7_useUp : Room := { frames := 0, cells := 0, slots := 0, locals := 0 }
set_option maxHeartbeats 4000000 in
set_option maxRecDepth 100000 in
theorem c_X7_useUp {l : Launch} {D : va_G} {cy : Nat → ClassId} {q ad : Nat → Nat} {NC : Nat} {s0 : State} (hq : x_Q q NC s0.heap.size) (hN : 88 ≤ NC) {M : x_M} {z : Unit × x_M} (h : f_X7_useUp M = some z) : x_Cv l D cy q ad x_spX NC s0 yX7_useUp (x_uw yX7_useUp cX7_useUp 1 none) rm_X7_useUp [.ref (q 80)] M z.2 := by
  refine x_metv hq (by decide) (Nat.le_of_ble_eq_true rfl) ?_
  intro p e s m args below meth c ls Q C hret hl hw
  have hx := C.1.1
  have hb := C.1.2.1
  have ho := C.1.2.2.2.1
  have hL := C.1.2.2.2.2
  have hl : lv_has ls 1 [(0, .ref (q 80))] := hl
  unfold f_X7_useUp at h
  refine lv_aload_n hx hb dX7_useUp_0 rfl (lv_at hl 0 rfl) ?_
  refine lv_aload_n hx hb dX7_useUp_1 rfl (lv_at hl 0 rfl) ?_
  refine xh_geti C hw 80 3 h sX_80 (x_lt hN rfl) rfl rfl rfl lk_RX7_28 dX7_useUp_2 (fun r2 h => ?_)
  refine xh_puti C hw 80 4 h sX_80 (x_lt hN rfl) rfl rfl rfl lk_RX7_32 rfl rfl dX7_useUp_5 (fun H locs M hw h => ?_)
  refine lv_aload_n hx hb dX7_useUp_8 rfl (lv_at hl 0 rfl) ?_
  refine lv_iconst (v := (nI 0)) hx hb dX7_useUp_9 (by decide) ?_
  refine xh_puti C hw 80 3 h sX_80 (x_lt hN rfl) rfl rfl rfl lk_RX7_28 rfl rfl dX7_useUp_10 (fun H locs M hw h => ?_)
  exact hret dX7_useUp_13 hw h
def f_X7_wordOf (M : x_M) (a1 : Int32) : Option (Int32 × x_M) := if a1 = (nI 0) then some ((nI 1), M) else if a1 = (nI 1) then some ((nI 2), M) else if a1 = (nI 2) then some ((nI 3), M) else some ((nI 4), M)
abbrev rm_X7_wordOf : Room := { frames := 0, cells := 0, slots := 0, locals := 0 }
set_option maxHeartbeats 4000000 in
set_option maxRecDepth 100000 in
theorem c_X7_wordOf {l : Launch} {D : va_G} {cy : Nat → ClassId} {q ad : Nat → Nat} {NC : Nat} {s0 : State} {adV : Nat → Nat} (hq : x_Q q NC s0.heap.size) (hN : 88 ≤ NC) (hz : x_Z s0 ad adV) {M : x_M} {a1 : Int32} {z : Int32 × x_M} (h : f_X7_wordOf M a1 = some z) : x_Cr l D cy q ad x_spX NC s0 (fun r => ad r.toNatClampNeg) yX7_wordOf (x_uw yX7_wordOf cX7_wordOf 1 (some (.object "java/lang/String"))) rm_X7_wordOf [.int a1] M z.1 z.2 := by
  refine x_metr hq (by decide) (Nat.le_of_ble_eq_true rfl) ?_
  intro p e s m args below meth c ls Q C hret hl hw
  have hx := C.1.1
  have hb := C.1.2.1
  have ho := C.1.2.2.2.1
  have hL := C.1.2.2.2.2
  have hl : lv_has ls 1 [(0, .int a1)] := hl
  unfold f_X7_wordOf at h
  refine lv_iload_n hx hb dX7_wordOf_0 rfl (lv_at hl 0 rfl) ?_
  refine (Decidable.em (a1 = (nI 0))).elim (fun c1_0 => ?_) (fun c1_0 => ?_)
  · rw [if_pos c1_0] at h
    rw [c1_0]
    refine lv_tableIn (off := 27) (tgt := 28) hx hb dX7_wordOf_1 (by decide) (by decide) (by decide) (by decide) ?_
    refine xh_ldcS C hz 1 (v := (nI 1)) rfl (by decide) dX7_wordOf_28 ?_
    exact hret dX7_wordOf_30 hw h
  rw [if_neg c1_0] at h
  refine (Decidable.em (a1 = (nI 1))).elim (fun c1_1 => ?_) (fun c1_1 => ?_)
  · rw [if_pos c1_1] at h
    rw [c1_1]
    refine lv_tableIn (off := 30) (tgt := 31) hx hb dX7_wordOf_1 (by decide) (by decide) (by decide) (by decide) ?_
    refine xh_ldcS C hz 2 (v := (nI 2)) rfl (by decide) dX7_wordOf_31 ?_
    exact hret dX7_wordOf_33 hw h
  rw [if_neg c1_1] at h
  refine (Decidable.em (a1 = (nI 2))).elim (fun c1_2 => ?_) (fun c1_2 => ?_)
  · rw [if_pos c1_2] at h
    rw [c1_2]
    refine lv_tableIn (off := 33) (tgt := 34) hx hb dX7_wordOf_1 (by decide) (by decide) (by decide) (by decide) ?_
    refine xh_ldcS C hz 3 (v := (nI 3)) rfl (by decide) dX7_wordOf_34 ?_
    exact hret dX7_wordOf_36 hw h
  rw [if_neg c1_2] at h
  refine lv_tableOut (tgt := 37) hx hb dX7_wordOf_1 (by have e0 := lv_neT c1_0 (show ((nI 0) : Int32).toInt = 0 by decide); have e1 := lv_neT c1_1 (show ((nI 1) : Int32).toInt = 1 by decide); have e2 := lv_neT c1_2 (show ((nI 2) : Int32).toInt = 2 by decide); omega) (by decide) ?_
  refine xh_ldcS C hz 4 (v := (nI 4)) rfl (by decide) dX7_wordOf_37 ?_
  exact hret dX7_wordOf_39 hw h
def f_J3_checkIndex_8e157_16 (M : x_M) (v0 : Int32) : Option (Int32 × x_M) := some (v0, M)
def f_J3_checkIndex_8e157_9 (M : x_M) (v0 : Int32) (v1 : Int32) : Option (Int32 × x_M) := none
def f_J3_checkIndex_8e157 (M : x_M) (a1 : Int32) (a2 : Int32) : Option (Int32 × x_M) := if a1 < 0 then f_J3_checkIndex_8e157_9 M a1 a2 else if a1 < a2 then f_J3_checkIndex_8e157_16 M a1 else f_J3_checkIndex_8e157_9 M a1 a2
abbrev rm_J3_checkIndex_8e157_n : Room := { frames := 0, cells := 0, slots := 0, locals := 0 }
set_option maxHeartbeats 4000000 in
set_option maxRecDepth 100000 in
theorem c_J3_checkIndex_8e157_n {l : Launch} {D : va_G} {cy : Nat → ClassId} {q ad : Nat → Nat} {NC : Nat} {s0 : State} (hq : x_Q q NC s0.heap.size) (hN : 88 ≤ NC) {M : x_M} {a1 : Int32} {a2 : Int32} {z : Int32 × x_M} (h : f_J3_checkIndex_8e157 M a1 a2 = some z) : x_Ci l D cy q ad x_spX NC s0 yJ3_checkIndex_8e157 (x_uw yJ3_checkIndex_8e157 cJ3_checkIndex_8e157 3 (some .int)) rm_J3_checkIndex_8e157_n [.int a1, .int a2, .null] M z.1 z.2 := by
  refine x_meti hq (by decide) (Nat.le_of_ble_eq_true rfl) ?_
  intro p e s m args below meth c ls Q C hret hl hw
  have hx := C.1.1
  have hb := C.1.2.1
  have ho := C.1.2.2.2.1
  have hL := C.1.2.2.2.2
  have hl : lv_has ls 3 [(0, .int a1), (1, .int a2), (2, .null)] := hl
  have w16 : ∀ (M : x_M) (v0 : Int32) (H : Heap) (locs : List Loc) (ls : Array Slot), x_B D cy q ad x_spX NC s H locs M → lv_has ls 3 [(0, .int v0)] → f_J3_checkIndex_8e157_16 M v0 = some z → W p l e rm_J3_checkIndex_8e157_n s m args below meth c H locs 0 0 Q (F0 m 16 ls []) := by
    intro M v0 H locs ls hw hl h
    unfold f_J3_checkIndex_8e157_16 at h
    refine lv_iload_n hx hb dJ3_checkIndex_8e157_16 rfl (lv_at hl 0 rfl) ?_
    exact hret dJ3_checkIndex_8e157_17 rfl hw h
  have w9 : ∀ (M : x_M) (v0 : Int32) (v1 : Int32) (H : Heap) (locs : List Loc) (ls : Array Slot), x_B D cy q ad x_spX NC s H locs M → lv_has ls 3 [(0, .int v0), (1, .int v1), (2, .null)] → f_J3_checkIndex_8e157_9 M v0 v1 = some z → W p l e rm_J3_checkIndex_8e157_n s m args below meth c H locs 0 0 Q (F0 m 9 ls []) := by
    intro M v0 v1 H locs ls hw hl h
    unfold f_J3_checkIndex_8e157_9 at h
    cases h
  unfold f_J3_checkIndex_8e157 at h
  refine lv_iload_n hx hb dJ3_checkIndex_8e157_0 rfl (lv_at hl 0 rfl) ?_
  refine x_if_lt (tgt := 9) hx hb h dJ3_checkIndex_8e157_1 (by decide) (fun h => ?_) (fun h => ?_)
  · exact w9 _ _ _ _ _ _ hw (lv_sub hl [0, 1, 2] rfl) h
  · refine lv_iload_n hx hb dJ3_checkIndex_8e157_4 rfl (lv_at hl 0 rfl) ?_
    refine lv_iload_n hx hb dJ3_checkIndex_8e157_5 rfl (lv_at hl 1 rfl) ?_
    refine x_icmp_lt (tgt := 16) hx hb h dJ3_checkIndex_8e157_6 (by decide) (fun h => ?_) (fun h => ?_)
    · exact w16 _ _ _ _ _ hw (lv_sub hl [0] rfl) h
    · exact w9 _ _ _ _ _ _ hw (lv_sub hl [0, 1, 2] rfl) h
abbrev rm_J3_checkIndex_8e157_x : Room := { frames := 0, cells := 0, slots := 0, locals := 0 }
set_option maxHeartbeats 4000000 in
set_option maxRecDepth 100000 in
theorem c_J3_checkIndex_8e157_x {l : Launch} {D : va_G} {cy : Nat → ClassId} {q ad : Nat → Nat} {NC : Nat} {s0 : State} (hq : x_Q q NC s0.heap.size) (hN : 88 ≤ NC) {M : x_M} {a1 : Int32} {a2 : Int32} {x3 : Nat} {z : Int32 × x_M} (h : f_J3_checkIndex_8e157 M a1 a2 = some z) : x_Ci l D cy q ad x_spX NC s0 yJ3_checkIndex_8e157 (x_uw yJ3_checkIndex_8e157 cJ3_checkIndex_8e157 3 (some .int)) rm_J3_checkIndex_8e157_x [.int a1, .int a2, .ref x3] M z.1 z.2 := by
  refine x_meti hq (by decide) (Nat.le_of_ble_eq_true rfl) ?_
  intro p e s m args below meth c ls Q C hret hl hw
  have hx := C.1.1
  have hb := C.1.2.1
  have ho := C.1.2.2.2.1
  have hL := C.1.2.2.2.2
  have hl : lv_has ls 3 [(0, .int a1), (1, .int a2), (2, .ref x3)] := hl
  have w16 : ∀ (M : x_M) (v0 : Int32) (H : Heap) (locs : List Loc) (ls : Array Slot), x_B D cy q ad x_spX NC s H locs M → lv_has ls 3 [(0, .int v0)] → f_J3_checkIndex_8e157_16 M v0 = some z → W p l e rm_J3_checkIndex_8e157_x s m args below meth c H locs 0 0 Q (F0 m 16 ls []) := by
    intro M v0 H locs ls hw hl h
    unfold f_J3_checkIndex_8e157_16 at h
    refine lv_iload_n hx hb dJ3_checkIndex_8e157_16 rfl (lv_at hl 0 rfl) ?_
    exact hret dJ3_checkIndex_8e157_17 rfl hw h
  have w9 : ∀ (M : x_M) (v0 : Int32) (v1 : Int32) (H : Heap) (locs : List Loc) (ls : Array Slot), x_B D cy q ad x_spX NC s H locs M → lv_has ls 3 [(0, .int v0), (1, .int v1), (2, .ref x3)] → f_J3_checkIndex_8e157_9 M v0 v1 = some z → W p l e rm_J3_checkIndex_8e157_x s m args below meth c H locs 0 0 Q (F0 m 9 ls []) := by
    intro M v0 v1 H locs ls hw hl h
    unfold f_J3_checkIndex_8e157_9 at h
    cases h
  unfold f_J3_checkIndex_8e157 at h
  refine lv_iload_n hx hb dJ3_checkIndex_8e157_0 rfl (lv_at hl 0 rfl) ?_
  refine x_if_lt (tgt := 9) hx hb h dJ3_checkIndex_8e157_1 (by decide) (fun h => ?_) (fun h => ?_)
  · exact w9 _ _ _ _ _ _ hw (lv_sub hl [0, 1, 2] rfl) h
  · refine lv_iload_n hx hb dJ3_checkIndex_8e157_4 rfl (lv_at hl 0 rfl) ?_
    refine lv_iload_n hx hb dJ3_checkIndex_8e157_5 rfl (lv_at hl 1 rfl) ?_
    refine x_icmp_lt (tgt := 16) hx hb h dJ3_checkIndex_8e157_6 (by decide) (fun h => ?_) (fun h => ?_)
    · exact w16 _ _ _ _ _ hw (lv_sub hl [0] rfl) h
    · exact w9 _ _ _ _ _ _ hw (lv_sub hl [0, 1, 2] rfl) h
def f_J0_checkIndex_df160 (M : x_M) (a1 : Int32) (a2 : Int32) : Option (Unit × x_M) := x_bn (f_J3_checkIndex_8e157 M a1 a2) (fun r5 M => some ((), M))
abbrev rm_J0_checkIndex_df160 : Room := { frames := 1, cells := 0, slots := 0, locals := 22 }
set_option maxHeartbeats 4000000 in
set_option maxRecDepth 100000 in
theorem c_J0_checkIndex_df160 {l : Launch} {D : va_G} {cy : Nat → ClassId} {q ad : Nat → Nat} {NC : Nat} {s0 : State} {adV : Nat → Nat} (hq : x_Q q NC s0.heap.size) (hN : 88 ≤ NC) (hz : x_Z s0 ad adV) {M : x_M} {a1 : Int32} {a2 : Int32} {z : Unit × x_M} (h : f_J0_checkIndex_df160 M a1 a2 = some z) : x_Cv l D cy q ad x_spX NC s0 yJ0_checkIndex_df160 (x_uw yJ0_checkIndex_df160 cJ0_checkIndex_df160 2 none) rm_J0_checkIndex_df160 [.int a1, .int a2] M z.2 := by
  refine x_metv hq (by decide) (Nat.le_of_ble_eq_true rfl) ?_
  intro p e s m args below meth c ls Q C hret hl hw
  have hx := C.1.1
  have hb := C.1.2.1
  have ho := C.1.2.2.2.1
  have hL := C.1.2.2.2.2
  have hl : lv_has ls 2 [(0, .int a1), (1, .int a2)] := hl
  unfold f_J0_checkIndex_df160 at h
  refine lv_iload_n hx hb dJ0_checkIndex_df160_0 rfl (lv_at hl 0 rfl) ?_
  refine lv_iload_n hx hb dJ0_checkIndex_df160_1 rfl (lv_at hl 1 rfl) ?_
  refine xh_sio C hw hz lk_RJ0_1053 dJ0_checkIndex_df160_2 ?_ (fun x2 => ?_)
  · refine xh_cSi C hw (rest := []) h (fun _ hy => c_J3_checkIndex_8e157_n hq hN hy) ml_RJ0_1059 st_J3_checkIndex_8e157 ⟨rfl, rfl, by decide, by decide⟩ rfl hl.1 rfl (Nat.le_of_ble_eq_true rfl) dJ0_checkIndex_df160_5 (fun H locs r5 M hw h => ?_)
    refine lv_pop hx hb dJ0_checkIndex_df160_8 rfl ?_
    exact hret dJ0_checkIndex_df160_9 hw h
  · refine xh_cSi C hw (rest := []) h (fun _ hy => c_J3_checkIndex_8e157_x hq hN hy) ml_RJ0_1059 st_J3_checkIndex_8e157 ⟨rfl, rfl, by decide, by decide⟩ rfl hl.1 rfl (Nat.le_of_ble_eq_true rfl) dJ0_checkIndex_df160_5 (fun H locs r5 M hw h => ?_)
    refine lv_pop hx hb dJ0_checkIndex_df160_8 rfl ?_
    exact hret dJ0_checkIndex_df160_9 hw h
def f_J1_charAt_3b067 (M : x_M) (a1 : Int32) (a2 : Int32) : Option (Int32 × x_M) := x_ls a1 (fun r2 => x_bn (f_J0_checkIndex_df160 M a2 r2) (fun _ M => x_rs a1 a2 (fun r8 => some (((((r8 &&& (nI 255))).toUInt32 % 65536).toInt32), M))))
abbrev rm_J1_charAt_3b067 : Room := { frames := 2, cells := 0, slots := 0, locals := 43 }
set_option maxHeartbeats 4000000 in
set_option maxRecDepth 100000 in
theorem c_J1_charAt_3b067 {l : Launch} {D : va_G} {cy : Nat → ClassId} {q ad : Nat → Nat} {NC : Nat} {s0 : State} {adV : Nat → Nat} (hq : x_Q q NC s0.heap.size) (hN : 88 ≤ NC) (hz : x_Z s0 ad adV) {M : x_M} {a1 : Int32} {a2 : Int32} {z : Int32 × x_M} (h : f_J1_charAt_3b067 M a1 a2 = some z) : x_Ci l D cy q ad x_spX NC s0 yJ1_charAt_3b067 (x_uw yJ1_charAt_3b067 cJ1_charAt_3b067 2 (some .char)) rm_J1_charAt_3b067 [.ref (adV (a1).toNatClampNeg), .int a2] M z.1 z.2 := by
  refine x_meti hq (by decide) (Nat.le_of_ble_eq_true rfl) ?_
  intro p e s m args below meth c ls Q C hret hl hw
  have hx := C.1.1
  have hb := C.1.2.1
  have ho := C.1.2.2.2.1
  have hL := C.1.2.2.2.2
  have hl : lv_has ls 2 [(0, .ref (adV (a1).toNatClampNeg)), (1, .int a2)] := hl
  unfold f_J1_charAt_3b067 at h
  refine lv_iload_n hx hb dJ1_charAt_3b067_0 rfl (lv_at hl 1 rfl) ?_
  refine lv_aload_n hx hb dJ1_charAt_3b067_1 rfl (lv_at hl 0 rfl) ?_
  refine xh_tlen C hw hz h dJ1_charAt_3b067_2 (fun r2 h => ?_)
  refine xh_cSv C hw (rest := []) h (fun _ hy => c_J0_checkIndex_df160 hq hN hz hy) ml_RJ1_9 st_J0_checkIndex_df160 ⟨rfl, rfl, by decide, by decide⟩ rfl hl.1 rfl (Nat.le_of_ble_eq_true rfl) dJ1_charAt_3b067_3 (fun H locs _ M hw h => ?_)
  refine lv_aload_n hx hb dJ1_charAt_3b067_6 rfl (lv_at hl 0 rfl) ?_
  refine lv_iload_n hx hb dJ1_charAt_3b067_7 rfl (lv_at hl 1 rfl) ?_
  refine xh_tb C hw hz h dJ1_charAt_3b067_8 (fun r8 h => ?_)
  refine lv_sipush (v := (nI 255)) hx hb dJ1_charAt_3b067_9 (by decide) ?_
  refine lv_iand hx hb dJ1_charAt_3b067_12 ?_
  refine lv_i2c hx hb dJ1_charAt_3b067_13 rfl ?_
  exact hret dJ1_charAt_3b067_14 (pk_nc _) hw h
def f_J0_charAt_5068e (M : x_M) (a0 : Int32) (a1 : Int32) : Option (Int32 × x_M) := x_cs a0 (x_bn (f_J0_isLatin1_aae02 M a0) (fun r1 M => if r1 = 0 then none else x_cs a0 (x_bn (f_J1_charAt_3b067 M a0 a1) (fun r12 M => x_ch r12 (some (r12, M))))))
abbrev rm_J0_charAt_5068e : Room := { frames := 3, cells := 0, slots := 0, locals := 64 }
set_option maxHeartbeats 4000000 in
set_option maxRecDepth 100000 in
theorem c_J0_charAt_5068e {l : Launch} {D : va_G} {cy : Nat → ClassId} {q ad : Nat → Nat} {NC : Nat} {s0 : State} {adV : Nat → Nat} (hq : x_Q q NC s0.heap.size) (hN : 88 ≤ NC) (hz : x_Z s0 ad adV) {M : x_M} {a0 : Int32} {a1 : Int32} {z : Int32 × x_M} (h : f_J0_charAt_5068e M a0 a1 = some z) : x_Ci l D cy q ad x_spX NC s0 yJ0_charAt_5068e (x_uw yJ0_charAt_5068e cJ0_charAt_5068e 2 (some .char)) rm_J0_charAt_5068e [.ref (ad (a0).toNatClampNeg), .int a1] M z.1 z.2 := by
  refine x_meti hq (by decide) (Nat.le_of_ble_eq_true rfl) ?_
  intro p e s m args below meth c ls Q C hret hl hw
  have hx := C.1.1
  have hb := C.1.2.1
  have ho := C.1.2.2.2.1
  have hL := C.1.2.2.2.2
  have hl : lv_has ls 2 [(0, .ref (ad (a0).toNatClampNeg)), (1, .int a1)] := hl
  unfold f_J0_charAt_5068e at h
  refine lv_aload_n hx hb dJ0_charAt_5068e_0 rfl (lv_at hl 0 rfl) ?_
  refine xh_cTi C hw (rest := []) hz h (fun _ hy => c_J0_isLatin1_aae02 hq hN hz hy) ml_RJ0_492 mv_J0_isLatin1_aae02 rfl ⟨rfl, rfl, by decide, by decide⟩ rfl hl.1 rfl (Nat.le_of_ble_eq_true rfl) dJ0_charAt_5068e_1 (fun H locs r1 M hw h => ?_)
  refine x_if_eq (tgt := 16) hx hb h dJ0_charAt_5068e_4 (by decide) (fun h => ?_) (fun h => ?_)
  · cases h
  · refine lv_aload_n hx hb dJ0_charAt_5068e_7 rfl (lv_at hl 0 rfl) ?_
    refine xh_strV C hw hz h lk_RJ0_9 dJ0_charAt_5068e_8 (fun h => ?_)
    refine lv_iload_n hx hb dJ0_charAt_5068e_11 rfl (lv_at hl 1 rfl) ?_
    refine xh_cSi C hw (rest := []) h (fun _ hy => c_J1_charAt_3b067 hq hN hz hy) ml_RJ0_495 st_J1_charAt_3b067 ⟨rfl, rfl, by decide, by decide⟩ rfl hl.1 rfl (Nat.le_of_ble_eq_true rfl) dJ0_charAt_5068e_12 (fun H locs r12 M hw h => ?_)
    exact hret dJ0_charAt_5068e_15 (x_ch_some h).1 hw (x_ch_some h).2
def f_X7_isWord_31 (M : x_M) : Option (Int32 × x_M) := some ((nI 0), M)
def f_X7_isWord_35 : Nat → x_M → Int32 → Int32 → Option (Int32 × x_M)
  | 0, _, _, _ => none
  | n + 1, M, v1, v2 => x_cs v1 (x_bn (f_J0_length_8abf5 M v1) (fun r37 M => if r37 ≤ v2 then some ((nI 1), M) else x_gf M 80 6 (fun r48 => x_rd 132 (M 81) (r48 + v2) (fun r53 => x_cs v1 (x_bn (f_J0_charAt_5068e M v1 v2) (fun r56 M => if r53 = r56 then (f_X7_isWord_35 n) M v1 (v2 + (nI 1)) else some ((nI 0), M)))))))
theorem f_X7_isWord_35_0 (M : x_M) (v1 : Int32) (v2 : Int32) : f_X7_isWord_35 0 M v1 v2 = none := rfl
theorem f_X7_isWord_35_s (n : Nat) (M : x_M) (v1 : Int32) (v2 : Int32) : f_X7_isWord_35 (n + 1) M v1 v2 = (x_cs v1 (x_bn (f_J0_length_8abf5 M v1) (fun r37 M => if r37 ≤ v2 then some ((nI 1), M) else x_gf M 80 6 (fun r48 => x_rd 132 (M 81) (r48 + v2) (fun r53 => x_cs v1 (x_bn (f_J0_charAt_5068e M v1 v2) (fun r56 M => if r53 = r56 then (f_X7_isWord_35 n) M v1 (v2 + (nI 1)) else some ((nI 0), M)))))))) := rfl
def f_X7_isWord (M : x_M) (a1 : Int32) : Option (Int32 × x_M) := x_gf M 80 8 (fun r1 => if r1 = (nI 1) then x_gf M 80 9 (fun r9 => if r9 = 0 then x_gf M 80 7 (fun r16 => x_gf M 80 6 (fun r20 => x_cs a1 (x_bn (f_J0_length_8abf5 M a1) (fun r25 M => if (r16 - r20) = r25 then f_X7_isWord_35 x_FU M a1 (nI 0) else f_X7_isWord_31 M)))) else f_X7_isWord_31 M) else f_X7_isWord_31 M)
abbrev rm_X7_isWord : Room := { frames := 4, cells := 0, slots := 0, locals := 85 }
set_option maxHeartbeats 4000000 in
set_option maxRecDepth 100000 in
theorem c_X7_isWord {l : Launch} {D : va_G} {cy : Nat → ClassId} {q ad : Nat → Nat} {NC : Nat} {s0 : State} {adV : Nat → Nat} (hq : x_Q q NC s0.heap.size) (hN : 88 ≤ NC) (hz : x_Z s0 ad adV) {M : x_M} {a1 : Int32} {z : Int32 × x_M} (h : f_X7_isWord M a1 = some z) : x_Ci l D cy q ad x_spX NC s0 yX7_isWord (x_uw yX7_isWord cX7_isWord 3 (some .boolean)) rm_X7_isWord [.ref (q 80), .ref (ad (a1).toNatClampNeg)] M z.1 z.2 := by
  refine x_meti hq (by decide) (Nat.le_of_ble_eq_true rfl) ?_
  intro p e s m args below meth c ls Q C hret hl hw
  have hx := C.1.1
  have hb := C.1.2.1
  have ho := C.1.2.2.2.1
  have hL := C.1.2.2.2.2
  have hl : lv_has ls 3 [(0, .ref (q 80)), (1, .ref (ad (a1).toNatClampNeg))] := hl
  have w31 : ∀ (M : x_M) (H : Heap) (locs : List Loc) (ls : Array Slot), x_B D cy q ad x_spX NC s H locs M → lv_has ls 3 [] → f_X7_isWord_31 M = some z → W p l e rm_X7_isWord s m args below meth c H locs 0 0 Q (F0 m 31 ls []) := by
    intro M H locs ls hw hl h
    unfold f_X7_isWord_31 at h
    refine lv_iconst (v := (nI 0)) hx hb dX7_isWord_31 (by decide) ?_
    exact hret dX7_isWord_32 rfl hw h
  have w35 : ∀ (n : Nat) (M : x_M) (v1 : Int32) (v2 : Int32) (H : Heap) (locs : List Loc) (ls : Array Slot), x_B D cy q ad x_spX NC s H locs M → lv_has ls 3 [(0, .ref (q 80)), (1, .ref (ad (v1).toNatClampNeg)), (2, .int v2)] → f_X7_isWord_35 n M v1 v2 = some z → W p l e rm_X7_isWord s m args below meth c H locs 0 0 Q (F0 m 35 ls []) := by
    intro n
    induction n with
    | zero =>
      intro M v1 v2 H locs ls hw hl h
      rw [f_X7_isWord_35_0] at h
      cases h
    | succ n35 ih35 =>
      intro M v1 v2 H locs ls hw hl h
      rw [f_X7_isWord_35_s] at h
      refine lv_iload_n hx hb dX7_isWord_35 rfl (lv_at hl 2 rfl) ?_
      refine lv_aload_n hx hb dX7_isWord_36 rfl (lv_at hl 1 rfl) ?_
      refine xh_cTi C hw (rest := [_]) hz h (fun _ hy => c_J0_length_8abf5 hq hN hz hy) ml_RX7_135 mv_J0_length_8abf5 rfl ⟨rfl, rfl, by decide, by decide⟩ rfl hl.1 rfl (Nat.le_of_ble_eq_true rfl) dX7_isWord_37 (fun H locs r37 M hw h => ?_)
      refine x_icmp_ge (tgt := 70) hx hb h dX7_isWord_40 (by decide) (fun h => ?_) (fun h => ?_)
      · refine lv_iconst (v := (nI 1)) hx hb dX7_isWord_70 (by decide) ?_
        exact hret dX7_isWord_71 rfl hw h
      · refine lv_aload_n hx hb dX7_isWord_43 rfl (lv_at hl 0 rfl) ?_
        refine xh_getr C hw 80 0 sX_80 (x_lt hN rfl) rfl rfl rfl lk_RX7_9 dX7_isWord_44 ?_
        refine lv_aload_n hx hb dX7_isWord_47 rfl (lv_at hl 0 rfl) ?_
        refine xh_geti C hw 80 6 h sX_80 (x_lt hN rfl) rfl rfl rfl lk_RX7_116 dX7_isWord_48 (fun r48 h => ?_)
        refine lv_iload_n hx hb dX7_isWord_51 rfl (lv_at hl 2 rfl) ?_
        refine lv_iadd hx hb dX7_isWord_52 ?_
        refine xh_bald C hw 81 132 h sX_81 (x_lt hN rfl) dX7_isWord_53 (fun r53 h => ?_)
        refine lv_aload_n hx hb dX7_isWord_54 rfl (lv_at hl 1 rfl) ?_
        refine lv_iload_n hx hb dX7_isWord_55 rfl (lv_at hl 2 rfl) ?_
        refine xh_cTi C hw (rest := [_]) hz h (fun _ hy => c_J0_charAt_5068e hq hN hz hy) ml_RX7_140 mv_J0_charAt_5068e rfl ⟨rfl, rfl, by decide, by decide⟩ rfl hl.1 rfl (Nat.le_of_ble_eq_true rfl) dX7_isWord_56 (fun H locs r56 M hw h => ?_)
        refine x_icmp_eq (tgt := 64) hx hb h dX7_isWord_59 (by decide) (fun h => ?_) (fun h => ?_)
        · refine lv_iinc (lv' := [(2, .int _), (0, .ref (q 80)), (1, .ref _)]) hx hb dX7_isWord_64 hl (k := 2) rfl (x_inc (show Int32.ofInt 1 = (nI 1) by decide) _) (by decide) rfl (fun ls hl => ?_)
          refine lv_goto (tgt := 35) hx hb dX7_isWord_67 (by decide) ?_
          exact ih35 _ _ _ _ _ _ hw (lv_sub hl [1, 2, 0] rfl) h
        · refine lv_iconst (v := (nI 0)) hx hb dX7_isWord_62 (by decide) ?_
          exact hret dX7_isWord_63 rfl hw h
  unfold f_X7_isWord at h
  refine lv_aload_n hx hb dX7_isWord_0 rfl (lv_at hl 0 rfl) ?_
  refine xh_geti C hw 80 8 h sX_80 (x_lt hN rfl) rfl rfl rfl lk_RX7_61 dX7_isWord_1 (fun r1 h => ?_)
  refine lv_iconst (v := (nI 1)) hx hb dX7_isWord_4 (by decide) ?_
  refine x_icmp_ne (tgt := 31) hx hb h dX7_isWord_5 (by decide) (fun h => ?_) (fun h => ?_)
  · refine lv_aload_n hx hb dX7_isWord_8 rfl (lv_at hl 0 rfl) ?_
    refine xh_geti C hw 80 9 h sX_80 (x_lt hN rfl) rfl rfl rfl lk_RX7_125 dX7_isWord_9 (fun r9 h => ?_)
    refine x_if_ne (tgt := 31) hx hb h dX7_isWord_12 (by decide) (fun h => ?_) (fun h => ?_)
    · refine lv_aload_n hx hb dX7_isWord_15 rfl (lv_at hl 0 rfl) ?_
      refine xh_geti C hw 80 7 h sX_80 (x_lt hN rfl) rfl rfl rfl lk_RX7_58 dX7_isWord_16 (fun r16 h => ?_)
      refine lv_aload_n hx hb dX7_isWord_19 rfl (lv_at hl 0 rfl) ?_
      refine xh_geti C hw 80 6 h sX_80 (x_lt hN rfl) rfl rfl rfl lk_RX7_116 dX7_isWord_20 (fun r20 h => ?_)
      refine lv_isub hx hb dX7_isWord_23 ?_
      refine lv_aload_n hx hb dX7_isWord_24 rfl (lv_at hl 1 rfl) ?_
      refine xh_cTi C hw (rest := [_]) hz h (fun _ hy => c_J0_length_8abf5 hq hN hz hy) ml_RX7_135 mv_J0_length_8abf5 rfl ⟨rfl, rfl, by decide, by decide⟩ rfl hl.1 rfl (Nat.le_of_ble_eq_true rfl) dX7_isWord_25 (fun H locs r25 M hw h => ?_)
      refine x_icmp_eq (tgt := 33) hx hb h dX7_isWord_28 (by decide) (fun h => ?_) (fun h => ?_)
      · refine lv_iconst (v := (nI 0)) hx hb dX7_isWord_33 (by decide) ?_
        refine lv_istore_n (lv' := [(2, .int _), (0, .ref (q 80)), (1, .ref _)]) hx hb dX7_isWord_34 rfl hl (by decide) rfl (fun ls hl => ?_)
        exact w35 _ _ _ _ _ _ _ hw (lv_sub hl [1, 2, 0] rfl) h
      · exact w31 _ _ _ _ hw (lv_sub hl [] rfl) h
    · exact w31 _ _ _ _ hw (lv_sub hl [] rfl) h
  · exact w31 _ _ _ _ hw (lv_sub hl [] rfl) h
def f_X7_namesOf (M : x_M) (a1 : Int32) : Option (Int32 × x_M) := if a1 = (nI 0) then some ((nI 5), M) else if a1 = (nI 1) then some ((nI 6), M) else if a1 = (nI 2) then some ((nI 7), M) else some ((nI 8), M)
abbrev rm_X7_namesOf : Room := { frames := 0, cells := 0, slots := 0, locals := 0 }
set_option maxHeartbeats 4000000 in
set_option maxRecDepth 100000 in
theorem c_X7_namesOf {l : Launch} {D : va_G} {cy : Nat → ClassId} {q ad : Nat → Nat} {NC : Nat} {s0 : State} {adV : Nat → Nat} (hq : x_Q q NC s0.heap.size) (hN : 88 ≤ NC) (hz : x_Z s0 ad adV) {M : x_M} {a1 : Int32} {z : Int32 × x_M} (h : f_X7_namesOf M a1 = some z) : x_Cr l D cy q ad x_spX NC s0 (fun r => ad r.toNatClampNeg) yX7_namesOf (x_uw yX7_namesOf cX7_namesOf 1 (some (.object "java/lang/String"))) rm_X7_namesOf [.int a1] M z.1 z.2 := by
  refine x_metr hq (by decide) (Nat.le_of_ble_eq_true rfl) ?_
  intro p e s m args below meth c ls Q C hret hl hw
  have hx := C.1.1
  have hb := C.1.2.1
  have ho := C.1.2.2.2.1
  have hL := C.1.2.2.2.2
  have hl : lv_has ls 1 [(0, .int a1)] := hl
  unfold f_X7_namesOf at h
  refine lv_iload_n hx hb dX7_namesOf_0 rfl (lv_at hl 0 rfl) ?_
  refine (Decidable.em (a1 = (nI 0))).elim (fun c1_0 => ?_) (fun c1_0 => ?_)
  · rw [if_pos c1_0] at h
    rw [c1_0]
    refine lv_tableIn (off := 27) (tgt := 28) hx hb dX7_namesOf_1 (by decide) (by decide) (by decide) (by decide) ?_
    refine xh_ldcS C hz 5 (v := (nI 5)) rfl (by decide) dX7_namesOf_28 ?_
    exact hret dX7_namesOf_30 hw h
  rw [if_neg c1_0] at h
  refine (Decidable.em (a1 = (nI 1))).elim (fun c1_1 => ?_) (fun c1_1 => ?_)
  · rw [if_pos c1_1] at h
    rw [c1_1]
    refine lv_tableIn (off := 30) (tgt := 31) hx hb dX7_namesOf_1 (by decide) (by decide) (by decide) (by decide) ?_
    refine xh_ldcS C hz 6 (v := (nI 6)) rfl (by decide) dX7_namesOf_31 ?_
    exact hret dX7_namesOf_33 hw h
  rw [if_neg c1_1] at h
  refine (Decidable.em (a1 = (nI 2))).elim (fun c1_2 => ?_) (fun c1_2 => ?_)
  · rw [if_pos c1_2] at h
    rw [c1_2]
    refine lv_tableIn (off := 33) (tgt := 34) hx hb dX7_namesOf_1 (by decide) (by decide) (by decide) (by decide) ?_
    refine xh_ldcS C hz 7 (v := (nI 7)) rfl (by decide) dX7_namesOf_34 ?_
    exact hret dX7_namesOf_36 hw h
  rw [if_neg c1_2] at h
  refine lv_tableOut (tgt := 37) hx hb dX7_namesOf_1 (by have e0 := lv_neT c1_0 (show ((nI 0) : Int32).toInt = 0 by decide); have e1 := lv_neT c1_1 (show ((nI 1) : Int32).toInt = 1 by decide); have e2 := lv_neT c1_2 (show ((nI 2) : Int32).toInt = 2 by decide); omega) (by decide) ?_
  refine xh_ldcS C hz 8 (v := (nI 8)) rfl (by decide) dX7_namesOf_37 ?_
  exact hret dX7_namesOf_39 hw h
def f_X7_isTerms_36 : Nat → x_M → Int32 → Option (Int32 × x_M)
  | 0, _, _ => none
  | n + 1, M, v1 => if (nI 4) ≤ v1 then x_gf M 80 8 (fun r93 => if r93 = 0 then some ((nI 1), M) else some ((nI 0), M)) else x_bn (f_X7_wordOf M v1) (fun r43 M => x_bn (f_X7_isWord M r43) (fun r46 M => if r46 = 0 then some ((nI 0), M) else x_bn (f_X7_next M) (fun _ M => x_bn (f_X7_namesOf M v1) (fun r60 M => x_pf M 80 13 r60 (fun M => x_bn ((x_rec x_DEP).1 M (nI 0)) (fun r68 M => if r68 = 0 then some ((nI 0), M) else x_gf M 80 10 (fun r82 => x_wr 4 M 83 v1 r82 (fun M => (f_X7_isTerms_36 n) M (v1 + (nI 1))))))))))
theorem f_X7_isTerms_36_0 (M : x_M) (v1 : Int32) : f_X7_isTerms_36 0 M v1 = none := rfl
theorem f_X7_isTerms_36_s (n : Nat) (M : x_M) (v1 : Int32) : f_X7_isTerms_36 (n + 1) M v1 = (if (nI 4) ≤ v1 then x_gf M 80 8 (fun r93 => if r93 = 0 then some ((nI 1), M) else some ((nI 0), M)) else x_bn (f_X7_wordOf M v1) (fun r43 M => x_bn (f_X7_isWord M r43) (fun r46 M => if r46 = 0 then some ((nI 0), M) else x_bn (f_X7_next M) (fun _ M => x_bn (f_X7_namesOf M v1) (fun r60 M => x_pf M 80 13 r60 (fun M => x_bn ((x_rec x_DEP).1 M (nI 0)) (fun r68 M => if r68 = 0 then some ((nI 0), M) else x_gf M 80 10 (fun r82 => x_wr 4 M 83 v1 r82 (fun M => (f_X7_isTerms_36 n) M (v1 + (nI 1))))))))))) := rfl
def f_X7_isTerms (M : x_M) : Option (Int32 × x_M) := x_pf M 80 5 (nI 0) (fun M => x_pf M 80 10 (nI 0) (fun M => x_pf M 80 11 (nI 0) (fun M => x_pf M 80 12 (nI 0) (fun M => x_pf M 80 7 (nI 0) (fun M => x_pf M 80 8 (nI 0) (fun M => x_bn (f_X7_next M) (fun _ M => f_X7_isTerms_36 x_FU M (nI 0))))))))
abbrev rm_X7_isTerms : Room := { frames := 733, cells := 0, slots := 0, locals := 30700 }
set_option maxHeartbeats 4000000 in
set_option maxRecDepth 100000 in
theorem c_X7_isTerms {l : Launch} {D : va_G} {cy : Nat → ClassId} {q ad : Nat → Nat} {NC : Nat} {s0 : State} {adV : Nat → Nat} (hq : x_Q q NC s0.heap.size) (hN : 88 ≤ NC) (hz : x_Z s0 ad adV) {M : x_M} {z : Int32 × x_M} (h : f_X7_isTerms M = some z) : x_Ci l D cy q ad x_spX NC s0 yX7_isTerms (x_uw yX7_isTerms cX7_isTerms 2 (some .boolean)) rm_X7_isTerms [.ref (q 80)] M z.1 z.2 := by
  refine x_meti hq (by decide) (Nat.le_of_ble_eq_true rfl) ?_
  intro p e s m args below meth c ls Q C hret hl hw
  have hx := C.1.1
  have hb := C.1.2.1
  have ho := C.1.2.2.2.1
  have hL := C.1.2.2.2.2
  have hl : lv_has ls 2 [(0, .ref (q 80))] := hl
  have w36 : ∀ (n : Nat) (M : x_M) (v1 : Int32) (H : Heap) (locs : List Loc) (ls : Array Slot), x_B D cy q ad x_spX NC s H locs M → lv_has ls 2 [(0, .ref (q 80)), (1, .int v1)] → f_X7_isTerms_36 n M v1 = some z → W p l e rm_X7_isTerms s m args below meth c H locs 0 0 Q (F0 m 36 ls []) := by
    intro n
    induction n with
    | zero =>
      intro M v1 H locs ls hw hl h
      rw [f_X7_isTerms_36_0] at h
      cases h
    | succ n36 ih36 =>
      intro M v1 H locs ls hw hl h
      rw [f_X7_isTerms_36_s] at h
      refine lv_iload_n hx hb dX7_isTerms_36 rfl (lv_at hl 1 rfl) ?_
      refine lv_iconst (v := (nI 4)) hx hb dX7_isTerms_37 (by decide) ?_
      refine x_icmp_ge (tgt := 92) hx hb h dX7_isTerms_38 (by decide) (fun h => ?_) (fun h => ?_)
      · refine lv_aload_n hx hb dX7_isTerms_92 rfl (lv_at hl 0 rfl) ?_
        refine xh_geti C hw 80 8 h sX_80 (x_lt hN rfl) rfl rfl rfl lk_RX7_61 dX7_isTerms_93 (fun r93 h => ?_)
        refine x_if_ne (tgt := 103) hx hb h dX7_isTerms_96 (by decide) (fun h => ?_) (fun h => ?_)
        · refine lv_iconst (v := (nI 1)) hx hb dX7_isTerms_99 (by decide) ?_
          refine lv_goto (tgt := 104) hx hb dX7_isTerms_100 (by decide) ?_
          exact hret dX7_isTerms_104 rfl hw h
        · refine lv_iconst (v := (nI 0)) hx hb dX7_isTerms_103 (by decide) ?_
          exact hret dX7_isTerms_104 rfl hw h
      · refine lv_aload_n hx hb dX7_isTerms_41 rfl (lv_at hl 0 rfl) ?_
        refine lv_iload_n hx hb dX7_isTerms_42 rfl (lv_at hl 1 rfl) ?_
        refine xh_cSr C hw (rest := [_]) h (fun _ hy => c_X7_wordOf hq hN hz hy) ml_RX7_67 st_X7_wordOf ⟨rfl, rfl, by decide, by decide⟩ rfl hl.1 rfl (Nat.le_of_ble_eq_true rfl) dX7_isTerms_43 (fun H locs r43 M hw h => ?_)
        refine xh_cVi C hw (rest := []) h (fun _ hy => c_X7_isWord hq hN hz hy) ml_RX7_71 mv_X7_isWord sX_80 (x_lt hN rfl) rfl ⟨rfl, rfl, by decide, by decide⟩ rfl hl.1 rfl (Nat.le_of_ble_eq_true rfl) dX7_isTerms_46 (fun H locs r46 M hw h => ?_)
        refine x_if_ne (tgt := 54) hx hb h dX7_isTerms_49 (by decide) (fun h => ?_) (fun h => ?_)
        · refine lv_iconst (v := (nI 0)) hx hb dX7_isTerms_52 (by decide) ?_
          exact hret dX7_isTerms_53 rfl hw h
        · refine lv_aload_n hx hb dX7_isTerms_54 rfl (lv_at hl 0 rfl) ?_
          refine xh_cVv C hw (rest := []) h (fun _ hy => c_X7_next hq hN hy) ml_RX7_64 mv_X7_next sX_80 (x_lt hN rfl) rfl ⟨rfl, rfl, by decide, by decide⟩ rfl hl.1 rfl (Nat.le_of_ble_eq_true rfl) dX7_isTerms_55 (fun H locs _ M hw h => ?_)
          refine lv_aload_n hx hb dX7_isTerms_58 rfl (lv_at hl 0 rfl) ?_
          refine lv_iload_n hx hb dX7_isTerms_59 rfl (lv_at hl 1 rfl) ?_
          refine xh_cSr C hw (rest := [_]) h (fun _ hy => c_X7_namesOf hq hN hz hy) ml_RX7_75 st_X7_namesOf ⟨rfl, rfl, by decide, by decide⟩ rfl hl.1 rfl (Nat.le_of_ble_eq_true rfl) dX7_isTerms_60 (fun H locs r60 M hw h => ?_)
          refine xh_puts C hw 80 13 h sX_80 (x_lt hN rfl) rfl rfl rfl lk_RX7_24 rfl rfl dX7_isTerms_63 (fun H locs M hw h => ?_)
          refine lv_aload_n hx hb dX7_isTerms_66 rfl (lv_at hl 0 rfl) ?_
          refine lv_iconst (v := (nI 0)) hx hb dX7_isTerms_67 (by decide) ?_
          refine xh_cVi C hw (rest := []) h (fun _ hy => (x_rec_ok hq hN hz x_DEP).1 hy) ml_RX7_78 mv_X7_isJoined sX_80 (x_lt hN rfl) rfl ⟨rfl, rfl, by decide, by decide⟩ rfl hl.1 rfl (Nat.le_of_ble_eq_true rfl) dX7_isTerms_68 (fun H locs r68 M hw h => ?_)
          refine x_if_ne (tgt := 76) hx hb h dX7_isTerms_71 (by decide) (fun h => ?_) (fun h => ?_)
          · refine lv_iconst (v := (nI 0)) hx hb dX7_isTerms_74 (by decide) ?_
            exact hret dX7_isTerms_75 rfl hw h
          · refine lv_aload_n hx hb dX7_isTerms_76 rfl (lv_at hl 0 rfl) ?_
            refine xh_getr C hw 80 2 sX_80 (x_lt hN rfl) rfl rfl rfl lk_RX7_19 dX7_isTerms_77 ?_
            refine lv_iload_n hx hb dX7_isTerms_80 rfl (lv_at hl 1 rfl) ?_
            refine lv_aload_n hx hb dX7_isTerms_81 rfl (lv_at hl 0 rfl) ?_
            refine xh_geti C hw 80 10 h sX_80 (x_lt hN rfl) rfl rfl rfl lk_RX7_37 dX7_isTerms_82 (fun r82 h => ?_)
            refine xh_iast C hw 83 4 h sX_83 (x_lt hN rfl) dX7_isTerms_85 (fun H locs M hw h => ?_)
            refine lv_iinc (lv' := [(1, .int _), (0, .ref (q 80))]) hx hb dX7_isTerms_86 hl (k := 1) rfl (x_inc (show Int32.ofInt 1 = (nI 1) by decide) _) (by decide) rfl (fun ls hl => ?_)
            refine lv_goto (tgt := 36) hx hb dX7_isTerms_89 (by decide) ?_
            exact ih36 _ _ _ _ _ hw (lv_sub hl [1, 0] rfl) h
  unfold f_X7_isTerms at h
  refine lv_aload_n hx hb dX7_isTerms_0 rfl (lv_at hl 0 rfl) ?_
  refine lv_iconst (v := (nI 0)) hx hb dX7_isTerms_1 (by decide) ?_
  refine xh_puti C hw 80 5 h sX_80 (x_lt hN rfl) rfl rfl rfl lk_RX7_49 rfl rfl dX7_isTerms_2 (fun H locs M hw h => ?_)
  refine lv_aload_n hx hb dX7_isTerms_5 rfl (lv_at hl 0 rfl) ?_
  refine lv_iconst (v := (nI 0)) hx hb dX7_isTerms_6 (by decide) ?_
  refine xh_puti C hw 80 10 h sX_80 (x_lt hN rfl) rfl rfl rfl lk_RX7_37 rfl rfl dX7_isTerms_7 (fun H locs M hw h => ?_)
  refine lv_aload_n hx hb dX7_isTerms_10 rfl (lv_at hl 0 rfl) ?_
  refine lv_iconst (v := (nI 0)) hx hb dX7_isTerms_11 (by decide) ?_
  refine xh_puti C hw 80 11 h sX_80 (x_lt hN rfl) rfl rfl rfl lk_RX7_52 rfl rfl dX7_isTerms_12 (fun H locs M hw h => ?_)
  refine lv_aload_n hx hb dX7_isTerms_15 rfl (lv_at hl 0 rfl) ?_
  refine lv_iconst (v := (nI 0)) hx hb dX7_isTerms_16 (by decide) ?_
  refine xh_puti C hw 80 12 h sX_80 (x_lt hN rfl) rfl rfl rfl lk_RX7_55 rfl rfl dX7_isTerms_17 (fun H locs M hw h => ?_)
  refine lv_aload_n hx hb dX7_isTerms_20 rfl (lv_at hl 0 rfl) ?_
  refine lv_iconst (v := (nI 0)) hx hb dX7_isTerms_21 (by decide) ?_
  refine xh_puti C hw 80 7 h sX_80 (x_lt hN rfl) rfl rfl rfl lk_RX7_58 rfl rfl dX7_isTerms_22 (fun H locs M hw h => ?_)
  refine lv_aload_n hx hb dX7_isTerms_25 rfl (lv_at hl 0 rfl) ?_
  refine lv_iconst (v := (nI 0)) hx hb dX7_isTerms_26 (by decide) ?_
  refine xh_puti C hw 80 8 h sX_80 (x_lt hN rfl) rfl rfl rfl lk_RX7_61 rfl rfl dX7_isTerms_27 (fun H locs M hw h => ?_)
  refine lv_aload_n hx hb dX7_isTerms_30 rfl (lv_at hl 0 rfl) ?_
  refine xh_cVv C hw (rest := []) h (fun _ hy => c_X7_next hq hN hy) ml_RX7_64 mv_X7_next sX_80 (x_lt hN rfl) rfl ⟨rfl, rfl, by decide, by decide⟩ rfl hl.1 rfl (Nat.le_of_ble_eq_true rfl) dX7_isTerms_31 (fun H locs _ M hw h => ?_)
  refine lv_iconst (v := (nI 0)) hx hb dX7_isTerms_34 (by decide) ?_
  refine lv_istore_n (lv' := [(1, .int _), (0, .ref (q 80))]) hx hb dX7_isTerms_35 rfl hl (by decide) rfl (fun ls hl => ?_)
  exact w36 _ _ _ _ _ _ hw (lv_sub hl [1, 0] rfl) h
def f_X6_newFlight (M : x_M) (a1 : Int32) (a2 : Int32) (a3 : Int32) (a4 : Int32) : Option (Int32 × x_M) := x_gf M 18 8 (fun r1 => if r1 < (nI 8) then x_gf M 18 8 (fun r17 => x_wr 8 M 19 r17 a1 (fun M => x_gf M 18 8 (fun r27 => x_wr 8 M 20 r27 a2 (fun M => x_gf M 18 8 (fun r37 => x_wr 8 M 21 r37 a3 (fun M => x_gf M 18 8 (fun r47 => x_wr 8 M 22 r47 a4 (fun M => x_gf M 18 8 (fun r55 => x_pf M 18 8 (r55 + (nI 1)) (fun M => x_gf M 18 8 (fun r64 => some ((r64 - (nI 1)), M)))))))))))) else some ((-1000000003), M))
abbrev rm_X6_newFlight : Room := { frames := 0, cells := 0, slots := 0, locals := 0 }
set_option maxHeartbeats 4000000 in
set_option maxRecDepth 100000 in
theorem c_X6_newFlight {l : Launch} {D : va_G} {cy : Nat → ClassId} {q ad : Nat → Nat} {NC : Nat} {s0 : State} (hq : x_Q q NC s0.heap.size) (hN : 88 ≤ NC) {M : x_M} {a1 : Int32} {a2 : Int32} {a3 : Int32} {a4 : Int32} {z : Int32 × x_M} (h : f_X6_newFlight M a1 a2 a3 a4 = some z) : x_Ci l D cy q ad x_spX NC s0 yX6_newFlight (x_uw yX6_newFlight cX6_newFlight 5 (some .int)) rm_X6_newFlight [.ref (q 18), .int a1, .int a2, .int a3, .int a4] M z.1 z.2 := by
  refine x_meti hq (by decide) (Nat.le_of_ble_eq_true rfl) ?_
  intro p e s m args below meth c ls Q C hret hl hw
  have hx := C.1.1
  have hb := C.1.2.1
  have ho := C.1.2.2.2.1
  have hL := C.1.2.2.2.2
  have hl : lv_has ls 5 [(0, .ref (q 18)), (1, .int a1), (2, .int a2), (3, .int a3), (4, .int a4)] := hl
  unfold f_X6_newFlight at h
  refine lv_aload_n hx hb dX6_newFlight_0 rfl (lv_at hl 0 rfl) ?_
  refine xh_geti C hw 18 8 h sX_18 (x_lt hN rfl) rfl rfl rfl lk_RX6_36 dX6_newFlight_1 (fun r1 h => ?_)
  refine lv_bipush (v := (nI 8)) hx hb dX6_newFlight_4 (by decide) ?_
  refine x_icmp_lt (tgt := 12) hx hb h dX6_newFlight_6 (by decide) (fun h => ?_) (fun h => ?_)
  · refine lv_aload_n hx hb dX6_newFlight_12 rfl (lv_at hl 0 rfl) ?_
    refine xh_getr C hw 18 0 sX_18 (x_lt hN rfl) rfl rfl rfl lk_RX6_9 dX6_newFlight_13 ?_
    refine lv_aload_n hx hb dX6_newFlight_16 rfl (lv_at hl 0 rfl) ?_
    refine xh_geti C hw 18 8 h sX_18 (x_lt hN rfl) rfl rfl rfl lk_RX6_36 dX6_newFlight_17 (fun r17 h => ?_)
    refine lv_iload_n hx hb dX6_newFlight_20 rfl (lv_at hl 1 rfl) ?_
    refine xh_iast C hw 19 8 h sX_19 (x_lt hN rfl) dX6_newFlight_21 (fun H locs M hw h => ?_)
    refine lv_aload_n hx hb dX6_newFlight_22 rfl (lv_at hl 0 rfl) ?_
    refine xh_getr C hw 18 1 sX_18 (x_lt hN rfl) rfl rfl rfl lk_RX6_15 dX6_newFlight_23 ?_
    refine lv_aload_n hx hb dX6_newFlight_26 rfl (lv_at hl 0 rfl) ?_
    refine xh_geti C hw 18 8 h sX_18 (x_lt hN rfl) rfl rfl rfl lk_RX6_36 dX6_newFlight_27 (fun r27 h => ?_)
    refine lv_iload_n hx hb dX6_newFlight_30 rfl (lv_at hl 2 rfl) ?_
    refine xh_iast C hw 20 8 h sX_20 (x_lt hN rfl) dX6_newFlight_31 (fun H locs M hw h => ?_)
    refine lv_aload_n hx hb dX6_newFlight_32 rfl (lv_at hl 0 rfl) ?_
    refine xh_getr C hw 18 2 sX_18 (x_lt hN rfl) rfl rfl rfl lk_RX6_18 dX6_newFlight_33 ?_
    refine lv_aload_n hx hb dX6_newFlight_36 rfl (lv_at hl 0 rfl) ?_
    refine xh_geti C hw 18 8 h sX_18 (x_lt hN rfl) rfl rfl rfl lk_RX6_36 dX6_newFlight_37 (fun r37 h => ?_)
    refine lv_iload_n hx hb dX6_newFlight_40 rfl (lv_at hl 3 rfl) ?_
    refine xh_iast C hw 21 8 h sX_21 (x_lt hN rfl) dX6_newFlight_41 (fun H locs M hw h => ?_)
    refine lv_aload_n hx hb dX6_newFlight_42 rfl (lv_at hl 0 rfl) ?_
    refine xh_getr C hw 18 3 sX_18 (x_lt hN rfl) rfl rfl rfl lk_RX6_21 dX6_newFlight_43 ?_
    refine lv_aload_n hx hb dX6_newFlight_46 rfl (lv_at hl 0 rfl) ?_
    refine xh_geti C hw 18 8 h sX_18 (x_lt hN rfl) rfl rfl rfl lk_RX6_36 dX6_newFlight_47 (fun r47 h => ?_)
    refine lv_iload hx hb dX6_newFlight_50 (lv_at hl 4 rfl) ?_
    refine xh_iast C hw 22 8 h sX_22 (x_lt hN rfl) dX6_newFlight_52 (fun H locs M hw h => ?_)
    refine lv_aload_n hx hb dX6_newFlight_53 rfl (lv_at hl 0 rfl) ?_
    refine lv_dup hx hb dX6_newFlight_54 rfl ?_
    refine xh_geti C hw 18 8 h sX_18 (x_lt hN rfl) rfl rfl rfl lk_RX6_36 dX6_newFlight_55 (fun r55 h => ?_)
    refine lv_iconst (v := (nI 1)) hx hb dX6_newFlight_58 (by decide) ?_
    refine lv_iadd hx hb dX6_newFlight_59 ?_
    refine xh_puti C hw 18 8 h sX_18 (x_lt hN rfl) rfl rfl rfl lk_RX6_36 rfl rfl dX6_newFlight_60 (fun H locs M hw h => ?_)
    refine lv_aload_n hx hb dX6_newFlight_63 rfl (lv_at hl 0 rfl) ?_
    refine xh_geti C hw 18 8 h sX_18 (x_lt hN rfl) rfl rfl rfl lk_RX6_36 dX6_newFlight_64 (fun r64 h => ?_)
    refine lv_iconst (v := (nI 1)) hx hb dX6_newFlight_67 (by decide) ?_
    refine lv_isub hx hb dX6_newFlight_68 ?_
    exact hret dX6_newFlight_69 rfl hw h
  · refine lv_ldc hx hb ho (hL _ kc_RX6_40) dX6_newFlight_9 ?_
    exact hret dX6_newFlight_11 rfl hw h
