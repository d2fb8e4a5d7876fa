def x_rmG (d : Nat) : Room := { frames := 6 * d + 12, cells := 0, slots := 0, locals := 250 * d + 600 }
def x_rmH (d : Nat) : Room := { frames := 6 * d + 14, cells := 0, slots := 0, locals := 250 * d + 700 }
def x_DEP : Nat := 120
def f_X7_isWordKind_16 (M : x_M) : Option (Int32 × x_M) := some ((nI 1), M)
def f_X7_isWordKind (M : x_M) : Option (Int32 × x_M) := x_gf M 80 8 (fun r1 => if r1 = (nI 1) then f_X7_isWordKind_16 M else x_gf M 80 8 (fun r9 => if r9 = (nI 2) then f_X7_isWordKind_16 M else some ((nI 0), M)))
abbrev rm_X7_isWordKind : Room := { frames := 0, cells := 0, slots := 0, locals := 0 }
set_option maxHeartbeats 4000000 in
set_option maxRecDepth 100000 in
theorem c_X7_isWordKind {l : Launch} {D : va_G} {cy : Nat → ClassId} {q ad : Nat → Nat} {NC : Nat} {s0 : State} (hq : x_Q q NC s0.heap.size) (hN : 88 ≤ NC) {M : x_M} {z : Int32 × x_M} (h : f_X7_isWordKind M = some z) : x_Ci l D cy q ad x_spX NC s0 yX7_isWordKind (x_uw yX7_isWordKind cX7_isWordKind 1 (some .boolean)) rm_X7_isWordKind [.ref (q 80)] M z.1 z.2 := by
  refine x_meti hq (by decide) (Nat.le_of_ble_eq_true rfl) ?_
  intro p e s m args below meth c ls Q C hret hl hw
  have hx := C.1.1
  have hb := C.1.2.1
  have ho := C.1.2.2.2.1
  have hL := C.1.2.2.2.2
  have hl : lv_has ls 1 [(0, .ref (q 80))] := hl
  have w16 : ∀ (M : x_M) (H : Heap) (locs : List Loc) (ls : Array Slot), x_B D cy q ad x_spX NC s H locs M → lv_has ls 1 [] → f_X7_isWordKind_16 M = some z → W p l e rm_X7_isWordKind s m args below meth c H locs 0 0 Q (F0 m 16 ls []) := by
    intro M H locs ls hw hl h
    unfold f_X7_isWordKind_16 at h
    refine lv_iconst (v := (nI 1)) hx hb dX7_isWordKind_16 (by decide) ?_
    refine lv_goto (tgt := 21) hx hb dX7_isWordKind_17 (by decide) ?_
    exact hret dX7_isWordKind_21 rfl hw h
  unfold f_X7_isWordKind at h
  refine lv_aload_n hx hb dX7_isWordKind_0 rfl (lv_at hl 0 rfl) ?_
  refine xh_geti C hw 80 8 h sX_80 (x_lt hN rfl) rfl rfl rfl lk_RX7_61 dX7_isWordKind_1 (fun r1 h => ?_)
  refine lv_iconst (v := (nI 1)) hx hb dX7_isWordKind_4 (by decide) ?_
  refine x_icmp_eq (tgt := 16) hx hb h dX7_isWordKind_5 (by decide) (fun h => ?_) (fun h => ?_)
  · exact w16 _ _ _ _ hw (lv_sub hl [] rfl) h
  · refine lv_aload_n hx hb dX7_isWordKind_8 rfl (lv_at hl 0 rfl) ?_
    refine xh_geti C hw 80 8 h sX_80 (x_lt hN rfl) rfl rfl rfl lk_RX7_61 dX7_isWordKind_9 (fun r9 h => ?_)
    refine lv_iconst (v := (nI 2)) hx hb dX7_isWordKind_12 (by decide) ?_
    refine x_icmp_ne (tgt := 20) hx hb h dX7_isWordKind_13 (by decide) (fun h => ?_) (fun h => ?_)
    · exact w16 _ _ _ _ hw (lv_sub hl [] rfl) h
    · refine lv_iconst (v := (nI 0)) hx hb dX7_isWordKind_20 (by decide) ?_
      exact hret dX7_isWordKind_21 rfl hw h
def f_X7_behindBlanks_27 (M : x_M) (v2 : Int32) : Option (Int32 × x_M) := some (v2, M)
def f_X7_behindBlanks_2 : Nat → x_M → Int32 → Option (Int32 × x_M)
  | 0, _, _ => none
  | n + 1, M, v2 => x_gf M 80 4 (fun r4 => if r4 ≤ v2 then f_X7_behindBlanks_27 M v2 else x_rd 132 (M 81) v2 (fun r15 => if r15 = (nI 32) then (f_X7_behindBlanks_2 n) M (v2 + (nI 1)) else f_X7_behindBlanks_27 M v2))
theorem f_X7_behindBlanks_2_0 (M : x_M) (v2 : Int32) : f_X7_behindBlanks_2 0 M v2 = none := rfl
theorem f_X7_behindBlanks_2_s (n : Nat) (M : x_M) (v2 : Int32) : f_X7_behindBlanks_2 (n + 1) M v2 = (x_gf M 80 4 (fun r4 => if r4 ≤ v2 then f_X7_behindBlanks_27 M v2 else x_rd 132 (M 81) v2 (fun r15 => if r15 = (nI 32) then (f_X7_behindBlanks_2 n) M (v2 + (nI 1)) else f_X7_behindBlanks_27 M v2))) := rfl
def f_X7_behindBlanks (M : x_M) (a1 : Int32) : Option (Int32 × x_M) := f_X7_behindBlanks_2 x_FU M a1
abbrev rm_X7_behindBlanks : Room := { frames := 0, cells := 0, slots := 0, locals := 0 }
set_option maxHeartbeats 4000000 in
set_option maxRecDepth 100000 in
theorem c_X7_behindBlanks {l : Launch} {D : va_G} {cy : Nat → ClassId} {q ad : Nat → Nat} {NC : Nat} {s0 : State} (hq : x_Q q NC s0.heap.size) (hN : 88 ≤ NC) {M : x_M} {a1 : Int32} {z : Int32 × x_M} (h : f_X7_behindBlanks M a1 = some z) : x_Ci l D cy q ad x_spX NC s0 yX7_behindBlanks (x_uw yX7_behindBlanks cX7_behindBlanks 3 (some .int)) rm_X7_behindBlanks [.ref (q 80), .int a1] M z.1 z.2 := by
  refine x_meti hq (by decide) (Nat.le_of_ble_eq_true rfl) ?_
  intro p e s m args below meth c ls Q C hret hl hw
  have hx := C.1.1
  have hb := C.1.2.1
  have ho := C.1.2.2.2.1
  have hL := C.1.2.2.2.2
  have hl : lv_has ls 3 [(0, .ref (q 80)), (1, .int a1)] := hl
  have w2 : ∀ (n : Nat) (M : x_M) (v2 : Int32) (H : Heap) (locs : List Loc) (ls : Array Slot), x_B D cy q ad x_spX NC s H locs M → lv_has ls 3 [(0, .ref (q 80)), (2, .int v2)] → f_X7_behindBlanks_2 n M v2 = some z → W p l e rm_X7_behindBlanks s m args below meth c H locs 0 0 Q (F0 m 2 ls []) := by
    intro n
    induction n with
    | zero =>
      intro M v2 H locs ls hw hl h
      rw [f_X7_behindBlanks_2_0] at h
      cases h
    | succ n2 ih2 =>
      have w27 : ∀ (M : x_M) (v2 : Int32) (H : Heap) (locs : List Loc) (ls : Array Slot), x_B D cy q ad x_spX NC s H locs M → lv_has ls 3 [(2, .int v2)] → f_X7_behindBlanks_27 M v2 = some z → W p l e rm_X7_behindBlanks s m args below meth c H locs 0 0 Q (F0 m 27 ls []) := by
        intro M v2 H locs ls hw hl h
        unfold f_X7_behindBlanks_27 at h
        refine lv_iload_n hx hb dX7_behindBlanks_27 rfl (lv_at hl 0 rfl) ?_
        exact hret dX7_behindBlanks_28 rfl hw h
      intro M v2 H locs ls hw hl h
      rw [f_X7_behindBlanks_2_s] at h
      refine lv_iload_n hx hb dX7_behindBlanks_2 rfl (lv_at hl 1 rfl) ?_
      refine lv_aload_n hx hb dX7_behindBlanks_3 rfl (lv_at hl 0 rfl) ?_
      refine xh_geti C hw 80 4 h sX_80 (x_lt hN rfl) rfl rfl rfl lk_RX7_32 dX7_behindBlanks_4 (fun r4 h => ?_)
      refine x_icmp_ge (tgt := 27) hx hb h dX7_behindBlanks_7 (by decide) (fun h => ?_) (fun h => ?_)
      · exact w27 _ _ _ _ _ hw (lv_sub hl [1] rfl) h
      · refine lv_aload_n hx hb dX7_behindBlanks_10 rfl (lv_at hl 0 rfl) ?_
        refine xh_getr C hw 80 0 sX_80 (x_lt hN rfl) rfl rfl rfl lk_RX7_9 dX7_behindBlanks_11 ?_
        refine lv_iload_n hx hb dX7_behindBlanks_14 rfl (lv_at hl 1 rfl) ?_
        refine xh_bald C hw 81 132 h sX_81 (x_lt hN rfl) dX7_behindBlanks_15 (fun r15 h => ?_)
        refine lv_bipush (v := (nI 32)) hx hb dX7_behindBlanks_16 (by decide) ?_
        refine x_icmp_ne (tgt := 27) hx hb h dX7_behindBlanks_18 (by decide) (fun h => ?_) (fun h => ?_)
        · refine lv_iinc (lv' := [(2, .int _), (0, .ref (q 80))]) hx hb dX7_behindBlanks_21 hl (k := 1) rfl (x_inc (show Int32.ofInt 1 = (nI 1) by decide) _) (by decide) rfl (fun ls hl => ?_)
          refine lv_goto (tgt := 2) hx hb dX7_behindBlanks_24 (by decide) ?_
          exact ih2 _ _ _ _ _ hw (lv_sub hl [1, 0] rfl) h
        · exact w27 _ _ _ _ _ hw (lv_sub hl [1] rfl) h
  unfold f_X7_behindBlanks at h
  refine lv_iload_n hx hb dX7_behindBlanks_0 rfl (lv_at hl 1 rfl) ?_
  refine lv_istore_n (lv' := [(2, .int _), (0, .ref (q 80)), (1, .int _)]) hx hb dX7_behindBlanks_1 rfl hl (by decide) rfl (fun ls hl => ?_)
  exact w2 _ _ _ _ _ _ hw (lv_sub hl [1, 0] rfl) h
def f_X7_kindAt_47 (M : x_M) : Option (Int32 × x_M) := some ((nI 3), M)
def f_X7_kindAt_31 (M : x_M) (v2 : Int32) : Option (Int32 × x_M) := if v2 < (nI 48) then f_X7_kindAt_47 M else if (nI 57) < v2 then f_X7_kindAt_47 M else some ((nI 2), M)
def f_X7_kindAt (M : x_M) (a1 : Int32) : Option (Int32 × x_M) := x_gf M 80 4 (fun r2 => if a1 < r2 then x_rd 132 (M 81) a1 (fun r15 => if r15 < (nI 97) then f_X7_kindAt_31 M r15 else if (nI 122) < r15 then f_X7_kindAt_31 M r15 else some ((nI 1), M)) else some ((nI 0), M))
abbrev rm_X7_kindAt : Room := { frames := 0, cells := 0, slots := 0, locals := 0 }
set_option maxHeartbeats 4000000 in
set_option maxRecDepth 100000 in
theorem c_X7_kindAt {l : Launch} {D : va_G} {cy : Nat → ClassId} {q ad : Nat → Nat} {NC : Nat} {s0 : State} (hq : x_Q q NC s0.heap.size) (hN : 88 ≤ NC) {M : x_M} {a1 : Int32} {z : Int32 × x_M} (h : f_X7_kindAt M a1 = some z) : x_Ci l D cy q ad x_spX NC s0 yX7_kindAt (x_uw yX7_kindAt cX7_kindAt 3 (some .int)) rm_X7_kindAt [.ref (q 80), .int a1] M z.1 z.2 := by
  refine x_meti hq (by decide) (Nat.le_of_ble_eq_true rfl) ?_
  intro p e s m args below meth c ls Q C hret hl hw
  have hx := C.1.1
  have hb := C.1.2.1
  have ho := C.1.2.2.2.1
  have hL := C.1.2.2.2.2
  have hl : lv_has ls 3 [(0, .ref (q 80)), (1, .int a1)] := hl
  have w31 : ∀ (M : x_M) (v2 : Int32) (H : Heap) (locs : List Loc) (ls : Array Slot), x_B D cy q ad x_spX NC s H locs M → lv_has ls 3 [(2, .int v2)] → f_X7_kindAt_31 M v2 = some z → W p l e rm_X7_kindAt s m args below meth c H locs 0 0 Q (F0 m 31 ls []) := by
    have w47 : ∀ (M : x_M) (H : Heap) (locs : List Loc) (ls : Array Slot), x_B D cy q ad x_spX NC s H locs M → lv_has ls 3 [] → f_X7_kindAt_47 M = some z → W p l e rm_X7_kindAt s m args below meth c H locs 0 0 Q (F0 m 47 ls []) := by
      intro M H locs ls hw hl h
      unfold f_X7_kindAt_47 at h
      refine lv_iconst (v := (nI 3)) hx hb dX7_kindAt_47 (by decide) ?_
      exact hret dX7_kindAt_48 rfl hw h
    intro M v2 H locs ls hw hl h
    unfold f_X7_kindAt_31 at h
    refine lv_iload_n hx hb dX7_kindAt_31 rfl (lv_at hl 0 rfl) ?_
    refine lv_bipush (v := (nI 48)) hx hb dX7_kindAt_32 (by decide) ?_
    refine x_icmp_lt (tgt := 47) hx hb h dX7_kindAt_34 (by decide) (fun h => ?_) (fun h => ?_)
    · exact w47 _ _ _ _ hw (lv_sub hl [] rfl) h
    · refine lv_iload_n hx hb dX7_kindAt_37 rfl (lv_at hl 0 rfl) ?_
      refine lv_bipush (v := (nI 57)) hx hb dX7_kindAt_38 (by decide) ?_
      refine x_icmp_gt (tgt := 47) hx hb h dX7_kindAt_40 (by decide) (fun h => ?_) (fun h => ?_)
      · exact w47 _ _ _ _ hw (lv_sub hl [] rfl) h
      · refine lv_iconst (v := (nI 2)) hx hb dX7_kindAt_43 (by decide) ?_
        refine lv_goto (tgt := 48) hx hb dX7_kindAt_44 (by decide) ?_
        exact hret dX7_kindAt_48 rfl hw h
  unfold f_X7_kindAt at h
  refine lv_iload_n hx hb dX7_kindAt_0 rfl (lv_at hl 1 rfl) ?_
  refine lv_aload_n hx hb dX7_kindAt_1 rfl (lv_at hl 0 rfl) ?_
  refine xh_geti C hw 80 4 h sX_80 (x_lt hN rfl) rfl rfl rfl lk_RX7_32 dX7_kindAt_2 (fun r2 h => ?_)
  refine x_icmp_lt (tgt := 10) hx hb h dX7_kindAt_5 (by decide) (fun h => ?_) (fun h => ?_)
  · refine lv_aload_n hx hb dX7_kindAt_10 rfl (lv_at hl 0 rfl) ?_
    refine xh_getr C hw 80 0 sX_80 (x_lt hN rfl) rfl rfl rfl lk_RX7_9 dX7_kindAt_11 ?_
    refine lv_iload_n hx hb dX7_kindAt_14 rfl (lv_at hl 1 rfl) ?_
    refine xh_bald C hw 81 132 h sX_81 (x_lt hN rfl) dX7_kindAt_15 (fun r15 h => ?_)
    refine lv_istore_n (lv' := [(2, .int _), (0, .ref (q 80)), (1, .int _)]) hx hb dX7_kindAt_16 rfl hl (by decide) rfl (fun ls hl => ?_)
    refine lv_iload_n hx hb dX7_kindAt_17 rfl (lv_at hl 0 rfl) ?_
    refine lv_bipush (v := (nI 97)) hx hb dX7_kindAt_18 (by decide) ?_
    refine x_icmp_lt (tgt := 31) hx hb h dX7_kindAt_20 (by decide) (fun h => ?_) (fun h => ?_)
    · exact w31 _ _ _ _ _ hw (lv_sub hl [0] rfl) h
    · refine lv_iload_n hx hb dX7_kindAt_23 rfl (lv_at hl 0 rfl) ?_
      refine lv_bipush (v := (nI 122)) hx hb dX7_kindAt_24 (by decide) ?_
      refine x_icmp_gt (tgt := 31) hx hb h dX7_kindAt_26 (by decide) (fun h => ?_) (fun h => ?_)
      · exact w31 _ _ _ _ _ hw (lv_sub hl [0] rfl) h
      · refine lv_iconst (v := (nI 1)) hx hb dX7_kindAt_29 (by decide) ?_
        exact hret dX7_kindAt_30 rfl hw h
  · refine lv_iconst (v := (nI 0)) hx hb dX7_kindAt_8 (by decide) ?_
    exact hret dX7_kindAt_9 rfl hw h
def f_X7_behindKind_44 (M : x_M) (v2 : Int32) : Option (Int32 × x_M) := some (v2, M)
def f_X7_behindKind_11 : Nat → x_M → Int32 → Option (Int32 × x_M)
  | 0, _, _ => none
  | n + 1, M, v2 => x_gf M 80 4 (fun r13 => if r13 ≤ v2 then f_X7_behindKind_44 M v2 else x_bn (f_X7_isWordKind M) (fun r20 M => if r20 = 0 then f_X7_behindKind_44 M v2 else x_bn (f_X7_kindAt M v2) (fun r28 M => x_gf M 80 8 (fun r32 => if r28 = r32 then (f_X7_behindKind_11 n) M (v2 + (nI 1)) else f_X7_behindKind_44 M v2))))
theorem f_X7_behindKind_11_0 (M : x_M) (v2 : Int32) : f_X7_behindKind_11 0 M v2 = none := rfl
theorem f_X7_behindKind_11_s (n : Nat) (M : x_M) (v2 : Int32) : f_X7_behindKind_11 (n + 1) M v2 = (x_gf M 80 4 (fun r13 => if r13 ≤ v2 then f_X7_behindKind_44 M v2 else x_bn (f_X7_isWordKind M) (fun r20 M => if r20 = 0 then f_X7_behindKind_44 M v2 else x_bn (f_X7_kindAt M v2) (fun r28 M => x_gf M 80 8 (fun r32 => if r28 = r32 then (f_X7_behindKind_11 n) M (v2 + (nI 1)) else f_X7_behindKind_44 M v2))))) := rfl
def f_X7_behindKind (M : x_M) (a1 : Int32) : Option (Int32 × x_M) := x_gf M 80 4 (fun r4 => f_X7_behindKind_11 x_FU M (if r4 < (a1 + (nI 1)) then r4 else (a1 + (nI 1))))
abbrev rm_X7_behindKind : Room := { frames := 1, cells := 0, slots := 0, locals := 30 }
set_option maxHeartbeats 4000000 in
set_option maxRecDepth 100000 in
theorem c_X7_behindKind {l : Launch} {D : va_G} {cy : Nat → ClassId} {q ad : Nat → Nat} {NC : Nat} {s0 : State} (hq : x_Q q NC s0.heap.size) (hN : 88 ≤ NC) {M : x_M} {a1 : Int32} {z : Int32 × x_M} (h : f_X7_behindKind M a1 = some z) : x_Ci l D cy q ad x_spX NC s0 yX7_behindKind (x_uw yX7_behindKind cX7_behindKind 3 (some .int)) rm_X7_behindKind [.ref (q 80), .int a1] M z.1 z.2 := by
  refine x_meti hq (by decide) (Nat.le_of_ble_eq_true rfl) ?_
  intro p e s m args below meth c ls Q C hret hl hw
  have hx := C.1.1
  have hb := C.1.2.1
  have ho := C.1.2.2.2.1
  have hL := C.1.2.2.2.2
  have hl : lv_has ls 3 [(0, .ref (q 80)), (1, .int a1)] := hl
  have w11 : ∀ (n : Nat) (M : x_M) (v2 : Int32) (H : Heap) (locs : List Loc) (ls : Array Slot), x_B D cy q ad x_spX NC s H locs M → lv_has ls 3 [(0, .ref (q 80)), (2, .int v2)] → f_X7_behindKind_11 n M v2 = some z → W p l e rm_X7_behindKind s m args below meth c H locs 0 0 Q (F0 m 11 ls []) := by
    intro n
    induction n with
    | zero =>
      intro M v2 H locs ls hw hl h
      rw [f_X7_behindKind_11_0] at h
      cases h
    | succ n11 ih11 =>
      have w44 : ∀ (M : x_M) (v2 : Int32) (H : Heap) (locs : List Loc) (ls : Array Slot), x_B D cy q ad x_spX NC s H locs M → lv_has ls 3 [(2, .int v2)] → f_X7_behindKind_44 M v2 = some z → W p l e rm_X7_behindKind s m args below meth c H locs 0 0 Q (F0 m 44 ls []) := by
        intro M v2 H locs ls hw hl h
        unfold f_X7_behindKind_44 at h
        refine lv_iload_n hx hb dX7_behindKind_44 rfl (lv_at hl 0 rfl) ?_
        exact hret dX7_behindKind_45 rfl hw h
      intro M v2 H locs ls hw hl h
      rw [f_X7_behindKind_11_s] at h
      refine lv_iload_n hx hb dX7_behindKind_11 rfl (lv_at hl 1 rfl) ?_
      refine lv_aload_n hx hb dX7_behindKind_12 rfl (lv_at hl 0 rfl) ?_
      refine xh_geti C hw 80 4 h sX_80 (x_lt hN rfl) rfl rfl rfl lk_RX7_32 dX7_behindKind_13 (fun r13 h => ?_)
      refine x_icmp_ge (tgt := 44) hx hb h dX7_behindKind_16 (by decide) (fun h => ?_) (fun h => ?_)
      · exact w44 _ _ _ _ _ hw (lv_sub hl [1] rfl) h
      · refine lv_aload_n hx hb dX7_behindKind_19 rfl (lv_at hl 0 rfl) ?_
        refine xh_cVi C hw (rest := []) h (fun _ hy => c_X7_isWordKind hq hN hy) ml_RX7_108 mv_X7_isWordKind sX_80 (x_lt hN rfl) rfl ⟨rfl, rfl, by decide, by decide⟩ rfl hl.1 rfl (Nat.le_of_ble_eq_true rfl) dX7_behindKind_20 (fun H locs r20 M hw h => ?_)
        refine x_if_eq (tgt := 44) hx hb h dX7_behindKind_23 (by decide) (fun h => ?_) (fun h => ?_)
        · exact w44 _ _ _ _ _ hw (lv_sub hl [1] rfl) h
        · refine lv_aload_n hx hb dX7_behindKind_26 rfl (lv_at hl 0 rfl) ?_
          refine lv_iload_n hx hb dX7_behindKind_27 rfl (lv_at hl 1 rfl) ?_
          refine xh_cVi C hw (rest := []) h (fun _ hy => c_X7_kindAt hq hN hy) ml_RX7_119 mv_X7_kindAt sX_80 (x_lt hN rfl) rfl ⟨rfl, rfl, by decide, by decide⟩ rfl hl.1 rfl (Nat.le_of_ble_eq_true rfl) dX7_behindKind_28 (fun H locs r28 M hw h => ?_)
          refine lv_aload_n hx hb dX7_behindKind_31 rfl (lv_at hl 0 rfl) ?_
          refine xh_geti C hw 80 8 h sX_80 (x_lt hN rfl) rfl rfl rfl lk_RX7_61 dX7_behindKind_32 (fun r32 h => ?_)
          refine x_icmp_ne (tgt := 44) hx hb h dX7_behindKind_35 (by decide) (fun h => ?_) (fun h => ?_)
          · refine lv_iinc (lv' := [(2, .int _), (0, .ref (q 80))]) hx hb dX7_behindKind_38 hl (k := 1) rfl (x_inc (show Int32.ofInt 1 = (nI 1) by decide) _) (by decide) rfl (fun ls hl => ?_)
            refine lv_goto (tgt := 11) hx hb dX7_behindKind_41 (by decide) ?_
            exact ih11 _ _ _ _ _ hw (lv_sub hl [1, 0] rfl) h
          · exact w44 _ _ _ _ _ hw (lv_sub hl [1] rfl) h
  unfold f_X7_behindKind at h
  refine lv_iload_n hx hb dX7_behindKind_0 rfl (lv_at hl 1 rfl) ?_
  refine lv_iconst (v := (nI 1)) hx hb dX7_behindKind_1 (by decide) ?_
  refine lv_iadd hx hb dX7_behindKind_2 ?_
  refine lv_aload_n hx hb dX7_behindKind_3 rfl (lv_at hl 0 rfl) ?_
  refine xh_geti C hw 80 4 h sX_80 (x_lt hN rfl) rfl rfl rfl lk_RX7_32 dX7_behindKind_4 (fun r4 h => ?_)
  refine xh_min C (rest := []) mw_RX7_129 hl.1 ⟨by decide, Nat.le_of_ble_eq_true rfl⟩ dX7_behindKind_7 ?_
  refine lv_istore_n (lv' := [(2, .int _), (0, .ref (q 80)), (1, .int _)]) hx hb dX7_behindKind_10 rfl hl (by decide) rfl (fun ls hl => ?_)
  exact w11 _ _ _ _ _ _ hw (lv_sub hl [1, 0] rfl) h
def f_X7_next_68 (M : x_M) (t1 : Int32) : Option (Unit × x_M) := x_cz t1 (x_pf M 80 9 t1 (fun M => some ((), M)))
def f_X7_next_67 (M : x_M) : Option (Unit × x_M) := f_X7_next_68 M (nI 0)
def f_X7_next (M : x_M) : Option (Unit × x_M) := x_gf M 80 7 (fun r1 => x_bn (f_X7_isWordKind M) (fun r6 M => x_bn (f_X7_behindBlanks M r1) (fun r13 M => x_pf M 80 6 r13 (fun M => x_gf M 80 6 (fun r22 => x_bn (f_X7_kindAt M r22) (fun r25 M => x_pf M 80 8 r25 (fun M => x_gf M 80 6 (fun r34 => x_bn (f_X7_behindKind M r34) (fun r37 M => x_pf M 80 7 r37 (fun M => if r6 = 0 then f_X7_next_67 M else x_bn (f_X7_isWordKind M) (fun r49 M => if r49 = 0 then f_X7_next_67 M else x_gf M 80 6 (fun r56 => if r56 = r1 then f_X7_next_68 M (nI 1) else f_X7_next_67 M))))))))))))
abbrev rm_X7_next : Room := { frames := 2, cells := 0, slots := 0, locals := 52 }
set_option maxHeartbeats 4000000 in
set_option maxRecDepth 100000 in
theorem c_X7_next {l : Launch} {D : va_G} {cy : Nat → ClassId} {q ad : Nat → Nat} {NC : Nat} {s0 : State} (hq : x_Q q NC s0.heap.size) (hN : 88 ≤ NC) {M : x_M} {z : Unit × x_M} (h : f_X7_next M = some z) : x_Cv l D cy q ad x_spX NC s0 yX7_next (x_uw yX7_next cX7_next 3 none) rm_X7_next [.ref (q 80)] M z.2 := by
  refine x_metv hq (by decide) (Nat.le_of_ble_eq_true rfl) ?_
  intro p e s m args below meth c ls Q C hret hl hw
  have hx := C.1.1
  have hb := C.1.2.1
  have ho := C.1.2.2.2.1
  have hL := C.1.2.2.2.2
  have hl : lv_has ls 3 [(0, .ref (q 80))] := hl
  have w68 : ∀ (M : x_M) (t1 : Int32) (H : Heap) (locs : List Loc) (ls : Array Slot), x_B D cy q ad x_spX NC s H locs M → lv_has ls 3 [] → f_X7_next_68 M t1 = some z → W p l e rm_X7_next s m args below meth c H locs 0 0 Q (F0 m 68 ls [.int t1, .ref (q 80)]) := by
    intro M t1 H locs ls hw hl h
    unfold f_X7_next_68 at h
    refine xh_putz C hw 80 9 h sX_80 (x_lt hN rfl) rfl rfl rfl lk_RX7_125 rfl rfl dX7_next_68 (fun H locs M hw h => ?_)
    exact hret dX7_next_71 hw h
  have w67 : ∀ (M : x_M) (H : Heap) (locs : List Loc) (ls : Array Slot), x_B D cy q ad x_spX NC s H locs M → lv_has ls 3 [] → f_X7_next_67 M = some z → W p l e rm_X7_next s m args below meth c H locs 0 0 Q (F0 m 67 ls [.ref (q 80)]) := by
    intro M H locs ls hw hl h
    unfold f_X7_next_67 at h
    refine lv_iconst (v := (nI 0)) hx hb dX7_next_67 (by decide) ?_
    exact w68 _ _ _ _ _ hw (lv_sub hl [] rfl) h
  unfold f_X7_next at h
  refine lv_aload_n hx hb dX7_next_0 rfl (lv_at hl 0 rfl) ?_
  refine xh_geti C hw 80 7 h sX_80 (x_lt hN rfl) rfl rfl rfl lk_RX7_58 dX7_next_1 (fun r1 h => ?_)
  refine lv_istore_n (lv' := [(1, .int _), (0, .ref (q 80))]) hx hb dX7_next_4 rfl hl (by decide) rfl (fun ls hl => ?_)
  refine lv_aload_n hx hb dX7_next_5 rfl (lv_at hl 1 rfl) ?_
  refine xh_cVi C hw (rest := []) h (fun _ hy => c_X7_isWordKind hq hN hy) ml_RX7_108 mv_X7_isWordKind sX_80 (x_lt hN rfl) rfl ⟨rfl, rfl, by decide, by decide⟩ rfl hl.1 rfl (Nat.le_of_ble_eq_true rfl) dX7_next_6 (fun H locs r6 M hw h => ?_)
  refine lv_istore_n (lv' := [(2, .int _), (1, .int _), (0, .ref (q 80))]) hx hb dX7_next_9 rfl hl (by decide) rfl (fun ls hl => ?_)
  refine lv_aload_n hx hb dX7_next_10 rfl (lv_at hl 2 rfl) ?_
  refine lv_aload_n hx hb dX7_next_11 rfl (lv_at hl 2 rfl) ?_
  refine lv_iload_n hx hb dX7_next_12 rfl (lv_at hl 1 rfl) ?_
  refine xh_cVi C hw (rest := [_]) h (fun _ hy => c_X7_behindBlanks hq hN hy) ml_RX7_112 mv_X7_behindBlanks sX_80 (x_lt hN rfl) rfl ⟨rfl, rfl, by decide, by decide⟩ rfl hl.1 rfl (Nat.le_of_ble_eq_true rfl) dX7_next_13 (fun H locs r13 M hw h => ?_)
  refine xh_puti C hw 80 6 h sX_80 (x_lt hN rfl) rfl rfl rfl lk_RX7_116 rfl rfl dX7_next_16 (fun H locs M hw h => ?_)
  refine lv_aload_n hx hb dX7_next_19 rfl (lv_at hl 2 rfl) ?_
  refine lv_aload_n hx hb dX7_next_20 rfl (lv_at hl 2 rfl) ?_
  refine lv_aload_n hx hb dX7_next_21 rfl (lv_at hl 2 rfl) ?_
  refine xh_geti C hw 80 6 h sX_80 (x_lt hN rfl) rfl rfl rfl lk_RX7_116 dX7_next_22 (fun r22 h => ?_)
  refine xh_cVi C hw (rest := [_]) h (fun _ hy => c_X7_kindAt hq hN hy) ml_RX7_119 mv_X7_kindAt sX_80 (x_lt hN rfl) rfl ⟨rfl, rfl, by decide, by decide⟩ rfl hl.1 rfl (Nat.le_of_ble_eq_true rfl) dX7_next_25 (fun H locs r25 M hw h => ?_)
  refine xh_puti C hw 80 8 h sX_80 (x_lt hN rfl) rfl rfl rfl lk_RX7_61 rfl rfl dX7_next_28 (fun H locs M hw h => ?_)
  refine lv_aload_n hx hb dX7_next_31 rfl (lv_at hl 2 rfl) ?_
  refine lv_aload_n hx hb dX7_next_32 rfl (lv_at hl 2 rfl) ?_
  refine lv_aload_n hx hb dX7_next_33 rfl (lv_at hl 2 rfl) ?_
  refine xh_geti C hw 80 6 h sX_80 (x_lt hN rfl) rfl rfl rfl lk_RX7_116 dX7_next_34 (fun r34 h => ?_)
  refine xh_cVi C hw (rest := [_]) h (fun _ hy => c_X7_behindKind hq hN hy) ml_RX7_122 mv_X7_behindKind sX_80 (x_lt hN rfl) rfl ⟨rfl, rfl, by decide, by decide⟩ rfl hl.1 rfl (Nat.le_of_ble_eq_true rfl) dX7_next_37 (fun H locs r37 M hw h => ?_)
  refine xh_puti C hw 80 7 h sX_80 (x_lt hN rfl) rfl rfl rfl lk_RX7_58 rfl rfl dX7_next_40 (fun H locs M hw h => ?_)
  refine lv_aload_n hx hb dX7_next_43 rfl (lv_at hl 2 rfl) ?_
  refine lv_iload_n hx hb dX7_next_44 rfl (lv_at hl 0 rfl) ?_
  refine x_if_eq (tgt := 67) hx hb h dX7_next_45 (by decide) (fun h => ?_) (fun h => ?_)
  · exact w67 _ _ _ _ hw (lv_sub hl [] rfl) h
  · refine lv_aload_n hx hb dX7_next_48 rfl (lv_at hl 2 rfl) ?_
    refine xh_cVi C hw (rest := [_]) h (fun _ hy => c_X7_isWordKind hq hN hy) ml_RX7_108 mv_X7_isWordKind sX_80 (x_lt hN rfl) rfl ⟨rfl, rfl, by decide, by decide⟩ rfl hl.1 rfl (Nat.le_of_ble_eq_true rfl) dX7_next_49 (fun H locs r49 M hw h => ?_)
    refine x_if_eq (tgt := 67) hx hb h dX7_next_52 (by decide) (fun h => ?_) (fun h => ?_)
    · exact w67 _ _ _ _ hw (lv_sub hl [] rfl) h
    · refine lv_aload_n hx hb dX7_next_55 rfl (lv_at hl 2 rfl) ?_
      refine xh_geti C hw 80 6 h sX_80 (x_lt hN rfl) rfl rfl rfl lk_RX7_116 dX7_next_56 (fun r56 h => ?_)
      refine lv_iload_n hx hb dX7_next_59 rfl (lv_at hl 1 rfl) ?_
      refine x_icmp_ne (tgt := 67) hx hb h dX7_next_60 (by decide) (fun h => ?_) (fun h => ?_)
      · refine lv_iconst (v := (nI 1)) hx hb dX7_next_63 (by decide) ?_
        refine lv_goto (tgt := 68) hx hb dX7_next_64 (by decide) ?_
        exact w68 _ _ _ _ _ hw (lv_sub hl [] rfl) h
      · exact w67 _ _ _ _ hw (lv_sub hl [] rfl) h
def f_X7_emit (M : x_M) (a1 : Int32) : Option (Unit × x_M) := x_gf M 80 10 (fun r1 => if (nI 132) ≤ r1 then some ((), M) else x_gf M 80 10 (fun r15 => x_wr 132 M 82 r15 a1 (fun M => x_gf M 80 10 (fun r22 => x_pf M 80 10 (r22 + (nI 1)) (fun M => some ((), M))))))
abbrev rm_X7_emit : Room := { frames := 0, cells := 0, slots := 0, locals := 0 }
set_option maxHeartbeats 4000000 in
set_option maxRecDepth 100000 in
theorem c_X7_emit {l : Launch} {D : va_G} {cy : Nat → ClassId} {q ad : Nat → Nat} {NC : Nat} {s0 : State} (hq : x_Q q NC s0.heap.size) (hN : 88 ≤ NC) {M : x_M} {a1 : Int32} {z : Unit × x_M} (h : f_X7_emit M a1 = some z) : x_Cv l D cy q ad x_spX NC s0 yX7_emit (x_uw yX7_emit cX7_emit 2 none) rm_X7_emit [.ref (q 80), .int a1] M z.2 := by
  refine x_metv hq (by decide) (Nat.le_of_ble_eq_true rfl) ?_
  intro p e s m args below meth c ls Q C hret hl hw
  have hx := C.1.1
  have hb := C.1.2.1
  have ho := C.1.2.2.2.1
  have hL := C.1.2.2.2.2
  have hl : lv_has ls 2 [(0, .ref (q 80)), (1, .int a1)] := hl
  unfold f_X7_emit at h
  refine lv_aload_n hx hb dX7_emit_0 rfl (lv_at hl 0 rfl) ?_
  refine xh_geti C hw 80 10 h sX_80 (x_lt hN rfl) rfl rfl rfl lk_RX7_37 dX7_emit_1 (fun r1 h => ?_)
  refine lv_sipush (v := (nI 132)) hx hb dX7_emit_4 (by decide) ?_
  refine x_icmp_ge (tgt := 30) hx hb h dX7_emit_7 (by decide) (fun h => ?_) (fun h => ?_)
  · exact hret dX7_emit_30 hw h
  · refine lv_aload_n hx hb dX7_emit_10 rfl (lv_at hl 0 rfl) ?_
    refine xh_getr C hw 80 1 sX_80 (x_lt hN rfl) rfl rfl rfl lk_RX7_15 dX7_emit_11 ?_
    refine lv_aload_n hx hb dX7_emit_14 rfl (lv_at hl 0 rfl) ?_
    refine xh_geti C hw 80 10 h sX_80 (x_lt hN rfl) rfl rfl rfl lk_RX7_37 dX7_emit_15 (fun r15 h => ?_)
    refine lv_iload_n hx hb dX7_emit_18 rfl (lv_at hl 1 rfl) ?_
    refine xh_iast C hw 82 132 h sX_82 (x_lt hN rfl) dX7_emit_19 (fun H locs M hw h => ?_)
    refine lv_aload_n hx hb dX7_emit_20 rfl (lv_at hl 0 rfl) ?_
    refine lv_dup hx hb dX7_emit_21 rfl ?_
    refine xh_geti C hw 80 10 h sX_80 (x_lt hN rfl) rfl rfl rfl lk_RX7_37 dX7_emit_22 (fun r22 h => ?_)
    refine lv_iconst (v := (nI 1)) hx hb dX7_emit_25 (by decide) ?_
    refine lv_iadd hx hb dX7_emit_26 ?_
    refine xh_puti C hw 80 10 h sX_80 (x_lt hN rfl) rfl rfl rfl lk_RX7_37 rfl rfl dX7_emit_27 (fun H locs M hw h => ?_)
    exact hret dX7_emit_30 hw h
def f_X7_isNot (kP : x_M → Option (Int32 × x_M)) (M : x_M) : Option (Int32 × x_M) := x_gf M 80 12 (fun r1 => if r1 < (nI 8) then x_gf M 80 12 (fun r13 => x_pf M 80 12 (r13 + (nI 1)) (fun M => x_bn (f_X7_next M) (fun _ M => x_bn (kP M) (fun r26 M => if r26 = 0 then some ((nI 0), M) else x_bn (f_X7_emit M (-33)) (fun _ M => x_gf M 80 12 (fun r42 => x_pf M 80 12 (r42 - (nI 1)) (fun M => some ((nI 1), M)))))))) else some ((nI 0), M))
set_option maxHeartbeats 4000000 in
set_option maxRecDepth 100000 in
theorem c_X7_isNot {l : Launch} {D : va_G} {cy : Nat → ClassId} {q ad : Nat → Nat} {NC : Nat} {s0 : State} {adV : Nat → Nat} (hq : x_Q q NC s0.heap.size) (hN : 88 ≤ NC) (hz : x_Z s0 ad adV) (d : Nat) {kP : x_M → Option (Int32 × x_M)} (hP : ∀ {M : x_M} {z : Int32 × x_M}, kP M = some z → x_Ci l D cy q ad x_spX NC s0 yX7_isPart (x_uw yX7_isPart cX7_isPart 1 (some .boolean)) (x_rmG d) [.ref (q 80)] M z.1 z.2) {M : x_M} {z : Int32 × x_M} (h : f_X7_isNot kP M = some z) : x_Ci l D cy q ad x_spX NC s0 yX7_isNot (x_uw yX7_isNot cX7_isNot 1 (some .boolean)) (x_rmH d) [.ref (q 80)] M z.1 z.2 := by
  refine x_meti hq (by decide) (Nat.le_of_ble_eq_true rfl) ?_
  intro p e s m args below meth c ls Q C hret hl hw
  have hx := C.1.1
  have hb := C.1.2.1
  have ho := C.1.2.2.2.1
  have hL := C.1.2.2.2.2
  have hl : lv_has ls 1 [(0, .ref (q 80))] := hl
  unfold f_X7_isNot at h
  refine lv_aload_n hx hb dX7_isNot_0 rfl (lv_at hl 0 rfl) ?_
  refine xh_geti C hw 80 12 h sX_80 (x_lt hN rfl) rfl rfl rfl lk_RX7_55 dX7_isNot_1 (fun r1 h => ?_)
  refine lv_bipush (v := (nI 8)) hx hb dX7_isNot_4 (by decide) ?_
  refine x_icmp_lt (tgt := 11) hx hb h dX7_isNot_6 (by decide) (fun h => ?_) (fun h => ?_)
  · refine lv_aload_n hx hb dX7_isNot_11 rfl (lv_at hl 0 rfl) ?_
    refine lv_dup hx hb dX7_isNot_12 rfl ?_
    refine xh_geti C hw 80 12 h sX_80 (x_lt hN rfl) rfl rfl rfl lk_RX7_55 dX7_isNot_13 (fun r13 h => ?_)
    refine lv_iconst (v := (nI 1)) hx hb dX7_isNot_16 (by decide) ?_
    refine lv_iadd hx hb dX7_isNot_17 ?_
    refine xh_puti C hw 80 12 h sX_80 (x_lt hN rfl) rfl rfl rfl lk_RX7_55 rfl rfl dX7_isNot_18 (fun H locs M hw h => ?_)
    refine lv_aload_n hx hb dX7_isNot_21 rfl (lv_at hl 0 rfl) ?_
    refine xh_cVv C hw (rest := []) h (fun _ hy => c_X7_next hq hN hy) ml_RX7_64 mv_X7_next sX_80 (x_lt hN rfl) rfl ⟨rfl, rfl, by dsimp only [x_rmG, x_rmH, rm_X7_next]; omega, by dsimp only [x_rmG, x_rmH, rm_X7_next]; omega⟩ rfl hl.1 rfl (Nat.le_of_ble_eq_true rfl) dX7_isNot_22 (fun H locs _ M hw h => ?_)
    refine lv_aload_n hx hb dX7_isNot_25 rfl (lv_at hl 0 rfl) ?_
    refine xh_cVi C hw (rest := []) h (fun _ hy => hP hy) ml_RX7_151 mv_X7_isPart sX_80 (x_lt hN rfl) rfl ⟨rfl, rfl, by dsimp only [x_rmG, x_rmH]; omega, by dsimp only [x_rmG, x_rmH]; omega⟩ rfl hl.1 rfl (Nat.le_of_ble_eq_true rfl) dX7_isNot_26 (fun H locs r26 M hw h => ?_)
    refine x_if_ne (tgt := 34) hx hb h dX7_isNot_29 (by decide) (fun h => ?_) (fun h => ?_)
    · refine lv_iconst (v := (nI 0)) hx hb dX7_isNot_32 (by decide) ?_
      exact hret dX7_isNot_33 rfl hw h
    · refine lv_aload_n hx hb dX7_isNot_34 rfl (lv_at hl 0 rfl) ?_
      refine lv_bipush (v := (-33)) hx hb dX7_isNot_35 (by decide) ?_
      refine xh_cVv C hw (rest := []) h (fun _ hy => c_X7_emit hq hN hy) ml_RX7_160 mv_X7_emit sX_80 (x_lt hN rfl) rfl ⟨rfl, rfl, by dsimp only [x_rmG, x_rmH, rm_X7_emit]; omega, by dsimp only [x_rmG, x_rmH, rm_X7_emit]; omega⟩ rfl hl.1 rfl (Nat.le_of_ble_eq_true rfl) dX7_isNot_37 (fun H locs _ M hw h => ?_)
      refine lv_aload_n hx hb dX7_isNot_40 rfl (lv_at hl 0 rfl) ?_
      refine lv_dup hx hb dX7_isNot_41 rfl ?_
      refine xh_geti C hw 80 12 h sX_80 (x_lt hN rfl) rfl rfl rfl lk_RX7_55 dX7_isNot_42 (fun r42 h => ?_)
      refine lv_iconst (v := (nI 1)) hx hb dX7_isNot_45 (by decide) ?_
      refine lv_isub hx hb dX7_isNot_46 ?_
      refine xh_puti C hw 80 12 h sX_80 (x_lt hN rfl) rfl rfl rfl lk_RX7_55 rfl rfl dX7_isNot_47 (fun H locs M hw h => ?_)
      refine lv_iconst (v := (nI 1)) hx hb dX7_isNot_50 (by decide) ?_
      exact hret dX7_isNot_51 rfl hw h
  · refine lv_iconst (v := (nI 0)) hx hb dX7_isNot_9 (by decide) ?_
    exact hret dX7_isNot_10 rfl hw h
def f_X7_letter (M : x_M) : Option (Int32 × x_M) := x_gf M 80 6 (fun r1 => x_gf M 80 4 (fun r5 => if r5 ≤ r1 then some ((nI 32), M) else x_gf M 80 6 (fun r16 => x_rd 132 (M 81) r16 (fun r19 => some (((((r19 &&& (nI 255))).toUInt32 % 65536).toInt32), M)))))
abbrev rm_X7_letter : Room := { frames := 0, cells := 0, slots := 0, locals := 0 }
set_option maxHeartbeats 4000000 in
set_option maxRecDepth 100000 in
theorem c_X7_letter {l : Launch} {D : va_G} {cy : Nat → ClassId} {q ad : Nat → Nat} {NC : Nat} {s0 : State} (hq : x_Q q NC s0.heap.size) (hN : 88 ≤ NC) {M : x_M} {z : Int32 × x_M} (h : f_X7_letter M = some z) : x_Ci l D cy q ad x_spX NC s0 yX7_letter (x_uw yX7_letter cX7_letter 1 (some .char)) rm_X7_letter [.ref (q 80)] M z.1 z.2 := by
  refine x_meti hq (by decide) (Nat.le_of_ble_eq_true rfl) ?_
  intro p e s m args below meth c ls Q C hret hl hw
  have hx := C.1.1
  have hb := C.1.2.1
  have ho := C.1.2.2.2.1
  have hL := C.1.2.2.2.2
  have hl : lv_has ls 1 [(0, .ref (q 80))] := hl
  unfold f_X7_letter at h
  refine lv_aload_n hx hb dX7_letter_0 rfl (lv_at hl 0 rfl) ?_
  refine xh_geti C hw 80 6 h sX_80 (x_lt hN rfl) rfl rfl rfl lk_RX7_116 dX7_letter_1 (fun r1 h => ?_)
  refine lv_aload_n hx hb dX7_letter_4 rfl (lv_at hl 0 rfl) ?_
  refine xh_geti C hw 80 4 h sX_80 (x_lt hN rfl) rfl rfl rfl lk_RX7_32 dX7_letter_5 (fun r5 h => ?_)
  refine x_icmp_ge (tgt := 28) hx hb h dX7_letter_8 (by decide) (fun h => ?_) (fun h => ?_)
  · refine lv_bipush (v := (nI 32)) hx hb dX7_letter_28 (by decide) ?_
    exact hret dX7_letter_30 rfl hw h
  · refine lv_aload_n hx hb dX7_letter_11 rfl (lv_at hl 0 rfl) ?_
    refine xh_getr C hw 80 0 sX_80 (x_lt hN rfl) rfl rfl rfl lk_RX7_9 dX7_letter_12 ?_
    refine lv_aload_n hx hb dX7_letter_15 rfl (lv_at hl 0 rfl) ?_
    refine xh_geti C hw 80 6 h sX_80 (x_lt hN rfl) rfl rfl rfl lk_RX7_116 dX7_letter_16 (fun r16 h => ?_)
    refine xh_bald C hw 81 132 h sX_81 (x_lt hN rfl) dX7_letter_19 (fun r19 h => ?_)
    refine lv_sipush (v := (nI 255)) hx hb dX7_letter_20 (by decide) ?_
    refine lv_iand hx hb dX7_letter_23 ?_
    refine lv_i2c hx hb dX7_letter_24 rfl ?_
    refine lv_goto (tgt := 30) hx hb dX7_letter_25 (by decide) ?_
    exact hret dX7_letter_30 (pk_nc _) hw h
def f_J0_isLatin1_aae02 (M : x_M) (a0 : Int32) : Option (Int32 × x_M) := if (nI 1) = 0 then none else x_cs a0 (if (nI 0) = 0 then some ((nI 1), M) else none)
abbrev rm_J0_isLatin1_aae02 : Room := { frames := 0, cells := 0, slots := 0, locals := 0 }
set_option maxHeartbeats 4000000 in
set_option maxRecDepth 100000 in
theorem c_J0_isLatin1_aae02 {l : Launch} {D : va_G} {cy : Nat → ClassId} {q ad : Nat → Nat} {NC : Nat} {s0 : State} {adV : Nat → Nat} (hq : x_Q q NC s0.heap.size) (hN : 88 ≤ NC) (hz : x_Z s0 ad adV) {M : x_M} {a0 : Int32} {z : Int32 × x_M} (h : f_J0_isLatin1_aae02 M a0 = some z) : x_Ci l D cy q ad x_spX NC s0 yJ0_isLatin1_aae02 (x_uw yJ0_isLatin1_aae02 cJ0_isLatin1_aae02 1 (some .boolean)) rm_J0_isLatin1_aae02 [.ref (ad (a0).toNatClampNeg)] M z.1 z.2 := by
  refine x_meti hq (by decide) (Nat.le_of_ble_eq_true rfl) ?_
  intro p e s m args below meth c ls Q C hret hl hw
  have hx := C.1.1
  have hb := C.1.2.1
  have ho := C.1.2.2.2.1
  have hL := C.1.2.2.2.2
  have hl : lv_has ls 1 [(0, .ref (ad (a0).toNatClampNeg))] := hl
  unfold f_J0_isLatin1_aae02 at h
  refine xh_comp C hw hz lk_RJ0_38 dJ0_isLatin1_aae02_0 ?_
  refine x_if_eq (tgt := 17) hx hb h dJ0_isLatin1_aae02_3 (by decide) (fun h => ?_) (fun h => ?_)
  · cases h
  · refine lv_aload_n hx hb dJ0_isLatin1_aae02_6 rfl (lv_at hl 0 rfl) ?_
    refine xh_strC C hw hz h lk_RJ0_15 dJ0_isLatin1_aae02_7 (fun h => ?_)
    refine x_if_ne (tgt := 17) hx hb h dJ0_isLatin1_aae02_10 (by decide) (fun h => ?_) (fun h => ?_)
    · refine lv_iconst (v := (nI 1)) hx hb dJ0_isLatin1_aae02_13 (by decide) ?_
      refine lv_goto (tgt := 18) hx hb dJ0_isLatin1_aae02_14 (by decide) ?_
      exact hret dJ0_isLatin1_aae02_18 rfl hw h
    · cases h
def f_J0_coder_7d493 (M : x_M) (a0 : Int32) : Option (Int32 × x_M) := if (nI 1) = 0 then none else x_cs a0 (some ((nI 0), M))
abbrev rm_J0_coder_7d493 : Room := { frames := 0, cells := 0, slots := 0, locals := 0 }
set_option maxHeartbeats 4000000 in
set_option maxRecDepth 100000 in
theorem c_J0_coder_7d493 {l : Launch} {D : va_G} {cy : Nat → ClassId} {q ad : Nat → Nat} {NC : Nat} {s0 : State} {adV : Nat → Nat} (hq : x_Q q NC s0.heap.size) (hN : 88 ≤ NC) (hz : x_Z s0 ad adV) {M : x_M} {a0 : Int32} {z : Int32 × x_M} (h : f_J0_coder_7d493 M a0 = some z) : x_Ci l D cy q ad x_spX NC s0 yJ0_coder_7d493 (x_uw yJ0_coder_7d493 cJ0_coder_7d493 1 (some .byte)) rm_J0_coder_7d493 [.ref (ad (a0).toNatClampNeg)] M z.1 z.2 := by
  refine x_meti hq (by decide) (Nat.le_of_ble_eq_true rfl) ?_
  intro p e s m args below meth c ls Q C hret hl hw
  have hx := C.1.1
  have hb := C.1.2.1
  have ho := C.1.2.2.2.1
  have hL := C.1.2.2.2.2
  have hl : lv_has ls 1 [(0, .ref (ad (a0).toNatClampNeg))] := hl
  unfold f_J0_coder_7d493 at h
  refine xh_comp C hw hz lk_RJ0_38 dJ0_coder_7d493_0 ?_
  refine x_if_eq (tgt := 13) hx hb h dJ0_coder_7d493_3 (by decide) (fun h => ?_) (fun h => ?_)
  · cases h
  · refine lv_aload_n hx hb dJ0_coder_7d493_6 rfl (lv_at hl 0 rfl) ?_
    refine xh_strC C hw hz h lk_RJ0_15 dJ0_coder_7d493_7 (fun h => ?_)
    refine lv_goto (tgt := 14) hx hb dJ0_coder_7d493_10 (by decide) ?_
    exact hret dJ0_coder_7d493_14 rfl hw h
def f_J0_length_8abf5 (M : x_M) (a0 : Int32) : Option (Int32 × x_M) := x_cs a0 (x_ls a0 (fun r4 => x_cs a0 (x_bn (f_J0_coder_7d493 M a0) (fun r6 M => some ((r4 >>> (r6 &&& 31)), M)))))
abbrev rm_J0_length_8abf5 : Room := { frames := 1, cells := 0, slots := 0, locals := 20 }
set_option maxHeartbeats 4000000 in
set_option maxRecDepth 100000 in
theorem c_J0_length_8abf5 {l : Launch} {D : va_G} {cy : Nat → ClassId} {q ad : Nat → Nat} {NC : Nat} {s0 : State} {adV : Nat → Nat} (hq : x_Q q NC s0.heap.size) (hN : 88 ≤ NC) (hz : x_Z s0 ad adV) {M : x_M} {a0 : Int32} {z : Int32 × x_M} (h : f_J0_length_8abf5 M a0 = some z) : x_Ci l D cy q ad x_spX NC s0 yJ0_length_8abf5 (x_uw yJ0_length_8abf5 cJ0_length_8abf5 1 (some .int)) rm_J0_length_8abf5 [.ref (ad (a0).toNatClampNeg)] M z.1 z.2 := by
  refine x_meti hq (by decide) (Nat.le_of_ble_eq_true rfl) ?_
  intro p e s m args below meth c ls Q C hret hl hw
  have hx := C.1.1
  have hb := C.1.2.1
  have ho := C.1.2.2.2.1
  have hL := C.1.2.2.2.2
  have hl : lv_has ls 1 [(0, .ref (ad (a0).toNatClampNeg))] := hl
  unfold f_J0_length_8abf5 at h
  refine lv_aload_n hx hb dJ0_length_8abf5_0 rfl (lv_at hl 0 rfl) ?_
  refine xh_strV C hw hz h lk_RJ0_9 dJ0_length_8abf5_1 (fun h => ?_)
  refine xh_tlen C hw hz h dJ0_length_8abf5_4 (fun r4 h => ?_)
  refine lv_aload_n hx hb dJ0_length_8abf5_5 rfl (lv_at hl 0 rfl) ?_
  refine xh_cTi C hw (rest := [_]) hz h (fun _ hy => c_J0_coder_7d493 hq hN hz hy) ml_RJ0_335 mv_J0_coder_7d493 rfl ⟨rfl, rfl, by decide, by decide⟩ rfl hl.1 rfl (Nat.le_of_ble_eq_true rfl) dJ0_length_8abf5_6 (fun H locs r6 M hw h => ?_)
  refine lv_ishr hx hb dJ0_length_8abf5_9 ?_
  exact hret dJ0_length_8abf5_10 rfl hw h
def f_J1_canEncode_9a6ad_15 (M : x_M) : Option (Int32 × x_M) := some ((nI 0), M)
def f_J1_canEncode_9a6ad (M : x_M) (a1 : Int32) : Option (Int32 × x_M) := if a1 < 0 then f_J1_canEncode_9a6ad_15 M else if (nI 255) < a1 then f_J1_canEncode_9a6ad_15 M else some ((nI 1), M)
abbrev rm_J1_canEncode_9a6ad : Room := { frames := 0, cells := 0, slots := 0, locals := 0 }
set_option maxHeartbeats 4000000 in
set_option maxRecDepth 100000 in
theorem c_J1_canEncode_9a6ad {l : Launch} {D : va_G} {cy : Nat → ClassId} {q ad : Nat → Nat} {NC : Nat} {s0 : State} {adV : Nat → Nat} (hq : x_Q q NC s0.heap.size) (hN : 88 ≤ NC) (hz : x_Z s0 ad adV) {M : x_M} {a1 : Int32} {z : Int32 × x_M} (h : f_J1_canEncode_9a6ad M a1 = some z) : x_Ci l D cy q ad x_spX NC s0 yJ1_canEncode_9a6ad (x_uw yJ1_canEncode_9a6ad cJ1_canEncode_9a6ad 1 (some .boolean)) rm_J1_canEncode_9a6ad [.int a1] M z.1 z.2 := by
  refine x_meti hq (by decide) (Nat.le_of_ble_eq_true rfl) ?_
  intro p e s m args below meth c ls Q C hret hl hw
  have hx := C.1.1
  have hb := C.1.2.1
  have ho := C.1.2.2.2.1
  have hL := C.1.2.2.2.2
  have hl : lv_has ls 1 [(0, .int a1)] := hl
  have w15 : ∀ (M : x_M) (H : Heap) (locs : List Loc) (ls : Array Slot), x_B D cy q ad x_spX NC s H locs M → lv_has ls 1 [] → f_J1_canEncode_9a6ad_15 M = some z → W p l e rm_J1_canEncode_9a6ad s m args below meth c H locs 0 0 Q (F0 m 15 ls []) := by
    intro M H locs ls hw hl h
    unfold f_J1_canEncode_9a6ad_15 at h
    refine lv_iconst (v := (nI 0)) hx hb dJ1_canEncode_9a6ad_15 (by decide) ?_
    exact hret dJ1_canEncode_9a6ad_16 rfl hw h
  unfold f_J1_canEncode_9a6ad at h
  refine lv_iload_n hx hb dJ1_canEncode_9a6ad_0 rfl (lv_at hl 0 rfl) ?_
  refine x_if_lt (tgt := 15) hx hb h dJ1_canEncode_9a6ad_1 (by decide) (fun h => ?_) (fun h => ?_)
  · exact w15 _ _ _ _ hw (lv_sub hl [] rfl) h
  · refine lv_iload_n hx hb dJ1_canEncode_9a6ad_4 rfl (lv_at hl 0 rfl) ?_
    refine lv_sipush (v := (nI 255)) hx hb dJ1_canEncode_9a6ad_5 (by decide) ?_
    refine x_icmp_gt (tgt := 15) hx hb h dJ1_canEncode_9a6ad_8 (by decide) (fun h => ?_) (fun h => ?_)
    · exact w15 _ _ _ _ hw (lv_sub hl [] rfl) h
    · refine lv_iconst (v := (nI 1)) hx hb dJ1_canEncode_9a6ad_11 (by decide) ?_
      refine lv_goto (tgt := 16) hx hb dJ1_canEncode_9a6ad_12 (by decide) ?_
      exact hret dJ1_canEncode_9a6ad_16 rfl hw h
def f_J1_indexOfChar_4cfef_7 : Nat → x_M → Int32 → Int32 → Int32 → Int32 → Option (Int32 × x_M)
  | 0, _, _, _, _, _ => none
  | n + 1, M, v0, v3, v4, v5 => if v3 ≤ v5 then some ((-1), M) else x_rs v0 v5 (fun r16 => if r16 = v4 then some (v5, M) else (f_J1_indexOfChar_4cfef_7 n) M v0 v3 v4 (v5 + (nI 1)))
theorem f_J1_indexOfChar_4cfef_7_0 (M : x_M) (v0 : Int32) (v3 : Int32) (v4 : Int32) (v5 : Int32) : f_J1_indexOfChar_4cfef_7 0 M v0 v3 v4 v5 = none := rfl
theorem f_J1_indexOfChar_4cfef_7_s (n : Nat) (M : x_M) (v0 : Int32) (v3 : Int32) (v4 : Int32) (v5 : Int32) : f_J1_indexOfChar_4cfef_7 (n + 1) M v0 v3 v4 v5 = (if v3 ≤ v5 then some ((-1), M) else x_rs v0 v5 (fun r16 => if r16 = v4 then some (v5, M) else (f_J1_indexOfChar_4cfef_7 n) M v0 v3 v4 (v5 + (nI 1)))) := rfl
def f_J1_indexOfChar_4cfef (M : x_M) (a1 : Int32) (a2 : Int32) (a3 : Int32) (a4 : Int32) : Option (Int32 × x_M) := f_J1_indexOfChar_4cfef_7 x_FU M a1 a4 ((a2).toInt8.toInt32) a3
abbrev rm_J1_indexOfChar_4cfef : Room := { frames := 0, cells := 0, slots := 0, locals := 0 }
set_option maxHeartbeats 4000000 in
set_option maxRecDepth 100000 in
theorem c_J1_indexOfChar_4cfef {l : Launch} {D : va_G} {cy : Nat → ClassId} {q ad : Nat → Nat} {NC : Nat} {s0 : State} {adV : Nat → Nat} (hq : x_Q q NC s0.heap.size) (hN : 88 ≤ NC) (hz : x_Z s0 ad adV) {M : x_M} {a1 : Int32} {a2 : Int32} {a3 : Int32} {a4 : Int32} {z : Int32 × x_M} (h : f_J1_indexOfChar_4cfef M a1 a2 a3 a4 = some z) : x_Ci l D cy q ad x_spX NC s0 yJ1_indexOfChar_4cfef (x_uw yJ1_indexOfChar_4cfef cJ1_indexOfChar_4cfef 6 (some .int)) rm_J1_indexOfChar_4cfef [.ref (adV (a1).toNatClampNeg), .int a2, .int a3, .int a4] M z.1 z.2 := by
  refine x_meti hq (by decide) (Nat.le_of_ble_eq_true rfl) ?_
  intro p e s m args below meth c ls Q C hret hl hw
  have hx := C.1.1
  have hb := C.1.2.1
  have ho := C.1.2.2.2.1
  have hL := C.1.2.2.2.2
  have hl : lv_has ls 6 [(0, .ref (adV (a1).toNatClampNeg)), (1, .int a2), (2, .int a3), (3, .int a4)] := hl
  have w7 : ∀ (n : Nat) (M : x_M) (v0 : Int32) (v3 : Int32) (v4 : Int32) (v5 : Int32) (H : Heap) (locs : List Loc) (ls : Array Slot), x_B D cy q ad x_spX NC s H locs M → lv_has ls 6 [(0, .ref (adV (v0).toNatClampNeg)), (3, .int v3), (4, .int v4), (5, .int v5)] → f_J1_indexOfChar_4cfef_7 n M v0 v3 v4 v5 = some z → W p l e rm_J1_indexOfChar_4cfef s m args below meth c H locs 0 0 Q (F0 m 7 ls []) := by
    intro n
    induction n with
    | zero =>
      intro M v0 v3 v4 v5 H locs ls hw hl h
      rw [f_J1_indexOfChar_4cfef_7_0] at h
      cases h
    | succ n7 ih7 =>
      intro M v0 v3 v4 v5 H locs ls hw hl h
      rw [f_J1_indexOfChar_4cfef_7_s] at h
      refine lv_iload hx hb dJ1_indexOfChar_4cfef_7 (lv_at hl 3 rfl) ?_
      refine lv_iload_n hx hb dJ1_indexOfChar_4cfef_9 rfl (lv_at hl 1 rfl) ?_
      refine x_icmp_ge (tgt := 31) hx hb h dJ1_indexOfChar_4cfef_10 (by decide) (fun h => ?_) (fun h => ?_)
      · refine lv_iconst (v := (-1)) hx hb dJ1_indexOfChar_4cfef_31 (by decide) ?_
        exact hret dJ1_indexOfChar_4cfef_32 rfl hw h
      · refine lv_aload_n hx hb dJ1_indexOfChar_4cfef_13 rfl (lv_at hl 0 rfl) ?_
        refine lv_iload hx hb dJ1_indexOfChar_4cfef_14 (lv_at hl 3 rfl) ?_
        refine xh_tb C hw hz h dJ1_indexOfChar_4cfef_16 (fun r16 h => ?_)
        refine lv_iload hx hb dJ1_indexOfChar_4cfef_17 (lv_at hl 2 rfl) ?_
        refine x_icmp_ne (tgt := 25) hx hb h dJ1_indexOfChar_4cfef_19 (by decide) (fun h => ?_) (fun h => ?_)
        · refine lv_iload hx hb dJ1_indexOfChar_4cfef_22 (lv_at hl 3 rfl) ?_
          exact hret dJ1_indexOfChar_4cfef_24 rfl hw h
        · refine lv_iinc (lv' := [(5, .int _), (0, .ref _), (3, .int _), (4, .int _)]) hx hb dJ1_indexOfChar_4cfef_25 hl (k := 3) rfl (x_inc (show Int32.ofInt 1 = (nI 1) by decide) _) (by decide) rfl (fun ls hl => ?_)
          refine lv_goto (tgt := 7) hx hb dJ1_indexOfChar_4cfef_28 (by decide) ?_
          exact ih7 _ _ _ _ _ _ _ _ hw (lv_sub hl [1, 2, 3, 0] rfl) h
  unfold f_J1_indexOfChar_4cfef at h
  refine lv_iload_n hx hb dJ1_indexOfChar_4cfef_0 rfl (lv_at hl 1 rfl) ?_
  refine lv_i2b hx hb dJ1_indexOfChar_4cfef_1 rfl ?_
  refine lv_istore (lv' := [(4, .int _), (0, .ref _), (1, .int _), (2, .int _), (3, .int _)]) hx hb dJ1_indexOfChar_4cfef_2 hl (by decide) rfl (fun ls hl => ?_)
  refine lv_iload_n hx hb dJ1_indexOfChar_4cfef_4 rfl (lv_at hl 3 rfl) ?_
  refine lv_istore (lv' := [(5, .int _), (4, .int _), (0, .ref _), (1, .int _), (2, .int _), (3, .int _)]) hx hb dJ1_indexOfChar_4cfef_5 hl (by decide) rfl (fun ls hl => ?_)
  exact w7 _ _ _ _ _ _ _ _ _ hw (lv_sub hl [2, 5, 1, 0] rfl) h
def f_J1_indexOf_4cfef (M : x_M) (a1 : Int32) (a2 : Int32) (a3 : Int32) (a4 : Int32) : Option (Int32 × x_M) := x_bn (f_J1_canEncode_9a6ad M a2) (fun r1 M => if r1 = 0 then some ((-1), M) else x_ls a1 (fun r17 => if (if a3 < (nI 0) then (nI 0) else a3) < (if r17 < a4 then r17 else a4) then x_bn (f_J1_indexOfChar_4cfef M a1 a2 (if a3 < (nI 0) then (nI 0) else a3) (if r17 < a4 then r17 else a4)) (fun r33 M => some (r33, M)) else some ((-1), M)))
abbrev rm_J1_indexOf_4cfef : Room := { frames := 1, cells := 0, slots := 0, locals := 30 }
set_option maxHeartbeats 4000000 in
set_option maxRecDepth 100000 in
theorem c_J1_indexOf_4cfef {l : Launch} {D : va_G} {cy : Nat → ClassId} {q ad : Nat → Nat} {NC : Nat} {s0 : State} {adV : Nat → Nat} (hq : x_Q q NC s0.heap.size) (hN : 88 ≤ NC) (hz : x_Z s0 ad adV) {M : x_M} {a1 : Int32} {a2 : Int32} {a3 : Int32} {a4 : Int32} {z : Int32 × x_M} (h : f_J1_indexOf_4cfef M a1 a2 a3 a4 = some z) : x_Ci l D cy q ad x_spX NC s0 yJ1_indexOf_4cfef (x_uw yJ1_indexOf_4cfef cJ1_indexOf_4cfef 4 (some .int)) rm_J1_indexOf_4cfef [.ref (adV (a1).toNatClampNeg), .int a2, .int a3, .int a4] M z.1 z.2 := by
  refine x_meti hq (by decide) (Nat.le_of_ble_eq_true rfl) ?_
  intro p e s m args below meth c ls Q C hret hl hw
  have hx := C.1.1
  have hb := C.1.2.1
  have ho := C.1.2.2.2.1
  have hL := C.1.2.2.2.2
  have hl : lv_has ls 4 [(0, .ref (adV (a1).toNatClampNeg)), (1, .int a2), (2, .int a3), (3, .int a4)] := hl
  unfold f_J1_indexOf_4cfef at h
  refine lv_iload_n hx hb dJ1_indexOf_4cfef_0 rfl (lv_at hl 1 rfl) ?_
  refine xh_cSi C hw (rest := []) h (fun _ hy => c_J1_canEncode_9a6ad hq hN hz hy) ml_RJ1_88 st_J1_canEncode_9a6ad ⟨rfl, rfl, by decide, by decide⟩ rfl hl.1 rfl (Nat.le_of_ble_eq_true rfl) dJ1_indexOf_4cfef_1 (fun H locs r1 M hw h => ?_)
  refine x_if_ne (tgt := 9) hx hb h dJ1_indexOf_4cfef_4 (by decide) (fun h => ?_) (fun h => ?_)
  · refine lv_iconst (v := (-1)) hx hb dJ1_indexOf_4cfef_7 (by decide) ?_
    exact hret dJ1_indexOf_4cfef_8 rfl hw h
  · refine lv_iload_n hx hb dJ1_indexOf_4cfef_9 rfl (lv_at hl 2 rfl) ?_
    refine lv_iconst (v := (nI 0)) hx hb dJ1_indexOf_4cfef_10 (by decide) ?_
    refine xh_max C (rest := []) mw_RJ1_92 hl.1 ⟨by decide, Nat.le_of_ble_eq_true rfl⟩ dJ1_indexOf_4cfef_11 ?_
    refine lv_istore_n (lv' := [(2, .int _), (0, .ref _), (1, .int _), (3, .int _)]) hx hb dJ1_indexOf_4cfef_14 rfl hl (by decide) rfl (fun ls hl => ?_)
    refine lv_iload_n hx hb dJ1_indexOf_4cfef_15 rfl (lv_at hl 3 rfl) ?_
    refine lv_aload_n hx hb dJ1_indexOf_4cfef_16 rfl (lv_at hl 1 rfl) ?_
    refine xh_tlen C hw hz h dJ1_indexOf_4cfef_17 (fun r17 h => ?_)
    refine xh_min C (rest := []) mw_RJ1_38 hl.1 ⟨by decide, Nat.le_of_ble_eq_true rfl⟩ dJ1_indexOf_4cfef_18 ?_
    refine lv_istore_n (lv' := [(3, .int _), (2, .int _), (0, .ref _), (1, .int _)]) hx hb dJ1_indexOf_4cfef_21 rfl hl (by decide) rfl (fun ls hl => ?_)
    refine lv_iload_n hx hb dJ1_indexOf_4cfef_22 rfl (lv_at hl 1 rfl) ?_
    refine lv_iload_n hx hb dJ1_indexOf_4cfef_23 rfl (lv_at hl 0 rfl) ?_
    refine x_icmp_lt (tgt := 29) hx hb h dJ1_indexOf_4cfef_24 (by decide) (fun h => ?_) (fun h => ?_)
    · refine lv_aload_n hx hb dJ1_indexOf_4cfef_29 rfl (lv_at hl 2 rfl) ?_
      refine lv_iload_n hx hb dJ1_indexOf_4cfef_30 rfl (lv_at hl 3 rfl) ?_
      refine lv_iload_n hx hb dJ1_indexOf_4cfef_31 rfl (lv_at hl 1 rfl) ?_
      refine lv_iload_n hx hb dJ1_indexOf_4cfef_32 rfl (lv_at hl 0 rfl) ?_
      refine xh_cSi C hw (rest := []) h (fun _ hy => c_J1_indexOfChar_4cfef hq hN hz hy) ml_RJ1_95 st_J1_indexOfChar_4cfef ⟨rfl, rfl, by decide, by decide⟩ rfl hl.1 rfl (Nat.le_of_ble_eq_true rfl) dJ1_indexOf_4cfef_33 (fun H locs r33 M hw h => ?_)
      exact hret dJ1_indexOf_4cfef_36 rfl hw h
    · refine lv_iconst (v := (-1)) hx hb dJ1_indexOf_4cfef_27 (by decide) ?_
      exact hret dJ1_indexOf_4cfef_28 rfl hw h
def f_J0_indexOf_7cf53 (M : x_M) (a0 : Int32) (a1 : Int32) (a2 : Int32) : Option (Int32 × x_M) := x_cs a0 (x_bn (f_J0_isLatin1_aae02 M a0) (fun r1 M => if r1 = 0 then none else x_cs a0 (x_cs a0 (x_bn (f_J0_length_8abf5 M a0) (fun r14 M => x_bn (f_J1_indexOf_4cfef M a0 a1 a2 r14) (fun r17 M => some (r17, M)))))))
abbrev rm_J0_indexOf_7cf53 : Room := { frames := 2, cells := 0, slots := 0, locals := 53 }
set_option maxHeartbeats 4000000 in
set_option maxRecDepth 100000 in
theorem c_J0_indexOf_7cf53 {l : Launch} {D : va_G} {cy : Nat → ClassId} {q ad : Nat → Nat} {NC : Nat} {s0 : State} {adV : Nat → Nat} (hq : x_Q q NC s0.heap.size) (hN : 88 ≤ NC) (hz : x_Z s0 ad adV) {M : x_M} {a0 : Int32} {a1 : Int32} {a2 : Int32} {z : Int32 × x_M} (h : f_J0_indexOf_7cf53 M a0 a1 a2 = some z) : x_Ci l D cy q ad x_spX NC s0 yJ0_indexOf_7cf53 (x_uw yJ0_indexOf_7cf53 cJ0_indexOf_7cf53 3 (some .int)) rm_J0_indexOf_7cf53 [.ref (ad (a0).toNatClampNeg), .int a1, .int a2] M z.1 z.2 := by
  refine x_meti hq (by decide) (Nat.le_of_ble_eq_true rfl) ?_
  intro p e s m args below meth c ls Q C hret hl hw
  have hx := C.1.1
  have hb := C.1.2.1
  have ho := C.1.2.2.2.1
  have hL := C.1.2.2.2.2
  have hl : lv_has ls 3 [(0, .ref (ad (a0).toNatClampNeg)), (1, .int a1), (2, .int a2)] := hl
  unfold f_J0_indexOf_7cf53 at h
  refine lv_aload_n hx hb dJ0_indexOf_7cf53_0 rfl (lv_at hl 0 rfl) ?_
  refine xh_cTi C hw (rest := []) hz h (fun _ hy => c_J0_isLatin1_aae02 hq hN hz hy) ml_RJ0_492 mv_J0_isLatin1_aae02 rfl ⟨rfl, rfl, by decide, by decide⟩ rfl hl.1 rfl (Nat.le_of_ble_eq_true rfl) dJ0_indexOf_7cf53_1 (fun H locs r1 M hw h => ?_)
  refine x_if_eq (tgt := 23) hx hb h dJ0_indexOf_7cf53_4 (by decide) (fun h => ?_) (fun h => ?_)
  · cases h
  · refine lv_aload_n hx hb dJ0_indexOf_7cf53_7 rfl (lv_at hl 0 rfl) ?_
    refine xh_strV C hw hz h lk_RJ0_9 dJ0_indexOf_7cf53_8 (fun h => ?_)
    refine lv_iload_n hx hb dJ0_indexOf_7cf53_11 rfl (lv_at hl 1 rfl) ?_
    refine lv_iload_n hx hb dJ0_indexOf_7cf53_12 rfl (lv_at hl 2 rfl) ?_
    refine lv_aload_n hx hb dJ0_indexOf_7cf53_13 rfl (lv_at hl 0 rfl) ?_
    refine xh_cTi C hw (rest := [_, _, _]) hz h (fun _ hy => c_J0_length_8abf5 hq hN hz hy) ml_RJ0_505 mv_J0_length_8abf5 rfl ⟨rfl, rfl, by decide, by decide⟩ rfl hl.1 rfl (Nat.le_of_ble_eq_true rfl) dJ0_indexOf_7cf53_14 (fun H locs r14 M hw h => ?_)
    refine xh_cSi C hw (rest := []) h (fun _ hy => c_J1_indexOf_4cfef hq hN hz hy) ml_RJ0_637 st_J1_indexOf_4cfef ⟨rfl, rfl, by decide, by decide⟩ rfl hl.1 rfl (Nat.le_of_ble_eq_true rfl) dJ0_indexOf_7cf53_17 (fun H locs r17 M hw h => ?_)
    refine lv_goto (tgt := 36) hx hb dJ0_indexOf_7cf53_20 (by decide) ?_
    exact hret dJ0_indexOf_7cf53_36 rfl hw h
def f_J0_indexOf_0f7a4 (M : x_M) (a0 : Int32) (a1 : Int32) : Option (Int32 × x_M) := x_cs a0 (x_bn (f_J0_indexOf_7cf53 M a0 a1 (nI 0)) (fun r3 M => some (r3, M)))
abbrev rm_J0_indexOf_0f7a4 : Room := { frames := 3, cells := 0, slots := 0, locals := 75 }
set_option maxHeartbeats 4000000 in
set_option maxRecDepth 100000 in
theorem c_J0_indexOf_0f7a4 {l : Launch} {D : va_G} {cy : Nat → ClassId} {q ad : Nat → Nat} {NC : Nat} {s0 : State} {adV : Nat → Nat} (hq : x_Q q NC s0.heap.size) (hN : 88 ≤ NC) (hz : x_Z s0 ad adV) {M : x_M} {a0 : Int32} {a1 : Int32} {z : Int32 × x_M} (h : f_J0_indexOf_0f7a4 M a0 a1 = some z) : x_Ci l D cy q ad x_spX NC s0 yJ0_indexOf_0f7a4 (x_uw yJ0_indexOf_0f7a4 cJ0_indexOf_0f7a4 2 (some .int)) rm_J0_indexOf_0f7a4 [.ref (ad (a0).toNatClampNeg), .int a1] M z.1 z.2 := by
  refine x_meti hq (by decide) (Nat.le_of_ble_eq_true rfl) ?_
  intro p e s m args below meth c ls Q C hret hl hw
  have hx := C.1.1
  have hb := C.1.2.1
  have ho := C.1.2.2.2.1
  have hL := C.1.2.2.2.2
  have hl : lv_has ls 2 [(0, .ref (ad (a0).toNatClampNeg)), (1, .int a1)] := hl
  unfold f_J0_indexOf_0f7a4 at h
  refine lv_aload_n hx hb dJ0_indexOf_0f7a4_0 rfl (lv_at hl 0 rfl) ?_
  refine lv_iload_n hx hb dJ0_indexOf_0f7a4_1 rfl (lv_at hl 1 rfl) ?_
  refine lv_iconst (v := (nI 0)) hx hb dJ0_indexOf_0f7a4_2 (by decide) ?_
  refine xh_cTi C hw (rest := []) hz h (fun _ hy => c_J0_indexOf_7cf53 hq hN hz hy) ml_RJ0_633 mv_J0_indexOf_7cf53 rfl ⟨rfl, rfl, by decide, by decide⟩ rfl hl.1 rfl (Nat.le_of_ble_eq_true rfl) dJ0_indexOf_0f7a4_3 (fun H locs r3 M hw h => ?_)
  exact hret dJ0_indexOf_0f7a4_6 rfl hw h
def f_X7_isSignOf_23 (M : x_M) : Option (Int32 × x_M) := some ((nI 0), M)
def f_X7_isSignOf (M : x_M) (a1 : Int32) : Option (Int32 × x_M) := x_gf M 80 8 (fun r1 => if r1 = (nI 3) then x_bn (f_X7_letter M) (fun r10 M => x_cs a1 (x_bn (f_J0_indexOf_0f7a4 M a1 r10) (fun r13 M => if r13 < 0 then f_X7_isSignOf_23 M else some ((nI 1), M)))) else f_X7_isSignOf_23 M)
abbrev rm_X7_isSignOf : Room := { frames := 4, cells := 0, slots := 0, locals := 96 }
set_option maxHeartbeats 4000000 in
set_option maxRecDepth 100000 in
theorem c_X7_isSignOf {l : Launch} {D : va_G} {cy : Nat → ClassId} {q ad : Nat → Nat} {NC : Nat} {s0 : State} {adV : Nat → Nat} (hq : x_Q q NC s0.heap.size) (hN : 88 ≤ NC) (hz : x_Z s0 ad adV) {M : x_M} {a1 : Int32} {z : Int32 × x_M} (h : f_X7_isSignOf M a1 = some z) : x_Ci l D cy q ad x_spX NC s0 yX7_isSignOf (x_uw yX7_isSignOf cX7_isSignOf 2 (some .boolean)) rm_X7_isSignOf [.ref (q 80), .ref (ad (a1).toNatClampNeg)] M z.1 z.2 := by
  refine x_meti hq (by decide) (Nat.le_of_ble_eq_true rfl) ?_
  intro p e s m args below meth c ls Q C hret hl hw
  have hx := C.1.1
  have hb := C.1.2.1
  have ho := C.1.2.2.2.1
  have hL := C.1.2.2.2.2
  have hl : lv_has ls 2 [(0, .ref (q 80)), (1, .ref (ad (a1).toNatClampNeg))] := hl
  have w23 : ∀ (M : x_M) (H : Heap) (locs : List Loc) (ls : Array Slot), x_B D cy q ad x_spX NC s H locs M → lv_has ls 2 [] → f_X7_isSignOf_23 M = some z → W p l e rm_X7_isSignOf s m args below meth c H locs 0 0 Q (F0 m 23 ls []) := by
    intro M H locs ls hw hl h
    unfold f_X7_isSignOf_23 at h
    refine lv_iconst (v := (nI 0)) hx hb dX7_isSignOf_23 (by decide) ?_
    exact hret dX7_isSignOf_24 rfl hw h
  unfold f_X7_isSignOf at h
  refine lv_aload_n hx hb dX7_isSignOf_0 rfl (lv_at hl 0 rfl) ?_
  refine xh_geti C hw 80 8 h sX_80 (x_lt hN rfl) rfl rfl rfl lk_RX7_61 dX7_isSignOf_1 (fun r1 h => ?_)
  refine lv_iconst (v := (nI 3)) hx hb dX7_isSignOf_4 (by decide) ?_
  refine x_icmp_ne (tgt := 23) hx hb h dX7_isSignOf_5 (by decide) (fun h => ?_) (fun h => ?_)
  · refine lv_aload_n hx hb dX7_isSignOf_8 rfl (lv_at hl 1 rfl) ?_
    refine lv_aload_n hx hb dX7_isSignOf_9 rfl (lv_at hl 0 rfl) ?_
    refine xh_cVi C hw (rest := [_]) h (fun _ hy => c_X7_letter hq hN hy) ml_RX7_144 mv_X7_letter sX_80 (x_lt hN rfl) rfl ⟨rfl, rfl, by decide, by decide⟩ rfl hl.1 rfl (Nat.le_of_ble_eq_true rfl) dX7_isSignOf_10 (fun H locs r10 M hw h => ?_)
    refine xh_cTi C hw (rest := []) hz h (fun _ hy => c_J0_indexOf_0f7a4 hq hN hz hy) ml_RX7_148 mv_J0_indexOf_0f7a4 rfl ⟨rfl, rfl, by decide, by decide⟩ rfl hl.1 rfl (Nat.le_of_ble_eq_true rfl) dX7_isSignOf_13 (fun H locs r13 M hw h => ?_)
    refine x_if_lt (tgt := 23) hx hb h dX7_isSignOf_16 (by decide) (fun h => ?_) (fun h => ?_)
    · exact w23 _ _ _ _ hw (lv_sub hl [] rfl) h
    · refine lv_iconst (v := (nI 1)) hx hb dX7_isSignOf_19 (by decide) ?_
      refine lv_goto (tgt := 24) hx hb dX7_isSignOf_20 (by decide) ?_
      exact hret dX7_isSignOf_24 rfl hw h
  · exact w23 _ _ _ _ hw (lv_sub hl [] rfl) h
def f_X7_isInParens_42 (kJ : x_M → Int32 → Option (Int32 × x_M)) (M : x_M) : Option (Int32 × x_M) := some ((nI 0), M)
def f_X7_isInParens (kJ : x_M → Int32 → Option (Int32 × x_M)) (M : x_M) : Option (Int32 × x_M) := x_gf M 80 11 (fun r1 => if r1 < (nI 8) then x_gf M 80 11 (fun r13 => x_pf M 80 11 (r13 + (nI 1)) (fun M => x_bn (f_X7_next M) (fun _ M => x_bn (kJ M (nI 0)) (fun r27 M => if r27 = 0 then f_X7_isInParens_42 kJ M else x_bn (f_X7_isSignOf M (nI 16)) (fun r36 M => if r36 = 0 then f_X7_isInParens_42 kJ M else x_bn (f_X7_next M) (fun _ M => x_gf M 80 11 (fun r50 => x_pf M 80 11 (r50 - (nI 1)) (fun M => some ((nI 1), M))))))))) else some ((nI 0), M))
set_option maxHeartbeats 4000000 in
set_option maxRecDepth 100000 in
theorem c_X7_isInParens {l : Launch} {D : va_G} {cy : Nat → ClassId} {q ad : Nat → Nat} {NC : Nat} {s0 : State} {adV : Nat → Nat} (hq : x_Q q NC s0.heap.size) (hN : 88 ≤ NC) (hz : x_Z s0 ad adV) (d : Nat) {kJ : x_M → Int32 → Option (Int32 × x_M)} (hJ : ∀ {M : x_M} {a1 : Int32} {z : Int32 × x_M}, kJ M a1 = some z → x_Ci l D cy q ad x_spX NC s0 yX7_isJoined (x_uw yX7_isJoined cX7_isJoined 5 (some .boolean)) (x_rmG d) [.ref (q 80), .int a1] M z.1 z.2) {M : x_M} {z : Int32 × x_M} (h : f_X7_isInParens kJ M = some z) : x_Ci l D cy q ad x_spX NC s0 yX7_isInParens (x_uw yX7_isInParens cX7_isInParens 1 (some .boolean)) (x_rmH d) [.ref (q 80)] M z.1 z.2 := by
  refine x_meti hq (by decide) (Nat.le_of_ble_eq_true rfl) ?_
  intro p e s m args below meth c ls Q C hret hl hw
  have hx := C.1.1
  have hb := C.1.2.1
  have ho := C.1.2.2.2.1
  have hL := C.1.2.2.2.2
  have hl : lv_has ls 1 [(0, .ref (q 80))] := hl
  have w42 : ∀ (M : x_M) (H : Heap) (locs : List Loc) (ls : Array Slot), x_B D cy q ad x_spX NC s H locs M → lv_has ls 1 [] → f_X7_isInParens_42 kJ M = some z → W p l e (x_rmH d) s m args below meth c H locs 0 0 Q (F0 m 42 ls []) := by
    intro M H locs ls hw hl h
    unfold f_X7_isInParens_42 at h
    refine lv_iconst (v := (nI 0)) hx hb dX7_isInParens_42 (by decide) ?_
    exact hret dX7_isInParens_43 rfl hw h
  unfold f_X7_isInParens at h
  refine lv_aload_n hx hb dX7_isInParens_0 rfl (lv_at hl 0 rfl) ?_
  refine xh_geti C hw 80 11 h sX_80 (x_lt hN rfl) rfl rfl rfl lk_RX7_52 dX7_isInParens_1 (fun r1 h => ?_)
  refine lv_bipush (v := (nI 8)) hx hb dX7_isInParens_4 (by decide) ?_
  refine x_icmp_lt (tgt := 11) hx hb h dX7_isInParens_6 (by decide) (fun h => ?_) (fun h => ?_)
  · refine lv_aload_n hx hb dX7_isInParens_11 rfl (lv_at hl 0 rfl) ?_
    refine lv_dup hx hb dX7_isInParens_12 rfl ?_
    refine xh_geti C hw 80 11 h sX_80 (x_lt hN rfl) rfl rfl rfl lk_RX7_52 dX7_isInParens_13 (fun r13 h => ?_)
    refine lv_iconst (v := (nI 1)) hx hb dX7_isInParens_16 (by decide) ?_
    refine lv_iadd hx hb dX7_isInParens_17 ?_
    refine xh_puti C hw 80 11 h sX_80 (x_lt hN rfl) rfl rfl rfl lk_RX7_52 rfl rfl dX7_isInParens_18 (fun H locs M hw h => ?_)
    refine lv_aload_n hx hb dX7_isInParens_21 rfl (lv_at hl 0 rfl) ?_
    refine xh_cVv C hw (rest := []) h (fun _ hy => c_X7_next hq hN hy) ml_RX7_64 mv_X7_next sX_80 (x_lt hN rfl) rfl ⟨rfl, rfl, by dsimp only [x_rmG, x_rmH, rm_X7_next]; omega, by dsimp only [x_rmG, x_rmH, rm_X7_next]; omega⟩ rfl hl.1 rfl (Nat.le_of_ble_eq_true rfl) dX7_isInParens_22 (fun H locs _ M hw h => ?_)
    refine lv_aload_n hx hb dX7_isInParens_25 rfl (lv_at hl 0 rfl) ?_
    refine lv_iconst (v := (nI 0)) hx hb dX7_isInParens_26 (by decide) ?_
    refine xh_cVi C hw (rest := []) h (fun _ hy => hJ hy) ml_RX7_78 mv_X7_isJoined sX_80 (x_lt hN rfl) rfl ⟨rfl, rfl, by dsimp only [x_rmG, x_rmH]; omega, by dsimp only [x_rmG, x_rmH]; omega⟩ rfl hl.1 rfl (Nat.le_of_ble_eq_true rfl) dX7_isInParens_27 (fun H locs r27 M hw h => ?_)
    refine x_if_eq (tgt := 42) hx hb h dX7_isInParens_30 (by decide) (fun h => ?_) (fun h => ?_)
    · exact w42 _ _ _ _ hw (lv_sub hl [] rfl) h
    · refine lv_aload_n hx hb dX7_isInParens_33 rfl (lv_at hl 0 rfl) ?_
      refine xh_ldcS C hz 16 (v := (nI 16)) rfl (by decide) dX7_isInParens_34 ?_
      refine xh_cVi C hw (rest := []) h (fun _ hy => c_X7_isSignOf hq hN hz hy) ml_RX7_157 mv_X7_isSignOf sX_80 (x_lt hN rfl) rfl ⟨rfl, rfl, by dsimp only [x_rmG, x_rmH, rm_X7_isSignOf]; omega, by dsimp only [x_rmG, x_rmH, rm_X7_isSignOf]; omega⟩ rfl hl.1 rfl (Nat.le_of_ble_eq_true rfl) dX7_isInParens_36 (fun H locs r36 M hw h => ?_)
      refine x_if_ne (tgt := 44) hx hb h dX7_isInParens_39 (by decide) (fun h => ?_) (fun h => ?_)
      · exact w42 _ _ _ _ hw (lv_sub hl [] rfl) h
      · refine lv_aload_n hx hb dX7_isInParens_44 rfl (lv_at hl 0 rfl) ?_
        refine xh_cVv C hw (rest := []) h (fun _ hy => c_X7_next hq hN hy) ml_RX7_64 mv_X7_next sX_80 (x_lt hN rfl) rfl ⟨rfl, rfl, by dsimp only [x_rmG, x_rmH, rm_X7_next]; omega, by dsimp only [x_rmG, x_rmH, rm_X7_next]; omega⟩ rfl hl.1 rfl (Nat.le_of_ble_eq_true rfl) dX7_isInParens_45 (fun H locs _ M hw h => ?_)
        refine lv_aload_n hx hb dX7_isInParens_48 rfl (lv_at hl 0 rfl) ?_
        refine lv_dup hx hb dX7_isInParens_49 rfl ?_
        refine xh_geti C hw 80 11 h sX_80 (x_lt hN rfl) rfl rfl rfl lk_RX7_52 dX7_isInParens_50 (fun r50 h => ?_)
        refine lv_iconst (v := (nI 1)) hx hb dX7_isInParens_53 (by decide) ?_
        refine lv_isub hx hb dX7_isInParens_54 ?_
        refine xh_puti C hw 80 11 h sX_80 (x_lt hN rfl) rfl rfl rfl lk_RX7_52 rfl rfl dX7_isInParens_55 (fun H locs M hw h => ?_)
        refine lv_iconst (v := (nI 1)) hx hb dX7_isInParens_58 (by decide) ?_
        exact hret dX7_isInParens_59 rfl hw h
  · refine lv_iconst (v := (nI 0)) hx hb dX7_isInParens_9 (by decide) ?_
    exact hret dX7_isInParens_10 rfl hw h
def f_X7_number_7 : Nat → x_M → Int32 → Int32 → Option (Int32 × x_M)
  | 0, _, _, _ => none
  | n + 1, M, v1, v2 => x_gf M 80 7 (fun r9 => if r9 ≤ v2 then some (v1, M) else x_rd 132 (M 81) v2 (fun r24 => (f_X7_number_7 n) M (((v1 * (nI 10)) + r24) - (nI 48)) (v2 + (nI 1))))
theorem f_X7_number_7_0 (M : x_M) (v1 : Int32) (v2 : Int32) : f_X7_number_7 0 M v1 v2 = none := rfl
theorem f_X7_number_7_s (n : Nat) (M : x_M) (v1 : Int32) (v2 : Int32) : f_X7_number_7 (n + 1) M v1 v2 = (x_gf M 80 7 (fun r9 => if r9 ≤ v2 then some (v1, M) else x_rd 132 (M 81) v2 (fun r24 => (f_X7_number_7 n) M (((v1 * (nI 10)) + r24) - (nI 48)) (v2 + (nI 1))))) := rfl
def f_X7_number (M : x_M) : Option (Int32 × x_M) := x_gf M 80 6 (fun r3 => f_X7_number_7 x_FU M (nI 0) r3)
abbrev rm_X7_number : Room := { frames := 0, cells := 0, slots := 0, locals := 0 }
set_option maxHeartbeats 4000000 in
set_option maxRecDepth 100000 in
theorem c_X7_number {l : Launch} {D : va_G} {cy : Nat → ClassId} {q ad : Nat → Nat} {NC : Nat} {s0 : State} (hq : x_Q q NC s0.heap.size) (hN : 88 ≤ NC) {M : x_M} {z : Int32 × x_M} (h : f_X7_number M = some z) : x_Ci l D cy q ad x_spX NC s0 yX7_number (x_uw yX7_number cX7_number 3 (some .int)) rm_X7_number [.ref (q 80)] M z.1 z.2 := by
  refine x_meti hq (by decide) (Nat.le_of_ble_eq_true rfl) ?_
  intro p e s m args below meth c ls Q C hret hl hw
  have hx := C.1.1
  have hb := C.1.2.1
  have ho := C.1.2.2.2.1
  have hL := C.1.2.2.2.2
  have hl : lv_has ls 3 [(0, .ref (q 80))] := hl
  have w7 : ∀ (n : Nat) (M : x_M) (v1 : Int32) (v2 : Int32) (H : Heap) (locs : List Loc) (ls : Array Slot), x_B D cy q ad x_spX NC s H locs M → lv_has ls 3 [(0, .ref (q 80)), (1, .int v1), (2, .int v2)] → f_X7_number_7 n M v1 v2 = some z → W p l e rm_X7_number s m args below meth c H locs 0 0 Q (F0 m 7 ls []) := by
    intro n
    induction n with
    | zero =>
      intro M v1 v2 H locs ls hw hl h
      rw [f_X7_number_7_0] at h
      cases h
    | succ n7 ih7 =>
      intro M v1 v2 H locs ls hw hl h
      rw [f_X7_number_7_s] at h
      refine lv_iload_n hx hb dX7_number_7 rfl (lv_at hl 2 rfl) ?_
      refine lv_aload_n hx hb dX7_number_8 rfl (lv_at hl 0 rfl) ?_
      refine xh_geti C hw 80 7 h sX_80 (x_lt hN rfl) rfl rfl rfl lk_RX7_58 dX7_number_9 (fun r9 h => ?_)
      refine x_icmp_ge (tgt := 36) hx hb h dX7_number_12 (by decide) (fun h => ?_) (fun h => ?_)
      · refine lv_iload_n hx hb dX7_number_36 rfl (lv_at hl 1 rfl) ?_
        exact hret dX7_number_37 rfl hw h
      · refine lv_iload_n hx hb dX7_number_15 rfl (lv_at hl 1 rfl) ?_
        refine lv_bipush (v := (nI 10)) hx hb dX7_number_16 (by decide) ?_
        refine lv_imul hx hb dX7_number_18 ?_
        refine lv_aload_n hx hb dX7_number_19 rfl (lv_at hl 0 rfl) ?_
        refine xh_getr C hw 80 0 sX_80 (x_lt hN rfl) rfl rfl rfl lk_RX7_9 dX7_number_20 ?_
        refine lv_iload_n hx hb dX7_number_23 rfl (lv_at hl 2 rfl) ?_
        refine xh_bald C hw 81 132 h sX_81 (x_lt hN rfl) dX7_number_24 (fun r24 h => ?_)
        refine lv_iadd hx hb dX7_number_25 ?_
        refine lv_bipush (v := (nI 48)) hx hb dX7_number_26 (by decide) ?_
        refine lv_isub hx hb dX7_number_28 ?_
        refine lv_istore_n (lv' := [(1, .int _), (0, .ref (q 80)), (2, .int _)]) hx hb dX7_number_29 rfl hl (by decide) rfl (fun ls hl => ?_)
        refine lv_iinc (lv' := [(2, .int _), (1, .int _), (0, .ref (q 80))]) hx hb dX7_number_30 hl (k := 2) rfl (x_inc (show Int32.ofInt 1 = (nI 1) by decide) _) (by decide) rfl (fun ls hl => ?_)
        refine lv_goto (tgt := 7) hx hb dX7_number_33 (by decide) ?_
        exact ih7 _ _ _ _ _ _ hw (lv_sub hl [2, 1, 0] rfl) h
  unfold f_X7_number at h
  refine lv_iconst (v := (nI 0)) hx hb dX7_number_0 (by decide) ?_
  refine lv_istore_n (lv' := [(1, .int _), (0, .ref (q 80))]) hx hb dX7_number_1 rfl hl (by decide) rfl (fun ls hl => ?_)
  refine lv_aload_n hx hb dX7_number_2 rfl (lv_at hl 1 rfl) ?_
  refine xh_geti C hw 80 6 h sX_80 (x_lt hN rfl) rfl rfl rfl lk_RX7_116 dX7_number_3 (fun r3 h => ?_)
  refine lv_istore_n (lv' := [(2, .int _), (1, .int _), (0, .ref (q 80))]) hx hb dX7_number_6 rfl hl (by decide) rfl (fun ls hl => ?_)
  exact w7 _ _ _ _ _ _ _ hw (lv_sub hl [2, 1, 0] rfl) h
def f_X7_isNumberOrName_90 (M : x_M) : Option (Int32 × x_M) := x_gf M 80 5 (fun r92 => x_pf M 80 5 (r92 + (nI 1)) (fun M => x_bn (f_X7_next M) (fun _ M => some ((nI 1), M))))
def f_X7_isNumberOrName_88 (M : x_M) : Option (Int32 × x_M) := some ((nI 0), M)
def f_X7_isNumberOrName_41 (M : x_M) : Option (Int32 × x_M) := x_gf M 80 8 (fun r42 => if r42 = (nI 1) then x_gf M 80 7 (fun r50 => x_gf M 80 6 (fun r54 => if (r50 - r54) = (nI 1) then x_gf M 80 13 (fun r63 => x_bn (f_X7_letter M) (fun r67 M => x_cs r63 (x_bn (f_J0_indexOf_0f7a4 M r63 r67) (fun r70 M => if r70 < 0 then f_X7_isNumberOrName_88 M else x_bn (f_X7_letter M) (fun r78 M => x_bn (f_X7_emit M (-r78)) (fun _ M => f_X7_isNumberOrName_90 M)))))) else f_X7_isNumberOrName_88 M)) else f_X7_isNumberOrName_88 M)
def f_X7_isNumberOrName (M : x_M) : Option (Int32 × x_M) := x_gf M 80 9 (fun r1 => if r1 = 0 then x_gf M 80 8 (fun r10 => if r10 = (nI 2) then x_gf M 80 7 (fun r18 => x_gf M 80 6 (fun r22 => if (nI 5) < (r18 - r22) then f_X7_isNumberOrName_41 M else x_bn (f_X7_number M) (fun r32 M => x_bn (f_X7_emit M r32) (fun _ M => f_X7_isNumberOrName_90 M)))) else f_X7_isNumberOrName_41 M) else some ((nI 0), M))
abbrev rm_X7_isNumberOrName : Room := { frames := 4, cells := 0, slots := 0, locals := 96 }
set_option maxHeartbeats 4000000 in
set_option maxRecDepth 100000 in
theorem c_X7_isNumberOrName {l : Launch} {D : va_G} {cy : Nat → ClassId} {q ad : Nat → Nat} {NC : Nat} {s0 : State} {adV : Nat → Nat} (hq : x_Q q NC s0.heap.size) (hN : 88 ≤ NC) (hz : x_Z s0 ad adV) {M : x_M} {z : Int32 × x_M} (h : f_X7_isNumberOrName M = some z) : x_Ci l D cy q ad x_spX NC s0 yX7_isNumberOrName (x_uw yX7_isNumberOrName cX7_isNumberOrName 1 (some .boolean)) rm_X7_isNumberOrName [.ref (q 80)] M z.1 z.2 := by
  refine x_meti hq (by decide) (Nat.le_of_ble_eq_true rfl) ?_
  intro p e s m args below meth c ls Q C hret hl hw
  have hx := C.1.1
  have hb := C.1.2.1
  have ho := C.1.2.2.2.1
  have hL := C.1.2.2.2.2
  have hl : lv_has ls 1 [(0, .ref (q 80))] := hl
  have w90 : ∀ (M : x_M) (H : Heap) (locs : List Loc) (ls : Array Slot), x_B D cy q ad x_spX NC s H locs M → lv_has ls 1 [(0, .ref (q 80))] → f_X7_isNumberOrName_90 M = some z → W p l e rm_X7_isNumberOrName s m args below meth c H locs 0 0 Q (F0 m 90 ls []) := by
    intro M H locs ls hw hl h
    unfold f_X7_isNumberOrName_90 at h
    refine lv_aload_n hx hb dX7_isNumberOrName_90 rfl (lv_at hl 0 rfl) ?_
    refine lv_dup hx hb dX7_isNumberOrName_91 rfl ?_
    refine xh_geti C hw 80 5 h sX_80 (x_lt hN rfl) rfl rfl rfl lk_RX7_49 dX7_isNumberOrName_92 (fun r92 h => ?_)
    refine lv_iconst (v := (nI 1)) hx hb dX7_isNumberOrName_95 (by decide) ?_
    refine lv_iadd hx hb dX7_isNumberOrName_96 ?_
    refine xh_puti C hw 80 5 h sX_80 (x_lt hN rfl) rfl rfl rfl lk_RX7_49 rfl rfl dX7_isNumberOrName_97 (fun H locs M hw h => ?_)
    refine lv_aload_n hx hb dX7_isNumberOrName_100 rfl (lv_at hl 0 rfl) ?_
    refine xh_cVv C hw (rest := []) h (fun _ hy => c_X7_next hq hN hy) ml_RX7_64 mv_X7_next sX_80 (x_lt hN rfl) rfl ⟨rfl, rfl, by decide, by decide⟩ rfl hl.1 rfl (Nat.le_of_ble_eq_true rfl) dX7_isNumberOrName_101 (fun H locs _ M hw h => ?_)
    refine lv_iconst (v := (nI 1)) hx hb dX7_isNumberOrName_104 (by decide) ?_
    exact hret dX7_isNumberOrName_105 rfl hw h
  have w41 : ∀ (M : x_M) (H : Heap) (locs : List Loc) (ls : Array Slot), x_B D cy q ad x_spX NC s H locs M → lv_has ls 1 [(0, .ref (q 80))] → f_X7_isNumberOrName_41 M = some z → W p l e rm_X7_isNumberOrName s m args below meth c H locs 0 0 Q (F0 m 41 ls []) := by
    have w88 : ∀ (M : x_M) (H : Heap) (locs : List Loc) (ls : Array Slot), x_B D cy q ad x_spX NC s H locs M → lv_has ls 1 [] → f_X7_isNumberOrName_88 M = some z → W p l e rm_X7_isNumberOrName s m args below meth c H locs 0 0 Q (F0 m 88 ls []) := by
      intro M H locs ls hw hl h
      unfold f_X7_isNumberOrName_88 at h
      refine lv_iconst (v := (nI 0)) hx hb dX7_isNumberOrName_88 (by decide) ?_
      exact hret dX7_isNumberOrName_89 rfl hw h
    intro M H locs ls hw hl h
    unfold f_X7_isNumberOrName_41 at h
    refine lv_aload_n hx hb dX7_isNumberOrName_41 rfl (lv_at hl 0 rfl) ?_
    refine xh_geti C hw 80 8 h sX_80 (x_lt hN rfl) rfl rfl rfl lk_RX7_61 dX7_isNumberOrName_42 (fun r42 h => ?_)
    refine lv_iconst (v := (nI 1)) hx hb dX7_isNumberOrName_45 (by decide) ?_
    refine x_icmp_ne (tgt := 88) hx hb h dX7_isNumberOrName_46 (by decide) (fun h => ?_) (fun h => ?_)
    · refine lv_aload_n hx hb dX7_isNumberOrName_49 rfl (lv_at hl 0 rfl) ?_
      refine xh_geti C hw 80 7 h sX_80 (x_lt hN rfl) rfl rfl rfl lk_RX7_58 dX7_isNumberOrName_50 (fun r50 h => ?_)
      refine lv_aload_n hx hb dX7_isNumberOrName_53 rfl (lv_at hl 0 rfl) ?_
      refine xh_geti C hw 80 6 h sX_80 (x_lt hN rfl) rfl rfl rfl lk_RX7_116 dX7_isNumberOrName_54 (fun r54 h => ?_)
      refine lv_isub hx hb dX7_isNumberOrName_57 ?_
      refine lv_iconst (v := (nI 1)) hx hb dX7_isNumberOrName_58 (by decide) ?_
      refine x_icmp_ne (tgt := 88) hx hb h dX7_isNumberOrName_59 (by decide) (fun h => ?_) (fun h => ?_)
      · refine lv_aload_n hx hb dX7_isNumberOrName_62 rfl (lv_at hl 0 rfl) ?_
        refine xh_gets C hw 80 13 h sX_80 (x_lt hN rfl) rfl rfl rfl lk_RX7_24 dX7_isNumberOrName_63 (fun r63 h => ?_)
        refine lv_aload_n hx hb dX7_isNumberOrName_66 rfl (lv_at hl 0 rfl) ?_
        refine xh_cVi C hw (rest := [_]) h (fun _ hy => c_X7_letter hq hN hy) ml_RX7_144 mv_X7_letter sX_80 (x_lt hN rfl) rfl ⟨rfl, rfl, by decide, by decide⟩ rfl hl.1 rfl (Nat.le_of_ble_eq_true rfl) dX7_isNumberOrName_67 (fun H locs r67 M hw h => ?_)
        refine xh_cTi C hw (rest := []) hz h (fun _ hy => c_J0_indexOf_0f7a4 hq hN hz hy) ml_RX7_148 mv_J0_indexOf_0f7a4 rfl ⟨rfl, rfl, by decide, by decide⟩ rfl hl.1 rfl (Nat.le_of_ble_eq_true rfl) dX7_isNumberOrName_70 (fun H locs r70 M hw h => ?_)
        refine x_if_lt (tgt := 88) hx hb h dX7_isNumberOrName_73 (by decide) (fun h => ?_) (fun h => ?_)
        · exact w88 _ _ _ _ hw (lv_sub hl [] rfl) h
        · refine lv_aload_n hx hb dX7_isNumberOrName_76 rfl (lv_at hl 0 rfl) ?_
          refine lv_aload_n hx hb dX7_isNumberOrName_77 rfl (lv_at hl 0 rfl) ?_
          refine xh_cVi C hw (rest := [_]) h (fun _ hy => c_X7_letter hq hN hy) ml_RX7_144 mv_X7_letter sX_80 (x_lt hN rfl) rfl ⟨rfl, rfl, by decide, by decide⟩ rfl hl.1 rfl (Nat.le_of_ble_eq_true rfl) dX7_isNumberOrName_78 (fun H locs r78 M hw h => ?_)
          refine lv_ineg hx hb dX7_isNumberOrName_81 ?_
          refine xh_cVv C hw (rest := []) h (fun _ hy => c_X7_emit hq hN hy) ml_RX7_160 mv_X7_emit sX_80 (x_lt hN rfl) rfl ⟨rfl, rfl, by decide, by decide⟩ rfl hl.1 rfl (Nat.le_of_ble_eq_true rfl) dX7_isNumberOrName_82 (fun H locs _ M hw h => ?_)
          refine lv_goto (tgt := 90) hx hb dX7_isNumberOrName_85 (by decide) ?_
          exact w90 _ _ _ _ hw (lv_sub hl [0] rfl) h
      · exact w88 _ _ _ _ hw (lv_sub hl [] rfl) h
    · exact w88 _ _ _ _ hw (lv_sub hl [] rfl) h
  unfold f_X7_isNumberOrName at h
  refine lv_aload_n hx hb dX7_isNumberOrName_0 rfl (lv_at hl 0 rfl) ?_
  refine xh_geti C hw 80 9 h sX_80 (x_lt hN rfl) rfl rfl rfl lk_RX7_125 dX7_isNumberOrName_1 (fun r1 h => ?_)
  refine x_if_eq (tgt := 9) hx hb h dX7_isNumberOrName_4 (by decide) (fun h => ?_) (fun h => ?_)
  · refine lv_aload_n hx hb dX7_isNumberOrName_9 rfl (lv_at hl 0 rfl) ?_
    refine xh_geti C hw 80 8 h sX_80 (x_lt hN rfl) rfl rfl rfl lk_RX7_61 dX7_isNumberOrName_10 (fun r10 h => ?_)
    refine lv_iconst (v := (nI 2)) hx hb dX7_isNumberOrName_13 (by decide) ?_
    refine x_icmp_ne (tgt := 41) hx hb h dX7_isNumberOrName_14 (by decide) (fun h => ?_) (fun h => ?_)
    · refine lv_aload_n hx hb dX7_isNumberOrName_17 rfl (lv_at hl 0 rfl) ?_
      refine xh_geti C hw 80 7 h sX_80 (x_lt hN rfl) rfl rfl rfl lk_RX7_58 dX7_isNumberOrName_18 (fun r18 h => ?_)
      refine lv_aload_n hx hb dX7_isNumberOrName_21 rfl (lv_at hl 0 rfl) ?_
      refine xh_geti C hw 80 6 h sX_80 (x_lt hN rfl) rfl rfl rfl lk_RX7_116 dX7_isNumberOrName_22 (fun r22 h => ?_)
      refine lv_isub hx hb dX7_isNumberOrName_25 ?_
      refine lv_iconst (v := (nI 5)) hx hb dX7_isNumberOrName_26 (by decide) ?_
      refine x_icmp_gt (tgt := 41) hx hb h dX7_isNumberOrName_27 (by decide) (fun h => ?_) (fun h => ?_)
      · exact w41 _ _ _ _ hw (lv_sub hl [0] rfl) h
      · refine lv_aload_n hx hb dX7_isNumberOrName_30 rfl (lv_at hl 0 rfl) ?_
        refine lv_aload_n hx hb dX7_isNumberOrName_31 rfl (lv_at hl 0 rfl) ?_
        refine xh_cVi C hw (rest := [_]) h (fun _ hy => c_X7_number hq hN hy) ml_RX7_179 mv_X7_number sX_80 (x_lt hN rfl) rfl ⟨rfl, rfl, by decide, by decide⟩ rfl hl.1 rfl (Nat.le_of_ble_eq_true rfl) dX7_isNumberOrName_32 (fun H locs r32 M hw h => ?_)
        refine xh_cVv C hw (rest := []) h (fun _ hy => c_X7_emit hq hN hy) ml_RX7_160 mv_X7_emit sX_80 (x_lt hN rfl) rfl ⟨rfl, rfl, by decide, by decide⟩ rfl hl.1 rfl (Nat.le_of_ble_eq_true rfl) dX7_isNumberOrName_35 (fun H locs _ M hw h => ?_)
        refine lv_goto (tgt := 90) hx hb dX7_isNumberOrName_38 (by decide) ?_
        exact w90 _ _ _ _ hw (lv_sub hl [0] rfl) h
    · exact w41 _ _ _ _ hw (lv_sub hl [0] rfl) h
  · refine lv_iconst (v := (nI 0)) hx hb dX7_isNumberOrName_7 (by decide) ?_
    exact hret dX7_isNumberOrName_8 rfl hw h
def f_X7_isPart (kJ : x_M → Int32 → Option (Int32 × x_M)) (kP : x_M → Option (Int32 × x_M)) (M : x_M) : Option (Int32 × x_M) := x_bn (f_X7_isSignOf M (nI 14)) (fun r3 M => if r3 = 0 then x_bn (f_X7_isSignOf M (nI 15)) (fun r17 M => if r17 = 0 then x_bn (f_X7_isNumberOrName M) (fun r29 M => x_cz r29 (some (r29, M))) else x_bn (f_X7_isInParens kJ M) (fun r24 M => x_cz r24 (some (r24, M)))) else x_bn (f_X7_isNot kP M) (fun r10 M => x_cz r10 (some (r10, M))))
set_option maxHeartbeats 4000000 in
set_option maxRecDepth 100000 in
theorem c_X7_isPart {l : Launch} {D : va_G} {cy : Nat → ClassId} {q ad : Nat → Nat} {NC : Nat} {s0 : State} {adV : Nat → Nat} (hq : x_Q q NC s0.heap.size) (hN : 88 ≤ NC) (hz : x_Z s0 ad adV) (d : Nat) {kJ : x_M → Int32 → Option (Int32 × x_M)} (hJ : ∀ {M : x_M} {a1 : Int32} {z : Int32 × x_M}, kJ M a1 = some z → x_Ci l D cy q ad x_spX NC s0 yX7_isJoined (x_uw yX7_isJoined cX7_isJoined 5 (some .boolean)) (x_rmG d) [.ref (q 80), .int a1] M z.1 z.2) {kP : x_M → Option (Int32 × x_M)} (hP : ∀ {M : x_M} {z : Int32 × x_M}, kP M = some z → x_Ci l D cy q ad x_spX NC s0 yX7_isPart (x_uw yX7_isPart cX7_isPart 1 (some .boolean)) (x_rmG d) [.ref (q 80)] M z.1 z.2) {M : x_M} {z : Int32 × x_M} (h : f_X7_isPart kJ kP M = some z) : x_Ci l D cy q ad x_spX NC s0 yX7_isPart (x_uw yX7_isPart cX7_isPart 1 (some .boolean)) (x_rmG (d + 1)) [.ref (q 80)] M z.1 z.2 := by
  refine x_meti hq (by decide) (Nat.le_of_ble_eq_true rfl) ?_
  intro p e s m args below meth c ls Q C hret hl hw
  have hx := C.1.1
  have hb := C.1.2.1
  have ho := C.1.2.2.2.1
  have hL := C.1.2.2.2.2
  have hl : lv_has ls 1 [(0, .ref (q 80))] := hl
  unfold f_X7_isPart at h
  refine lv_aload_n hx hb dX7_isPart_0 rfl (lv_at hl 0 rfl) ?_
  refine xh_ldcS C hz 14 (v := (nI 14)) rfl (by decide) dX7_isPart_1 ?_
  refine xh_cVi C hw (rest := []) h (fun _ hy => c_X7_isSignOf hq hN hz hy) ml_RX7_157 mv_X7_isSignOf sX_80 (x_lt hN rfl) rfl ⟨rfl, rfl, by dsimp only [x_rmG, x_rmH, rm_X7_isSignOf]; omega, by dsimp only [x_rmG, x_rmH, rm_X7_isSignOf]; omega⟩ rfl hl.1 rfl (Nat.le_of_ble_eq_true rfl) dX7_isPart_3 (fun H locs r3 M hw h => ?_)
  refine x_if_eq (tgt := 14) hx hb h dX7_isPart_6 (by decide) (fun h => ?_) (fun h => ?_)
  · refine lv_aload_n hx hb dX7_isPart_14 rfl (lv_at hl 0 rfl) ?_
    refine xh_ldcS C hz 15 (v := (nI 15)) rfl (by decide) dX7_isPart_15 ?_
    refine xh_cVi C hw (rest := []) h (fun _ hy => c_X7_isSignOf hq hN hz hy) ml_RX7_157 mv_X7_isSignOf sX_80 (x_lt hN rfl) rfl ⟨rfl, rfl, by dsimp only [x_rmG, x_rmH, rm_X7_isSignOf]; omega, by dsimp only [x_rmG, x_rmH, rm_X7_isSignOf]; omega⟩ rfl hl.1 rfl (Nat.le_of_ble_eq_true rfl) dX7_isPart_17 (fun H locs r17 M hw h => ?_)
    refine x_if_eq (tgt := 28) hx hb h dX7_isPart_20 (by decide) (fun h => ?_) (fun h => ?_)
    · refine lv_aload_n hx hb dX7_isPart_28 rfl (lv_at hl 0 rfl) ?_
      refine xh_cVi C hw (rest := []) h (fun _ hy => c_X7_isNumberOrName hq hN hz hy) ml_RX7_174 mv_X7_isNumberOrName sX_80 (x_lt hN rfl) rfl ⟨rfl, rfl, by dsimp only [x_rmG, x_rmH, rm_X7_isNumberOrName]; omega, by dsimp only [x_rmG, x_rmH, rm_X7_isNumberOrName]; omega⟩ rfl hl.1 rfl (Nat.le_of_ble_eq_true rfl) dX7_isPart_29 (fun H locs r29 M hw h => ?_)
      exact hret dX7_isPart_32 (x_z_nar (x_cz_some h).1) hw (x_cz_some h).2
    · refine lv_aload_n hx hb dX7_isPart_23 rfl (lv_at hl 0 rfl) ?_
      refine xh_cVi C hw (rest := []) h (fun _ hy => c_X7_isInParens hq hN hz d (fun hy => hJ hy) hy) ml_RX7_171 mv_X7_isInParens sX_80 (x_lt hN rfl) rfl ⟨rfl, rfl, by dsimp only [x_rmG, x_rmH]; omega, by dsimp only [x_rmG, x_rmH]; omega⟩ rfl hl.1 rfl (Nat.le_of_ble_eq_true rfl) dX7_isPart_24 (fun H locs r24 M hw h => ?_)
      exact hret dX7_isPart_27 (x_z_nar (x_cz_some h).1) hw (x_cz_some h).2
  · refine lv_aload_n hx hb dX7_isPart_9 rfl (lv_at hl 0 rfl) ?_
    refine xh_cVi C hw (rest := []) h (fun _ hy => c_X7_isNot hq hN hz d (fun hy => hP hy) hy) ml_RX7_166 mv_X7_isNot sX_80 (x_lt hN rfl) rfl ⟨rfl, rfl, by dsimp only [x_rmG, x_rmH]; omega, by dsimp only [x_rmG, x_rmH]; omega⟩ rfl hl.1 rfl (Nat.le_of_ble_eq_true rfl) dX7_isPart_10 (fun H locs r10 M hw h => ?_)
    exact hret dX7_isPart_13 (x_z_nar (x_cz_some h).1) hw (x_cz_some h).2
def f_X7_signsOf (M : x_M) (a1 : Int32) : Option (Int32 × x_M) := if a1 = (nI 0) then some ((nI 9), M) else if a1 = (nI 1) then some ((nI 10), M) else if a1 = (nI 2) then some ((nI 11), M) else if a1 = (nI 3) then some ((nI 12), M) else some ((nI 13), M)
abbrev rm_X7_signsOf : Room := { frames := 0, cells := 0, slots := 0, locals := 0 }
set_option maxHeartbeats 4000000 in
set_option maxRecDepth 100000 in
theorem c_X7_signsOf {l : Launch} {D : va_G} {cy : Nat → ClassId} {q ad : Nat → Nat} {NC : Nat} {s0 : State} {adV : Nat → Nat} (hq : x_Q q NC s0.heap.size) (hN : 88 ≤ NC) (hz : x_Z s0 ad adV) {M : x_M} {a1 : Int32} {z : Int32 × x_M} (h : f_X7_signsOf M a1 = some z) : x_Cr l D cy q ad x_spX NC s0 (fun r => ad r.toNatClampNeg) yX7_signsOf (x_uw yX7_signsOf cX7_signsOf 1 (some (.object "java/lang/String"))) rm_X7_signsOf [.int a1] M z.1 z.2 := by
  refine x_metr hq (by decide) (Nat.le_of_ble_eq_true rfl) ?_
  intro p e s m args below meth c ls Q C hret hl hw
  have hx := C.1.1
  have hb := C.1.2.1
  have ho := C.1.2.2.2.1
  have hL := C.1.2.2.2.2
  have hl : lv_has ls 1 [(0, .int a1)] := hl
  unfold f_X7_signsOf at h
  refine lv_iload_n hx hb dX7_signsOf_0 rfl (lv_at hl 0 rfl) ?_
  refine (Decidable.em (a1 = (nI 0))).elim (fun c1_0 => ?_) (fun c1_0 => ?_)
  · rw [if_pos c1_0] at h
    rw [c1_0]
    refine lv_tableIn (off := 31) (tgt := 32) hx hb dX7_signsOf_1 (by decide) (by decide) (by decide) (by decide) ?_
    refine xh_ldcS C hz 9 (v := (nI 9)) rfl (by decide) dX7_signsOf_32 ?_
    exact hret dX7_signsOf_34 hw h
  rw [if_neg c1_0] at h
  refine (Decidable.em (a1 = (nI 1))).elim (fun c1_1 => ?_) (fun c1_1 => ?_)
  · rw [if_pos c1_1] at h
    rw [c1_1]
    refine lv_tableIn (off := 34) (tgt := 35) hx hb dX7_signsOf_1 (by decide) (by decide) (by decide) (by decide) ?_
    refine xh_ldcS C hz 10 (v := (nI 10)) rfl (by decide) dX7_signsOf_35 ?_
    exact hret dX7_signsOf_37 hw h
  rw [if_neg c1_1] at h
  refine (Decidable.em (a1 = (nI 2))).elim (fun c1_2 => ?_) (fun c1_2 => ?_)
  · rw [if_pos c1_2] at h
    rw [c1_2]
    refine lv_tableIn (off := 37) (tgt := 38) hx hb dX7_signsOf_1 (by decide) (by decide) (by decide) (by decide) ?_
    refine xh_ldcS C hz 11 (v := (nI 11)) rfl (by decide) dX7_signsOf_38 ?_
    exact hret dX7_signsOf_40 hw h
  rw [if_neg c1_2] at h
  refine (Decidable.em (a1 = (nI 3))).elim (fun c1_3 => ?_) (fun c1_3 => ?_)
  · rw [if_pos c1_3] at h
    rw [c1_3]
    refine lv_tableIn (off := 40) (tgt := 41) hx hb dX7_signsOf_1 (by decide) (by decide) (by decide) (by decide) ?_
    refine xh_ldcS C hz 12 (v := (nI 12)) rfl (by decide) dX7_signsOf_41 ?_
    exact hret dX7_signsOf_43 hw h
  rw [if_neg c1_3] at h
  refine lv_tableOut (tgt := 44) hx hb dX7_signsOf_1 (by have e0 := lv_neT c1_0 (show ((nI 0) : Int32).toInt = 0 by decide); have e1 := lv_neT c1_1 (show ((nI 1) : Int32).toInt = 1 by decide); have e2 := lv_neT c1_2 (show ((nI 2) : Int32).toInt = 2 by decide); have e3 := lv_neT c1_3 (show ((nI 3) : Int32).toInt = 3 by decide); omega) (by decide) ?_
  refine xh_ldcS C hz 13 (v := (nI 13)) rfl (by decide) dX7_signsOf_44 ?_
  exact hret dX7_signsOf_46 hw h
def f_X7_isJoined_88 (kJ : x_M → Int32 → Option (Int32 × x_M)) (kP : x_M → Option (Int32 × x_M)) (M : x_M) : Option (Int32 × x_M) := some ((nI 1), M)
def f_X7_isJoined_37 (kJ : x_M → Int32 → Option (Int32 × x_M)) (kP : x_M → Option (Int32 × x_M)) : Nat → x_M → Int32 → Int32 → Int32 → Option (Int32 × x_M)
  | 0, _, _, _, _ => none
  | n + 1, M, v1, v2, v3 => if v2 ≤ v3 then f_X7_isJoined_88 kJ kP M else x_bn (f_X7_signsOf M v1) (fun r44 M => x_bn (f_X7_isSignOf M r44) (fun r47 M => if r47 = 0 then f_X7_isJoined_88 kJ kP M else x_bn (f_X7_letter M) (fun r54 M => x_bn (f_X7_next M) (fun _ M => x_bn (kJ M (v1 + (nI 1))) (fun r67 M => if r67 = 0 then some ((nI 0), M) else x_bn (f_X7_emit M (-r54)) (fun _ M => (f_X7_isJoined_37 kJ kP n) M v1 v2 (v3 + (nI 1))))))))
theorem f_X7_isJoined_37_0 (kJ : x_M → Int32 → Option (Int32 × x_M)) (kP : x_M → Option (Int32 × x_M)) (M : x_M) (v1 : Int32) (v2 : Int32) (v3 : Int32) : f_X7_isJoined_37 kJ kP 0 M v1 v2 v3 = none := rfl
theorem f_X7_isJoined_37_s (kJ : x_M → Int32 → Option (Int32 × x_M)) (kP : x_M → Option (Int32 × x_M)) (n : Nat) (M : x_M) (v1 : Int32) (v2 : Int32) (v3 : Int32) : f_X7_isJoined_37 kJ kP (n + 1) M v1 v2 v3 = (if v2 ≤ v3 then f_X7_isJoined_88 kJ kP M else x_bn (f_X7_signsOf M v1) (fun r44 M => x_bn (f_X7_isSignOf M r44) (fun r47 M => if r47 = 0 then f_X7_isJoined_88 kJ kP M else x_bn (f_X7_letter M) (fun r54 M => x_bn (f_X7_next M) (fun _ M => x_bn (kJ M (v1 + (nI 1))) (fun r67 M => if r67 = 0 then some ((nI 0), M) else x_bn (f_X7_emit M (-r54)) (fun _ M => (f_X7_isJoined_37 kJ kP n) M v1 v2 (v3 + (nI 1))))))))) := rfl
def f_X7_isJoined_34 (kJ : x_M → Int32 → Option (Int32 × x_M)) (kP : x_M → Option (Int32 × x_M)) (M : x_M) (v1 : Int32) (t0 : Int32) : Option (Int32 × x_M) := f_X7_isJoined_37 kJ kP x_FU M v1 t0 (nI 0)
def f_X7_isJoined (kJ : x_M → Int32 → Option (Int32 × x_M)) (kP : x_M → Option (Int32 × x_M)) (M : x_M) (a1 : Int32) : Option (Int32 × x_M) := if a1 < (nI 5) then x_bn (kJ M (a1 + (nI 1))) (fun r14 M => if r14 = 0 then some ((nI 0), M) else if a1 = (nI 2) then f_X7_isJoined_34 kJ kP M a1 (nI 1) else f_X7_isJoined_34 kJ kP M a1 (nI 132)) else x_bn (kP M) (fun r6 M => x_cz r6 (some (r6, M)))
set_option maxHeartbeats 4000000 in
set_option maxRecDepth 100000 in
theorem c_X7_isJoined {l : Launch} {D : va_G} {cy : Nat → ClassId} {q ad : Nat → Nat} {NC : Nat} {s0 : State} {adV : Nat → Nat} (hq : x_Q q NC s0.heap.size) (hN : 88 ≤ NC) (hz : x_Z s0 ad adV) (d : Nat) {kJ : x_M → Int32 → Option (Int32 × x_M)} (hJ : ∀ {M : x_M} {a1 : Int32} {z : Int32 × x_M}, kJ M a1 = some z → x_Ci l D cy q ad x_spX NC s0 yX7_isJoined (x_uw yX7_isJoined cX7_isJoined 5 (some .boolean)) (x_rmG d) [.ref (q 80), .int a1] M z.1 z.2) {kP : x_M → Option (Int32 × x_M)} (hP : ∀ {M : x_M} {z : Int32 × x_M}, kP M = some z → x_Ci l D cy q ad x_spX NC s0 yX7_isPart (x_uw yX7_isPart cX7_isPart 1 (some .boolean)) (x_rmG d) [.ref (q 80)] M z.1 z.2) {M : x_M} {a1 : Int32} {z : Int32 × x_M} (h : f_X7_isJoined kJ kP M a1 = some z) : x_Ci l D cy q ad x_spX NC s0 yX7_isJoined (x_uw yX7_isJoined cX7_isJoined 5 (some .boolean)) (x_rmG (d + 1)) [.ref (q 80), .int a1] M z.1 z.2 := by
  refine x_meti hq (by decide) (Nat.le_of_ble_eq_true rfl) ?_
  intro p e s m args below meth c ls Q C hret hl hw
  have hx := C.1.1
  have hb := C.1.2.1
  have ho := C.1.2.2.2.1
  have hL := C.1.2.2.2.2
  have hl : lv_has ls 5 [(0, .ref (q 80)), (1, .int a1)] := hl
  have w34 : ∀ (M : x_M) (v1 : Int32) (t0 : Int32) (H : Heap) (locs : List Loc) (ls : Array Slot), x_B D cy q ad x_spX NC s H locs M → lv_has ls 5 [(0, .ref (q 80)), (1, .int v1)] → f_X7_isJoined_34 kJ kP M v1 t0 = some z → W p l e (x_rmG (d + 1)) s m args below meth c H locs 0 0 Q (F0 m 34 ls [.int t0]) := by
    have w37 : ∀ (n : Nat) (M : x_M) (v1 : Int32) (v2 : Int32) (v3 : Int32) (H : Heap) (locs : List Loc) (ls : Array Slot), x_B D cy q ad x_spX NC s H locs M → lv_has ls 5 [(0, .ref (q 80)), (1, .int v1), (2, .int v2), (3, .int v3)] → f_X7_isJoined_37 kJ kP n M v1 v2 v3 = some z → W p l e (x_rmG (d + 1)) s m args below meth c H locs 0 0 Q (F0 m 37 ls []) := by
      intro n
      induction n with
      | zero =>
        intro M v1 v2 v3 H locs ls hw hl h
        rw [f_X7_isJoined_37_0] at h
        cases h
      | succ n37 ih37 =>
        have w88 : ∀ (M : x_M) (H : Heap) (locs : List Loc) (ls : Array Slot), x_B D cy q ad x_spX NC s H locs M → lv_has ls 5 [] → f_X7_isJoined_88 kJ kP M = some z → W p l e (x_rmG (d + 1)) s m args below meth c H locs 0 0 Q (F0 m 88 ls []) := by
          intro M H locs ls hw hl h
          unfold f_X7_isJoined_88 at h
          refine lv_iconst (v := (nI 1)) hx hb dX7_isJoined_88 (by decide) ?_
          exact hret dX7_isJoined_89 rfl hw h
        intro M v1 v2 v3 H locs ls hw hl h
        rw [f_X7_isJoined_37_s] at h
        refine lv_iload_n hx hb dX7_isJoined_37 rfl (lv_at hl 3 rfl) ?_
        refine lv_iload_n hx hb dX7_isJoined_38 rfl (lv_at hl 2 rfl) ?_
        refine x_icmp_ge (tgt := 88) hx hb h dX7_isJoined_39 (by decide) (fun h => ?_) (fun h => ?_)
        · exact w88 _ _ _ _ hw (lv_sub hl [] rfl) h
        · refine lv_aload_n hx hb dX7_isJoined_42 rfl (lv_at hl 0 rfl) ?_
          refine lv_iload_n hx hb dX7_isJoined_43 rfl (lv_at hl 1 rfl) ?_
          refine xh_cSr C hw (rest := [_]) h (fun _ hy => c_X7_signsOf hq hN hz hy) ml_RX7_154 st_X7_signsOf ⟨rfl, rfl, by dsimp only [x_rmG, x_rmH, rm_X7_signsOf]; omega, by dsimp only [x_rmG, x_rmH, rm_X7_signsOf]; omega⟩ rfl hl.1 rfl (Nat.le_of_ble_eq_true rfl) dX7_isJoined_44 (fun H locs r44 M hw h => ?_)
          refine xh_cVi C hw (rest := []) h (fun _ hy => c_X7_isSignOf hq hN hz hy) ml_RX7_157 mv_X7_isSignOf sX_80 (x_lt hN rfl) rfl ⟨rfl, rfl, by dsimp only [x_rmG, x_rmH, rm_X7_isSignOf]; omega, by dsimp only [x_rmG, x_rmH, rm_X7_isSignOf]; omega⟩ rfl hl.1 rfl (Nat.le_of_ble_eq_true rfl) dX7_isJoined_47 (fun H locs r47 M hw h => ?_)
          refine x_if_eq (tgt := 88) hx hb h dX7_isJoined_50 (by decide) (fun h => ?_) (fun h => ?_)
          · exact w88 _ _ _ _ hw (lv_sub hl [] rfl) h
          · refine lv_aload_n hx hb dX7_isJoined_53 rfl (lv_at hl 0 rfl) ?_
            refine xh_cVi C hw (rest := []) h (fun _ hy => c_X7_letter hq hN hy) ml_RX7_144 mv_X7_letter sX_80 (x_lt hN rfl) rfl ⟨rfl, rfl, by dsimp only [x_rmG, x_rmH, rm_X7_letter]; omega, by dsimp only [x_rmG, x_rmH, rm_X7_letter]; omega⟩ rfl hl.1 rfl (Nat.le_of_ble_eq_true rfl) dX7_isJoined_54 (fun H locs r54 M hw h => ?_)
            refine lv_istore (lv' := [(4, .int _), (0, .ref (q 80)), (1, .int _), (2, .int _), (3, .int _)]) hx hb dX7_isJoined_57 hl (by decide) rfl (fun ls hl => ?_)
            refine lv_aload_n hx hb dX7_isJoined_59 rfl (lv_at hl 1 rfl) ?_
            refine xh_cVv C hw (rest := []) h (fun _ hy => c_X7_next hq hN hy) ml_RX7_64 mv_X7_next sX_80 (x_lt hN rfl) rfl ⟨rfl, rfl, by dsimp only [x_rmG, x_rmH, rm_X7_next]; omega, by dsimp only [x_rmG, x_rmH, rm_X7_next]; omega⟩ rfl hl.1 rfl (Nat.le_of_ble_eq_true rfl) dX7_isJoined_60 (fun H locs _ M hw h => ?_)
            refine lv_aload_n hx hb dX7_isJoined_63 rfl (lv_at hl 1 rfl) ?_
            refine lv_iload_n hx hb dX7_isJoined_64 rfl (lv_at hl 2 rfl) ?_
            refine lv_iconst (v := (nI 1)) hx hb dX7_isJoined_65 (by decide) ?_
            refine lv_iadd hx hb dX7_isJoined_66 ?_
            refine xh_cVi C hw (rest := []) h (fun _ hy => hJ hy) ml_RX7_78 mv_X7_isJoined sX_80 (x_lt hN rfl) rfl ⟨rfl, rfl, by dsimp only [x_rmG, x_rmH]; omega, by dsimp only [x_rmG, x_rmH]; omega⟩ rfl hl.1 rfl (Nat.le_of_ble_eq_true rfl) dX7_isJoined_67 (fun H locs r67 M hw h => ?_)
            refine x_if_ne (tgt := 75) hx hb h dX7_isJoined_70 (by decide) (fun h => ?_) (fun h => ?_)
            · refine lv_iconst (v := (nI 0)) hx hb dX7_isJoined_73 (by decide) ?_
              exact hret dX7_isJoined_74 rfl hw h
            · refine lv_aload_n hx hb dX7_isJoined_75 rfl (lv_at hl 1 rfl) ?_
              refine lv_iload hx hb dX7_isJoined_76 (lv_at hl 0 rfl) ?_
              refine lv_ineg hx hb dX7_isJoined_78 ?_
              refine xh_cVv C hw (rest := []) h (fun _ hy => c_X7_emit hq hN hy) ml_RX7_160 mv_X7_emit sX_80 (x_lt hN rfl) rfl ⟨rfl, rfl, by dsimp only [x_rmG, x_rmH, rm_X7_emit]; omega, by dsimp only [x_rmG, x_rmH, rm_X7_emit]; omega⟩ rfl hl.1 rfl (Nat.le_of_ble_eq_true rfl) dX7_isJoined_79 (fun H locs _ M hw h => ?_)
              refine lv_iinc (lv' := [(3, .int _), (4, .int _), (0, .ref (q 80)), (1, .int _), (2, .int _)]) hx hb dX7_isJoined_82 hl (k := 4) rfl (x_inc (show Int32.ofInt 1 = (nI 1) by decide) _) (by decide) rfl (fun ls hl => ?_)
              refine lv_goto (tgt := 37) hx hb dX7_isJoined_85 (by decide) ?_
              exact ih37 _ _ _ _ _ _ _ hw (lv_sub hl [2, 3, 4, 0] rfl) h
    intro M v1 t0 H locs ls hw hl h
    unfold f_X7_isJoined_34 at h
    refine lv_istore_n (lv' := [(2, .int _), (0, .ref (q 80)), (1, .int _)]) hx hb dX7_isJoined_34 rfl hl (by decide) rfl (fun ls hl => ?_)
    refine lv_iconst (v := (nI 0)) hx hb dX7_isJoined_35 (by decide) ?_
    refine lv_istore_n (lv' := [(3, .int _), (2, .int _), (0, .ref (q 80)), (1, .int _)]) hx hb dX7_isJoined_36 rfl hl (by decide) rfl (fun ls hl => ?_)
    exact w37 _ _ _ _ _ _ _ _ hw (lv_sub hl [2, 3, 1, 0] rfl) h
  unfold f_X7_isJoined at h
  refine lv_iload_n hx hb dX7_isJoined_0 rfl (lv_at hl 1 rfl) ?_
  refine lv_iconst (v := (nI 5)) hx hb dX7_isJoined_1 (by decide) ?_
  refine x_icmp_lt (tgt := 10) hx hb h dX7_isJoined_2 (by decide) (fun h => ?_) (fun h => ?_)
  · refine lv_aload_n hx hb dX7_isJoined_10 rfl (lv_at hl 0 rfl) ?_
    refine lv_iload_n hx hb dX7_isJoined_11 rfl (lv_at hl 1 rfl) ?_
    refine lv_iconst (v := (nI 1)) hx hb dX7_isJoined_12 (by decide) ?_
    refine lv_iadd hx hb dX7_isJoined_13 ?_
    refine xh_cVi C hw (rest := []) h (fun _ hy => hJ hy) ml_RX7_78 mv_X7_isJoined sX_80 (x_lt hN rfl) rfl ⟨rfl, rfl, by dsimp only [x_rmG, x_rmH]; omega, by dsimp only [x_rmG, x_rmH]; omega⟩ rfl hl.1 rfl (Nat.le_of_ble_eq_true rfl) dX7_isJoined_14 (fun H locs r14 M hw h => ?_)
    refine x_if_ne (tgt := 22) hx hb h dX7_isJoined_17 (by decide) (fun h => ?_) (fun h => ?_)
    · refine lv_iconst (v := (nI 0)) hx hb dX7_isJoined_20 (by decide) ?_
      exact hret dX7_isJoined_21 rfl hw h
    · refine lv_iload_n hx hb dX7_isJoined_22 rfl (lv_at hl 1 rfl) ?_
      refine lv_iconst (v := (nI 2)) hx hb dX7_isJoined_23 (by decide) ?_
      refine x_icmp_ne (tgt := 31) hx hb h dX7_isJoined_24 (by decide) (fun h => ?_) (fun h => ?_)
      · refine lv_iconst (v := (nI 1)) hx hb dX7_isJoined_27 (by decide) ?_
        refine lv_goto (tgt := 34) hx hb dX7_isJoined_28 (by decide) ?_
        exact w34 _ _ _ _ _ _ hw (lv_sub hl [0, 1] rfl) h
      · refine lv_sipush (v := (nI 132)) hx hb dX7_isJoined_31 (by decide) ?_
        exact w34 _ _ _ _ _ _ hw (lv_sub hl [0, 1] rfl) h
  · refine lv_aload_n hx hb dX7_isJoined_5 rfl (lv_at hl 0 rfl) ?_
    refine xh_cVi C hw (rest := []) h (fun _ hy => hP hy) ml_RX7_151 mv_X7_isPart sX_80 (x_lt hN rfl) rfl ⟨rfl, rfl, by dsimp only [x_rmG, x_rmH]; omega, by dsimp only [x_rmG, x_rmH]; omega⟩ rfl hl.1 rfl (Nat.le_of_ble_eq_true rfl) dX7_isJoined_6 (fun H locs r6 M hw h => ?_)
    exact hret dX7_isJoined_9 (x_z_nar (x_cz_some h).1) hw (x_cz_some h).2
/-- isJoined and isPart, d deep -/
def x_rec : Nat → (x_M → Int32 → Option (Int32 × x_M)) × (x_M → Option (Int32 × x_M))
  | 0 => (fun _ _ => none, fun _ => none)
  | d + 1 => (fun M a => f_X7_isJoined (x_rec d).1 (x_rec d).2 M a, fun M => f_X7_isPart (x_rec d).1 (x_rec d).2 M)
theorem x_rec_ok {l : Launch} {D : va_G} {cy : Nat → ClassId} {q ad : Nat → Nat} {NC : Nat} {s0 : State} {adV : Nat → Nat} (hq : x_Q q NC s0.heap.size) (hN : 88 ≤ NC) (hz : x_Z s0 ad adV) : ∀ d : Nat, (∀ {M : x_M} {a1 : Int32} {z : Int32 × x_M}, (x_rec d).1 M a1 = some z → x_Ci l D cy q ad x_spX NC s0 yX7_isJoined (x_uw yX7_isJoined cX7_isJoined 5 (some .boolean)) (x_rmG d) [.ref (q 80), .int a1] M z.1 z.2) ∧ ∀ {M : x_M} {z : Int32 × x_M}, (x_rec d).2 M = some z → x_Ci l D cy q ad x_spX NC s0 yX7_isPart (x_uw yX7_isPart cX7_isPart 1 (some .boolean)) (x_rmG d) [.ref (q 80)] M z.1 z.2
  | 0 => ⟨fun h => (by cases h), fun h => (by cases h)⟩
  | d + 1 => ⟨fun h => c_X7_isJoined hq hN hz d (fun hy => (x_rec_ok hq hN hz d).1 hy) (fun hy => (x_rec_ok hq hN hz d).2 hy) h, fun h => c_X7_isPart hq hN hz d (fun hy => (x_rec_ok hq hN hz d).1 hy) (fun hy => (x_rec_ok hq hN hz d).2 hy) h⟩
def f_X11_within_14 (M : x_M) : Option (Int32 × x_M) := some ((nI 0), M)
def f_X11_within (M : x_M) (a1 : Int32) (a2 : Int32) (a3 : Int32) : Option (Int32 × x_M) := if a1 < a2 then f_X11_within_14 M else if a3 < a1 then f_X11_within_14 M else some ((nI 1), M)
abbrev rm_X11_within : Room := { frames := 0, cells := 0, slots := 0, locals := 0 }
set_option maxHeartbeats 4000000 in
set_option maxRecDepth 100000 in
theorem c_X11_within {l : Launch} {D : va_G} {cy : Nat → ClassId} {q ad : Nat → Nat} {NC : Nat} {s0 : State} (hq : x_Q q NC s0.heap.size) (hN : 88 ≤ NC) {M : x_M} {a1 : Int32} {a2 : Int32} {a3 : Int32} {z : Int32 × x_M} (h : f_X11_within M a1 a2 a3 = some z) : x_Ci l D cy q ad x_spX NC s0 yX11_within (x_uw yX11_within cX11_within 3 (some .boolean)) rm_X11_within [.int a1, .int a2, .int a3] M z.1 z.2 := by
  refine x_meti hq (by decide) (Nat.le_of_ble_eq_true rfl) ?_
  intro p e s m args below meth c ls Q C hret hl hw
  have hx := C.1.1
  have hb := C.1.2.1
  have ho := C.1.2.2.2.1
  have hL := C.1.2.2.2.2
  have hl : lv_has ls 3 [(0, .int a1), (1, .int a2), (2, .int a3)] := hl
  have w14 : ∀ (M : x_M) (H : Heap) (locs : List Loc) (ls : Array Slot), x_B D cy q ad x_spX NC s H locs M → lv_has ls 3 [] → f_X11_within_14 M = some z → W p l e rm_X11_within s m args below meth c H locs 0 0 Q (F0 m 14 ls []) := by
    intro M H locs ls hw hl h
    unfold f_X11_within_14 at h
    refine lv_iconst (v := (nI 0)) hx hb dX11_within_14 (by decide) ?_
    exact hret dX11_within_15 rfl hw h
  unfold f_X11_within at h
  refine lv_iload_n hx hb dX11_within_0 rfl (lv_at hl 0 rfl) ?_
  refine lv_iload_n hx hb dX11_within_1 rfl (lv_at hl 1 rfl) ?_
  refine x_icmp_lt (tgt := 14) hx hb h dX11_within_2 (by decide) (fun h => ?_) (fun h => ?_)
  · exact w14 _ _ _ _ hw (lv_sub hl [] rfl) h
  · refine lv_iload_n hx hb dX11_within_5 rfl (lv_at hl 0 rfl) ?_
    refine lv_iload_n hx hb dX11_within_6 rfl (lv_at hl 2 rfl) ?_
    refine x_icmp_gt (tgt := 14) hx hb h dX11_within_7 (by decide) (fun h => ?_) (fun h => ?_)
    · exact w14 _ _ _ _ hw (lv_sub hl [] rfl) h
    · refine lv_iconst (v := (nI 1)) hx hb dX11_within_10 (by decide) ?_
      refine lv_goto (tgt := 15) hx hb dX11_within_11 (by decide) ?_
      exact hret dX11_within_15 rfl hw h
def f_X4_enrol (M : x_M) (a1 : Int32) (a2 : Int32) : Option (Int32 × x_M) := x_gf M 2 3 (fun r1 => if r1 < (nI 10) then x_gf M 2 3 (fun r17 => x_wr 10 M 3 r17 a1 (fun M => x_gf M 2 3 (fun r27 => x_wr 10 M 4 r27 a2 (fun M => x_gf M 2 3 (fun r37 => x_wr 10 M 5 r37 (-1000000005) (fun M => x_gf M 2 3 (fun r45 => x_pf M 2 3 (r45 + (nI 1)) (fun M => x_gf M 2 3 (fun r54 => some ((r54 - (nI 1)), M)))))))))) else some ((-1000000003), M))
abbrev rm_X4_enrol : Room := { frames := 0, cells := 0, slots := 0, locals := 0 }
set_option maxHeartbeats 4000000 in
set_option maxRecDepth 100000 in
theorem c_X4_enrol {l : Launch} {D : va_G} {cy : Nat → ClassId} {q ad : Nat → Nat} {NC : Nat} {s0 : State} (hq : x_Q q NC s0.heap.size) (hN : 88 ≤ NC) {M : x_M} {a1 : Int32} {a2 : Int32} {z : Int32 × x_M} (h : f_X4_enrol M a1 a2 = some z) : x_Ci l D cy q ad x_spX NC s0 yX4_enrol (x_uw yX4_enrol cX4_enrol 3 (some .int)) rm_X4_enrol [.ref (q 2), .int a1, .int a2] M z.1 z.2 := by
  refine x_meti hq (by decide) (Nat.le_of_ble_eq_true rfl) ?_
  intro p e s m args below meth c ls Q C hret hl hw
  have hx := C.1.1
  have hb := C.1.2.1
  have ho := C.1.2.2.2.1
  have hL := C.1.2.2.2.2
  have hl : lv_has ls 3 [(0, .ref (q 2)), (1, .int a1), (2, .int a2)] := hl
  unfold f_X4_enrol at h
  refine lv_aload_n hx hb dX4_enrol_0 rfl (lv_at hl 0 rfl) ?_
  refine xh_geti C hw 2 3 h sX_2 (x_lt hN rfl) rfl rfl rfl lk_RX4_21 dX4_enrol_1 (fun r1 h => ?_)
  refine lv_bipush (v := (nI 10)) hx hb dX4_enrol_4 (by decide) ?_
  refine x_icmp_lt (tgt := 12) hx hb h dX4_enrol_6 (by decide) (fun h => ?_) (fun h => ?_)
  · refine lv_aload_n hx hb dX4_enrol_12 rfl (lv_at hl 0 rfl) ?_
    refine xh_getr C hw 2 0 sX_2 (x_lt hN rfl) rfl rfl rfl lk_RX4_9 dX4_enrol_13 ?_
    refine lv_aload_n hx hb dX4_enrol_16 rfl (lv_at hl 0 rfl) ?_
    refine xh_geti C hw 2 3 h sX_2 (x_lt hN rfl) rfl rfl rfl lk_RX4_21 dX4_enrol_17 (fun r17 h => ?_)
    refine lv_iload_n hx hb dX4_enrol_20 rfl (lv_at hl 1 rfl) ?_
    refine xh_iast C hw 3 10 h sX_3 (x_lt hN rfl) dX4_enrol_21 (fun H locs M hw h => ?_)
    refine lv_aload_n hx hb dX4_enrol_22 rfl (lv_at hl 0 rfl) ?_
    refine xh_getr C hw 2 1 sX_2 (x_lt hN rfl) rfl rfl rfl lk_RX4_15 dX4_enrol_23 ?_
    refine lv_aload_n hx hb dX4_enrol_26 rfl (lv_at hl 0 rfl) ?_
    refine xh_geti C hw 2 3 h sX_2 (x_lt hN rfl) rfl rfl rfl lk_RX4_21 dX4_enrol_27 (fun r27 h => ?_)
    refine lv_iload_n hx hb dX4_enrol_30 rfl (lv_at hl 2 rfl) ?_
    refine xh_iast C hw 4 10 h sX_4 (x_lt hN rfl) dX4_enrol_31 (fun H locs M hw h => ?_)
    refine lv_aload_n hx hb dX4_enrol_32 rfl (lv_at hl 0 rfl) ?_
    refine xh_getr C hw 2 2 sX_2 (x_lt hN rfl) rfl rfl rfl lk_RX4_18 dX4_enrol_33 ?_
    refine lv_aload_n hx hb dX4_enrol_36 rfl (lv_at hl 0 rfl) ?_
    refine xh_geti C hw 2 3 h sX_2 (x_lt hN rfl) rfl rfl rfl lk_RX4_21 dX4_enrol_37 (fun r37 h => ?_)
    refine lv_ldc hx hb ho (hL _ kc_RX4_26) dX4_enrol_40 ?_
    refine xh_iast C hw 5 10 h sX_5 (x_lt hN rfl) dX4_enrol_42 (fun H locs M hw h => ?_)
    refine lv_aload_n hx hb dX4_enrol_43 rfl (lv_at hl 0 rfl) ?_
    refine lv_dup hx hb dX4_enrol_44 rfl ?_
    refine xh_geti C hw 2 3 h sX_2 (x_lt hN rfl) rfl rfl rfl lk_RX4_21 dX4_enrol_45 (fun r45 h => ?_)
    refine lv_iconst (v := (nI 1)) hx hb dX4_enrol_48 (by decide) ?_
    refine lv_iadd hx hb dX4_enrol_49 ?_
    refine xh_puti C hw 2 3 h sX_2 (x_lt hN rfl) rfl rfl rfl lk_RX4_21 rfl rfl dX4_enrol_50 (fun H locs M hw h => ?_)
    refine lv_aload_n hx hb dX4_enrol_53 rfl (lv_at hl 0 rfl) ?_
    refine xh_geti C hw 2 3 h sX_2 (x_lt hN rfl) rfl rfl rfl lk_RX4_21 dX4_enrol_54 (fun r54 h => ?_)
    refine lv_iconst (v := (nI 1)) hx hb dX4_enrol_57 (by decide) ?_
    refine lv_isub hx hb dX4_enrol_58 ?_
    exact hret dX4_enrol_59 rfl hw h
  · refine lv_ldc hx hb ho (hL _ kc_RX4_25) dX4_enrol_9 ?_
    exact hret dX4_enrol_11 rfl hw h
def f_X11_member_20 (M : x_M) : Option (Int32 × x_M) := some ((-1000000001), M)
def f_X11_member (M : x_M) (a1 : Int32) (a2 : Int32) : Option (Int32 × x_M) := x_bn (f_X11_within M a1 (nI 0) (nI 3)) (fun r3 M => if r3 = 0 then f_X11_member_20 M else x_bn (f_X11_within M a2 (nI 0) (nI 4095)) (fun r14 M => if r14 = 0 then f_X11_member_20 M else x_bn (f_X4_enrol M a1 a2) (fun r32 M => some (r32, M))))
abbrev rm_X11_member : Room := { frames := 1, cells := 0, slots := 0, locals := 22 }
set_option maxHeartbeats 4000000 in
set_option maxRecDepth 100000 in
theorem c_X11_member {l : Launch} {D : va_G} {cy : Nat → ClassId} {q ad : Nat → Nat} {NC : Nat} {s0 : State} (hq : x_Q q NC s0.heap.size) (hN : 88 ≤ NC) {M : x_M} {a1 : Int32} {a2 : Int32} {z : Int32 × x_M} (h : f_X11_member M a1 a2 = some z) : x_Ci l D cy q ad x_spX NC s0 yX11_member (x_uw yX11_member cX11_member 3 (some .int)) rm_X11_member [.ref (q 0), .int a1, .int a2] M z.1 z.2 := by
  refine x_meti hq (by decide) (Nat.le_of_ble_eq_true rfl) ?_
  intro p e s m args below meth c ls Q C hret hl hw
  have hx := C.1.1
  have hb := C.1.2.1
  have ho := C.1.2.2.2.1
  have hL := C.1.2.2.2.2
  have hl : lv_has ls 3 [(0, .ref (q 0)), (1, .int a1), (2, .int a2)] := hl
  have w20 : ∀ (M : x_M) (H : Heap) (locs : List Loc) (ls : Array Slot), x_B D cy q ad x_spX NC s H locs M → lv_has ls 3 [] → f_X11_member_20 M = some z → W p l e rm_X11_member s m args below meth c H locs 0 0 Q (F0 m 20 ls []) := by
    intro M H locs ls hw hl h
    unfold f_X11_member_20 at h
    refine lv_ldc hx hb ho (hL _ kc_RX11_58) dX11_member_20 ?_
    exact hret dX11_member_22 rfl hw h
  unfold f_X11_member at h
  refine lv_iload_n hx hb dX11_member_0 rfl (lv_at hl 1 rfl) ?_
  refine lv_iconst (v := (nI 0)) hx hb dX11_member_1 (by decide) ?_
  refine lv_iconst (v := (nI 3)) hx hb dX11_member_2 (by decide) ?_
  refine xh_cSi C hw (rest := []) h (fun _ hy => c_X11_within hq hN hy) ml_RX11_54 st_X11_within ⟨rfl, rfl, by decide, by decide⟩ rfl hl.1 rfl (Nat.le_of_ble_eq_true rfl) dX11_member_3 (fun H locs r3 M hw h => ?_)
  refine x_if_eq (tgt := 20) hx hb h dX11_member_6 (by decide) (fun h => ?_) (fun h => ?_)
  · exact w20 _ _ _ _ hw (lv_sub hl [] rfl) h
  · refine lv_iload_n hx hb dX11_member_9 rfl (lv_at hl 2 rfl) ?_
    refine lv_iconst (v := (nI 0)) hx hb dX11_member_10 (by decide) ?_
    refine lv_sipush (v := (nI 4095)) hx hb dX11_member_11 (by decide) ?_
    refine xh_cSi C hw (rest := []) h (fun _ hy => c_X11_within hq hN hy) ml_RX11_54 st_X11_within ⟨rfl, rfl, by decide, by decide⟩ rfl hl.1 rfl (Nat.le_of_ble_eq_true rfl) dX11_member_14 (fun H locs r14 M hw h => ?_)
    refine x_if_ne (tgt := 23) hx hb h dX11_member_17 (by decide) (fun h => ?_) (fun h => ?_)
    · exact w20 _ _ _ _ hw (lv_sub hl [] rfl) h
    · refine lv_aload_n hx hb dX11_member_23 rfl (lv_at hl 0 rfl) ?_
      refine xh_getr C hw 0 0 sX_0 (x_lt hN rfl) rfl rfl rfl lk_RX11_12 dX11_member_24 ?_
      refine xh_getr C hw 1 0 sX_1 (x_lt hN rfl) rfl rfl rfl lk_RX11_59 dX11_member_27 ?_
      refine lv_iload_n hx hb dX11_member_30 rfl (lv_at hl 1 rfl) ?_
      refine lv_iload_n hx hb dX11_member_31 rfl (lv_at hl 2 rfl) ?_
      refine xh_cVi C hw (rest := []) h (fun _ hy => c_X4_enrol hq hN hy) ml_RX11_63 mv_X4_enrol sX_2 (x_lt hN rfl) rfl ⟨rfl, rfl, by decide, by decide⟩ rfl hl.1 rfl (Nat.le_of_ble_eq_true rfl) dX11_member_32 (fun H locs r32 M hw h => ?_)
      exact hret dX11_member_35 rfl hw h
def f_X11_isMember (M : x_M) (a1 : Int32) : Option (Int32 × x_M) := x_gf M 2 3 (fun r9 => x_bn (f_X11_within M a1 (nI 0) (r9 - (nI 1))) (fun r14 M => x_cz r14 (some (r14, M))))
abbrev rm_X11_isMember : Room := { frames := 1, cells := 0, slots := 0, locals := 22 }
set_option maxHeartbeats 4000000 in
set_option maxRecDepth 100000 in
theorem c_X11_isMember {l : Launch} {D : va_G} {cy : Nat → ClassId} {q ad : Nat → Nat} {NC : Nat} {s0 : State} (hq : x_Q q NC s0.heap.size) (hN : 88 ≤ NC) {M : x_M} {a1 : Int32} {z : Int32 × x_M} (h : f_X11_isMember M a1 = some z) : x_Ci l D cy q ad x_spX NC s0 yX11_isMember (x_uw yX11_isMember cX11_isMember 2 (some .boolean)) rm_X11_isMember [.ref (q 0), .int a1] M z.1 z.2 := by
  refine x_meti hq (by decide) (Nat.le_of_ble_eq_true rfl) ?_
  intro p e s m args below meth c ls Q C hret hl hw
  have hx := C.1.1
  have hb := C.1.2.1
  have ho := C.1.2.2.2.1
  have hL := C.1.2.2.2.2
  have hl : lv_has ls 2 [(0, .ref (q 0)), (1, .int a1)] := hl
  unfold f_X11_isMember at h
  refine lv_iload_n hx hb dX11_isMember_0 rfl (lv_at hl 1 rfl) ?_
  refine lv_iconst (v := (nI 0)) hx hb dX11_isMember_1 (by decide) ?_
  refine lv_aload_n hx hb dX11_isMember_2 rfl (lv_at hl 0 rfl) ?_
  refine xh_getr C hw 0 0 sX_0 (x_lt hN rfl) rfl rfl rfl lk_RX11_12 dX11_isMember_3 ?_
  refine xh_getr C hw 1 0 sX_1 (x_lt hN rfl) rfl rfl rfl lk_RX11_59 dX11_isMember_6 ?_
  refine xh_geti C hw 2 3 h sX_2 (x_lt hN rfl) rfl rfl rfl lk_RX11_88 dX11_isMember_9 (fun r9 h => ?_)
  refine lv_iconst (v := (nI 1)) hx hb dX11_isMember_12 (by decide) ?_
  refine lv_isub hx hb dX11_isMember_13 ?_
  refine xh_cSi C hw (rest := []) h (fun _ hy => c_X11_within hq hN hy) ml_RX11_54 st_X11_within ⟨rfl, rfl, by decide, by decide⟩ rfl hl.1 rfl (Nat.le_of_ble_eq_true rfl) dX11_isMember_14 (fun H locs r14 M hw h => ?_)
  exact hret dX11_isMember_17 (x_z_nar (x_cz_some h).1) hw (x_cz_some h).2
def f_X4_isOf_26 (M : x_M) : Option (Int32 × x_M) := some ((nI 1), M)
def f_X4_isOf_30 (M : x_M) : Option (Int32 × x_M) := some ((nI 0), M)
def f_X4_isOf (M : x_M) (a1 : Int32) (a2 : Int32) : Option (Int32 × x_M) := x_rd 10 (M 3) a1 (fun r5 => if a2 = 0 then f_X4_isOf_26 M else if r5 = a2 then f_X4_isOf_26 M else if r5 = (nI 3) then if a2 = (nI 2) then f_X4_isOf_26 M else f_X4_isOf_30 M else f_X4_isOf_30 M)
abbrev rm_X4_isOf : Room := { frames := 0, cells := 0, slots := 0, locals := 0 }
set_option maxHeartbeats 4000000 in
set_option maxRecDepth 100000 in
theorem c_X4_isOf {l : Launch} {D : va_G} {cy : Nat → ClassId} {q ad : Nat → Nat} {NC : Nat} {s0 : State} (hq : x_Q q NC s0.heap.size) (hN : 88 ≤ NC) {M : x_M} {a1 : Int32} {a2 : Int32} {z : Int32 × x_M} (h : f_X4_isOf M a1 a2 = some z) : x_Ci l D cy q ad x_spX NC s0 yX4_isOf (x_uw yX4_isOf cX4_isOf 4 (some .boolean)) rm_X4_isOf [.ref (q 2), .int a1, .int a2] M z.1 z.2 := by
  refine x_meti hq (by decide) (Nat.le_of_ble_eq_true rfl) ?_
  intro p e s m args below meth c ls Q C hret hl hw
  have hx := C.1.1
  have hb := C.1.2.1
  have ho := C.1.2.2.2.1
  have hL := C.1.2.2.2.2
  have hl : lv_has ls 4 [(0, .ref (q 2)), (1, .int a1), (2, .int a2)] := hl
  have w26 : ∀ (M : x_M) (H : Heap) (locs : List Loc) (ls : Array Slot), x_B D cy q ad x_spX NC s H locs M → lv_has ls 4 [] → f_X4_isOf_26 M = some z → W p l e rm_X4_isOf s m args below meth c H locs 0 0 Q (F0 m 26 ls []) := by
    intro M H locs ls hw hl h
    unfold f_X4_isOf_26 at h
    refine lv_iconst (v := (nI 1)) hx hb dX4_isOf_26 (by decide) ?_
    refine lv_goto (tgt := 31) hx hb dX4_isOf_27 (by decide) ?_
    exact hret dX4_isOf_31 rfl hw h
  have w30 : ∀ (M : x_M) (H : Heap) (locs : List Loc) (ls : Array Slot), x_B D cy q ad x_spX NC s H locs M → lv_has ls 4 [] → f_X4_isOf_30 M = some z → W p l e rm_X4_isOf s m args below meth c H locs 0 0 Q (F0 m 30 ls []) := by
    intro M H locs ls hw hl h
    unfold f_X4_isOf_30 at h
    refine lv_iconst (v := (nI 0)) hx hb dX4_isOf_30 (by decide) ?_
    exact hret dX4_isOf_31 rfl hw h
  unfold f_X4_isOf at h
  refine lv_aload_n hx hb dX4_isOf_0 rfl (lv_at hl 0 rfl) ?_
  refine xh_getr C hw 2 0 sX_2 (x_lt hN rfl) rfl rfl rfl lk_RX4_9 dX4_isOf_1 ?_
  refine lv_iload_n hx hb dX4_isOf_4 rfl (lv_at hl 1 rfl) ?_
  refine xh_iald C hw 3 10 h sX_3 (x_lt hN rfl) dX4_isOf_5 (fun r5 h => ?_)
  refine lv_istore_n (lv' := [(3, .int _), (0, .ref (q 2)), (1, .int _), (2, .int _)]) hx hb dX4_isOf_6 rfl hl (by decide) rfl (fun ls hl => ?_)
  refine lv_iload_n hx hb dX4_isOf_7 rfl (lv_at hl 3 rfl) ?_
  refine x_if_eq (tgt := 26) hx hb h dX4_isOf_8 (by decide) (fun h => ?_) (fun h => ?_)
  · exact w26 _ _ _ _ hw (lv_sub hl [] rfl) h
  · refine lv_iload_n hx hb dX4_isOf_11 rfl (lv_at hl 0 rfl) ?_
    refine lv_iload_n hx hb dX4_isOf_12 rfl (lv_at hl 3 rfl) ?_
    refine x_icmp_eq (tgt := 26) hx hb h dX4_isOf_13 (by decide) (fun h => ?_) (fun h => ?_)
    · exact w26 _ _ _ _ hw (lv_sub hl [] rfl) h
    · refine lv_iload_n hx hb dX4_isOf_16 rfl (lv_at hl 0 rfl) ?_
      refine lv_iconst (v := (nI 3)) hx hb dX4_isOf_17 (by decide) ?_
      refine x_icmp_ne (tgt := 30) hx hb h dX4_isOf_18 (by decide) (fun h => ?_) (fun h => ?_)
      · refine lv_iload_n hx hb dX4_isOf_21 rfl (lv_at hl 3 rfl) ?_
        refine lv_iconst (v := (nI 2)) hx hb dX4_isOf_22 (by decide) ?_
        refine x_icmp_ne (tgt := 30) hx hb h dX4_isOf_23 (by decide) (fun h => ?_) (fun h => ?_)
        · exact w26 _ _ _ _ hw (lv_sub hl [] rfl) h
        · exact w30 _ _ _ _ hw (lv_sub hl [] rfl) h
      · exact w30 _ _ _ _ hw (lv_sub hl [] rfl) h
def f_X11_is_17 (M : x_M) : Option (Int32 × x_M) := some ((-1000000001), M)
def f_X11_is (M : x_M) (a1 : Int32) (a2 : Int32) : Option (Int32 × x_M) := x_bn (f_X11_isMember M a1) (fun r2 M => if r2 = 0 then f_X11_is_17 M else x_bn (f_X11_within M a2 (nI 0) (nI 3)) (fun r11 M => if r11 = 0 then f_X11_is_17 M else x_bn (f_X4_isOf M a1 a2) (fun r29 M => if r29 = 0 then some ((nI 0), M) else some ((nI 1), M))))
abbrev rm_X11_is : Room := { frames := 2, cells := 0, slots := 0, locals := 43 }
set_option maxHeartbeats 4000000 in
set_option maxRecDepth 100000 in
theorem c_X11_is {l : Launch} {D : va_G} {cy : Nat → ClassId} {q ad : Nat → Nat} {NC : Nat} {s0 : State} (hq : x_Q q NC s0.heap.size) (hN : 88 ≤ NC) {M : x_M} {a1 : Int32} {a2 : Int32} {z : Int32 × x_M} (h : f_X11_is M a1 a2 = some z) : x_Ci l D cy q ad x_spX NC s0 yX11_is (x_uw yX11_is cX11_is 3 (some .int)) rm_X11_is [.ref (q 0), .int a1, .int a2] M z.1 z.2 := by
  refine x_meti hq (by decide) (Nat.le_of_ble_eq_true rfl) ?_
  intro p e s m args below meth c ls Q C hret hl hw
  have hx := C.1.1
  have hb := C.1.2.1
  have ho := C.1.2.2.2.1
  have hL := C.1.2.2.2.2
  have hl : lv_has ls 3 [(0, .ref (q 0)), (1, .int a1), (2, .int a2)] := hl
  have w17 : ∀ (M : x_M) (H : Heap) (locs : List Loc) (ls : Array Slot), x_B D cy q ad x_spX NC s H locs M → lv_has ls 3 [] → f_X11_is_17 M = some z → W p l e rm_X11_is s m args below meth c H locs 0 0 Q (F0 m 17 ls []) := by
    intro M H locs ls hw hl h
    unfold f_X11_is_17 at h
    refine lv_ldc hx hb ho (hL _ kc_RX11_58) dX11_is_17 ?_
    exact hret dX11_is_19 rfl hw h
  unfold f_X11_is at h
  refine lv_aload_n hx hb dX11_is_0 rfl (lv_at hl 0 rfl) ?_
  refine lv_iload_n hx hb dX11_is_1 rfl (lv_at hl 1 rfl) ?_
  refine xh_cVi C hw (rest := []) h (fun _ hy => c_X11_isMember hq hN hy) ml_RX11_69 mv_X11_isMember sX_0 (x_lt hN rfl) rfl ⟨rfl, rfl, by decide, by decide⟩ rfl hl.1 rfl (Nat.le_of_ble_eq_true rfl) dX11_is_2 (fun H locs r2 M hw h => ?_)
  refine x_if_eq (tgt := 17) hx hb h dX11_is_5 (by decide) (fun h => ?_) (fun h => ?_)
  · exact w17 _ _ _ _ hw (lv_sub hl [] rfl) h
  · refine lv_iload_n hx hb dX11_is_8 rfl (lv_at hl 2 rfl) ?_
    refine lv_iconst (v := (nI 0)) hx hb dX11_is_9 (by decide) ?_
    refine lv_iconst (v := (nI 3)) hx hb dX11_is_10 (by decide) ?_
    refine xh_cSi C hw (rest := []) h (fun _ hy => c_X11_within hq hN hy) ml_RX11_54 st_X11_within ⟨rfl, rfl, by decide, by decide⟩ rfl hl.1 rfl (Nat.le_of_ble_eq_true rfl) dX11_is_11 (fun H locs r11 M hw h => ?_)
    refine x_if_ne (tgt := 20) hx hb h dX11_is_14 (by decide) (fun h => ?_) (fun h => ?_)
    · exact w17 _ _ _ _ hw (lv_sub hl [] rfl) h
    · refine lv_aload_n hx hb dX11_is_20 rfl (lv_at hl 0 rfl) ?_
      refine xh_getr C hw 0 0 sX_0 (x_lt hN rfl) rfl rfl rfl lk_RX11_12 dX11_is_21 ?_
      refine xh_getr C hw 1 0 sX_1 (x_lt hN rfl) rfl rfl rfl lk_RX11_59 dX11_is_24 ?_
      refine lv_iload_n hx hb dX11_is_27 rfl (lv_at hl 1 rfl) ?_
      refine lv_iload_n hx hb dX11_is_28 rfl (lv_at hl 2 rfl) ?_
      refine xh_cVi C hw (rest := []) h (fun _ hy => c_X4_isOf hq hN hy) ml_RX11_73 mv_X4_isOf sX_2 (x_lt hN rfl) rfl ⟨rfl, rfl, by decide, by decide⟩ rfl hl.1 rfl (Nat.le_of_ble_eq_true rfl) dX11_is_29 (fun H locs r29 M hw h => ?_)
      refine x_if_eq (tgt := 39) hx hb h dX11_is_32 (by decide) (fun h => ?_) (fun h => ?_)
      · refine lv_iconst (v := (nI 0)) hx hb dX11_is_39 (by decide) ?_
        exact hret dX11_is_40 rfl hw h
      · refine lv_iconst (v := (nI 1)) hx hb dX11_is_35 (by decide) ?_
        refine lv_goto (tgt := 40) hx hb dX11_is_36 (by decide) ?_
        exact hret dX11_is_40 rfl hw h
def f_X11_pool_23 (M : x_M) : Option (Int32 × x_M) := some ((-1000000001), M)
def f_X11_pool_26 (M : x_M) (v1 : Int32) (v2 : Int32) : Option (Int32 × x_M) := x_rd 10 (M 5) v1 (fun r37 => x_wr 10 M 5 v1 v2 (fun M => some (r37, M)))
def f_X11_pool (M : x_M) (a1 : Int32) (a2 : Int32) : Option (Int32 × x_M) := x_bn (f_X11_isMember M a1) (fun r2 M => if r2 = 0 then f_X11_pool_23 M else if a2 = (-1000000005) then f_X11_pool_26 M a1 a2 else x_bn (f_X11_within M a2 (nI 0) (nI 2)) (fun r17 M => if r17 = 0 then f_X11_pool_23 M else f_X11_pool_26 M a1 a2))
abbrev rm_X11_pool : Room := { frames := 2, cells := 0, slots := 0, locals := 43 }
set_option maxHeartbeats 4000000 in
set_option maxRecDepth 100000 in
theorem c_X11_pool {l : Launch} {D : va_G} {cy : Nat → ClassId} {q ad : Nat → Nat} {NC : Nat} {s0 : State} (hq : x_Q q NC s0.heap.size) (hN : 88 ≤ NC) {M : x_M} {a1 : Int32} {a2 : Int32} {z : Int32 × x_M} (h : f_X11_pool M a1 a2 = some z) : x_Ci l D cy q ad x_spX NC s0 yX11_pool (x_uw yX11_pool cX11_pool 4 (some .int)) rm_X11_pool [.ref (q 0), .int a1, .int a2] M z.1 z.2 := by
  refine x_meti hq (by decide) (Nat.le_of_ble_eq_true rfl) ?_
  intro p e s m args below meth c ls Q C hret hl hw
  have hx := C.1.1
  have hb := C.1.2.1
  have ho := C.1.2.2.2.1
  have hL := C.1.2.2.2.2
  have hl : lv_has ls 4 [(0, .ref (q 0)), (1, .int a1), (2, .int a2)] := hl
  have w23 : ∀ (M : x_M) (H : Heap) (locs : List Loc) (ls : Array Slot), x_B D cy q ad x_spX NC s H locs M → lv_has ls 4 [] → f_X11_pool_23 M = some z → W p l e rm_X11_pool s m args below meth c H locs 0 0 Q (F0 m 23 ls []) := by
    intro M H locs ls hw hl h
    unfold f_X11_pool_23 at h
    refine lv_ldc hx hb ho (hL _ kc_RX11_58) dX11_pool_23 ?_
    exact hret dX11_pool_25 rfl hw h
  have w26 : ∀ (M : x_M) (v1 : Int32) (v2 : Int32) (H : Heap) (locs : List Loc) (ls : Array Slot), x_B D cy q ad x_spX NC s H locs M → lv_has ls 4 [(0, .ref (q 0)), (1, .int v1), (2, .int v2)] → f_X11_pool_26 M v1 v2 = some z → W p l e rm_X11_pool s m args below meth c H locs 0 0 Q (F0 m 26 ls []) := by
    intro M v1 v2 H locs ls hw hl h
    unfold f_X11_pool_26 at h
    refine lv_aload_n hx hb dX11_pool_26 rfl (lv_at hl 0 rfl) ?_
    refine xh_getr C hw 0 0 sX_0 (x_lt hN rfl) rfl rfl rfl lk_RX11_12 dX11_pool_27 ?_
    refine xh_getr C hw 1 0 sX_1 (x_lt hN rfl) rfl rfl rfl lk_RX11_59 dX11_pool_30 ?_
    refine xh_getr C hw 2 2 sX_2 (x_lt hN rfl) rfl rfl rfl lk_RX11_78 dX11_pool_33 ?_
    refine lv_iload_n hx hb dX11_pool_36 rfl (lv_at hl 1 rfl) ?_
    refine xh_iald C hw 5 10 h sX_5 (x_lt hN rfl) dX11_pool_37 (fun r37 h => ?_)
    refine lv_istore_n (lv' := [(3, .int _), (0, .ref (q 0)), (1, .int _), (2, .int _)]) hx hb dX11_pool_38 rfl hl (by decide) rfl (fun ls hl => ?_)
    refine lv_aload_n hx hb dX11_pool_39 rfl (lv_at hl 1 rfl) ?_
    refine xh_getr C hw 0 0 sX_0 (x_lt hN rfl) rfl rfl rfl lk_RX11_12 dX11_pool_40 ?_
    refine xh_getr C hw 1 0 sX_1 (x_lt hN rfl) rfl rfl rfl lk_RX11_59 dX11_pool_43 ?_
    refine xh_getr C hw 2 2 sX_2 (x_lt hN rfl) rfl rfl rfl lk_RX11_78 dX11_pool_46 ?_
    refine lv_iload_n hx hb dX11_pool_49 rfl (lv_at hl 2 rfl) ?_
    refine lv_iload_n hx hb dX11_pool_50 rfl (lv_at hl 3 rfl) ?_
    refine xh_iast C hw 5 10 h sX_5 (x_lt hN rfl) dX11_pool_51 (fun H locs M hw h => ?_)
    refine lv_iload_n hx hb dX11_pool_52 rfl (lv_at hl 0 rfl) ?_
    exact hret dX11_pool_53 rfl hw h
  unfold f_X11_pool at h
  refine lv_aload_n hx hb dX11_pool_0 rfl (lv_at hl 0 rfl) ?_
  refine lv_iload_n hx hb dX11_pool_1 rfl (lv_at hl 1 rfl) ?_
  refine xh_cVi C hw (rest := []) h (fun _ hy => c_X11_isMember hq hN hy) ml_RX11_69 mv_X11_isMember sX_0 (x_lt hN rfl) rfl ⟨rfl, rfl, by decide, by decide⟩ rfl hl.1 rfl (Nat.le_of_ble_eq_true rfl) dX11_pool_2 (fun H locs r2 M hw h => ?_)
  refine x_if_eq (tgt := 23) hx hb h dX11_pool_5 (by decide) (fun h => ?_) (fun h => ?_)
  · exact w23 _ _ _ _ hw (lv_sub hl [] rfl) h
  · refine lv_iload_n hx hb dX11_pool_8 rfl (lv_at hl 2 rfl) ?_
    refine lv_ldc hx hb ho (hL _ kc_RX11_77) dX11_pool_9 ?_
    refine x_icmp_eq (tgt := 26) hx hb h dX11_pool_11 (by decide) (fun h => ?_) (fun h => ?_)
    · exact w26 _ _ _ _ _ _ hw (lv_sub hl [0, 1, 2] rfl) h
    · refine lv_iload_n hx hb dX11_pool_14 rfl (lv_at hl 2 rfl) ?_
      refine lv_iconst (v := (nI 0)) hx hb dX11_pool_15 (by decide) ?_
      refine lv_iconst (v := (nI 2)) hx hb dX11_pool_16 (by decide) ?_
      refine xh_cSi C hw (rest := []) h (fun _ hy => c_X11_within hq hN hy) ml_RX11_54 st_X11_within ⟨rfl, rfl, by decide, by decide⟩ rfl hl.1 rfl (Nat.le_of_ble_eq_true rfl) dX11_pool_17 (fun H locs r17 M hw h => ?_)
      refine x_if_ne (tgt := 26) hx hb h dX11_pool_20 (by decide) (fun h => ?_) (fun h => ?_)
      · exact w23 _ _ _ _ hw (lv_sub hl [] rfl) h
      · exact w26 _ _ _ _ _ _ hw (lv_sub hl [0, 1, 2] rfl) h
def f_X11_marks_19 (M : x_M) : Option (Int32 × x_M) := some ((-1000000001), M)
def f_X11_marks (M : x_M) (a1 : Int32) (a2 : Int32) : Option (Int32 × x_M) := x_bn (f_X11_isMember M a1) (fun r2 M => if r2 = 0 then f_X11_marks_19 M else x_bn (f_X11_within M a2 (nI 0) (nI 4095)) (fun r13 M => if r13 = 0 then f_X11_marks_19 M else x_rd 10 (M 4) a1 (fun r33 => x_wr 10 M 4 a1 a2 (fun M => some (r33, M)))))
abbrev rm_X11_marks : Room := { frames := 2, cells := 0, slots := 0, locals := 43 }
set_option maxHeartbeats 4000000 in
set_option maxRecDepth 100000 in
theorem c_X11_marks {l : Launch} {D : va_G} {cy : Nat → ClassId} {q ad : Nat → Nat} {NC : Nat} {s0 : State} (hq : x_Q q NC s0.heap.size) (hN : 88 ≤ NC) {M : x_M} {a1 : Int32} {a2 : Int32} {z : Int32 × x_M} (h : f_X11_marks M a1 a2 = some z) : x_Ci l D cy q ad x_spX NC s0 yX11_marks (x_uw yX11_marks cX11_marks 4 (some .int)) rm_X11_marks [.ref (q 0), .int a1, .int a2] M z.1 z.2 := by
  refine x_meti hq (by decide) (Nat.le_of_ble_eq_true rfl) ?_
  intro p e s m args below meth c ls Q C hret hl hw
  have hx := C.1.1
  have hb := C.1.2.1
  have ho := C.1.2.2.2.1
  have hL := C.1.2.2.2.2
  have hl : lv_has ls 4 [(0, .ref (q 0)), (1, .int a1), (2, .int a2)] := hl
  have w19 : ∀ (M : x_M) (H : Heap) (locs : List Loc) (ls : Array Slot), x_B D cy q ad x_spX NC s H locs M → lv_has ls 4 [] → f_X11_marks_19 M = some z → W p l e rm_X11_marks s m args below meth c H locs 0 0 Q (F0 m 19 ls []) := by
    intro M H locs ls hw hl h
    unfold f_X11_marks_19 at h
    refine lv_ldc hx hb ho (hL _ kc_RX11_58) dX11_marks_19 ?_
    exact hret dX11_marks_21 rfl hw h
  unfold f_X11_marks at h
  refine lv_aload_n hx hb dX11_marks_0 rfl (lv_at hl 0 rfl) ?_
  refine lv_iload_n hx hb dX11_marks_1 rfl (lv_at hl 1 rfl) ?_
  refine xh_cVi C hw (rest := []) h (fun _ hy => c_X11_isMember hq hN hy) ml_RX11_69 mv_X11_isMember sX_0 (x_lt hN rfl) rfl ⟨rfl, rfl, by decide, by decide⟩ rfl hl.1 rfl (Nat.le_of_ble_eq_true rfl) dX11_marks_2 (fun H locs r2 M hw h => ?_)
  refine x_if_eq (tgt := 19) hx hb h dX11_marks_5 (by decide) (fun h => ?_) (fun h => ?_)
  · exact w19 _ _ _ _ hw (lv_sub hl [] rfl) h
  · refine lv_iload_n hx hb dX11_marks_8 rfl (lv_at hl 2 rfl) ?_
    refine lv_iconst (v := (nI 0)) hx hb dX11_marks_9 (by decide) ?_
    refine lv_sipush (v := (nI 4095)) hx hb dX11_marks_10 (by decide) ?_
    refine xh_cSi C hw (rest := []) h (fun _ hy => c_X11_within hq hN hy) ml_RX11_54 st_X11_within ⟨rfl, rfl, by decide, by decide⟩ rfl hl.1 rfl (Nat.le_of_ble_eq_true rfl) dX11_marks_13 (fun H locs r13 M hw h => ?_)
    refine x_if_ne (tgt := 22) hx hb h dX11_marks_16 (by decide) (fun h => ?_) (fun h => ?_)
    · exact w19 _ _ _ _ hw (lv_sub hl [] rfl) h
    · refine lv_aload_n hx hb dX11_marks_22 rfl (lv_at hl 0 rfl) ?_
      refine xh_getr C hw 0 0 sX_0 (x_lt hN rfl) rfl rfl rfl lk_RX11_12 dX11_marks_23 ?_
      refine xh_getr C hw 1 0 sX_1 (x_lt hN rfl) rfl rfl rfl lk_RX11_59 dX11_marks_26 ?_
      refine xh_getr C hw 2 1 sX_2 (x_lt hN rfl) rfl rfl rfl lk_RX11_81 dX11_marks_29 ?_
      refine lv_iload_n hx hb dX11_marks_32 rfl (lv_at hl 1 rfl) ?_
      refine xh_iald C hw 4 10 h sX_4 (x_lt hN rfl) dX11_marks_33 (fun r33 h => ?_)
      refine lv_istore_n (lv' := [(3, .int _), (0, .ref (q 0)), (1, .int _), (2, .int _)]) hx hb dX11_marks_34 rfl hl (by decide) rfl (fun ls hl => ?_)
      refine lv_aload_n hx hb dX11_marks_35 rfl (lv_at hl 1 rfl) ?_
      refine xh_getr C hw 0 0 sX_0 (x_lt hN rfl) rfl rfl rfl lk_RX11_12 dX11_marks_36 ?_
      refine xh_getr C hw 1 0 sX_1 (x_lt hN rfl) rfl rfl rfl lk_RX11_59 dX11_marks_39 ?_
      refine xh_getr C hw 2 1 sX_2 (x_lt hN rfl) rfl rfl rfl lk_RX11_81 dX11_marks_42 ?_
      refine lv_iload_n hx hb dX11_marks_45 rfl (lv_at hl 2 rfl) ?_
      refine lv_iload_n hx hb dX11_marks_46 rfl (lv_at hl 3 rfl) ?_
      refine xh_iast C hw 4 10 h sX_4 (x_lt hN rfl) dX11_marks_47 (fun H locs M hw h => ?_)
      refine lv_iload_n hx hb dX11_marks_48 rfl (lv_at hl 0 rfl) ?_
      exact hret dX11_marks_49 rfl hw h
def f_X11_isSheet (M : x_M) (a1 : Int32) : Option (Int32 × x_M) := x_bn (f_X11_within M a1 (nI 0) (nI 1)) (fun r3 M => x_cz r3 (some (r3, M)))
abbrev rm_X11_isSheet : Room := { frames := 1, cells := 0, slots := 0, locals := 22 }
set_option maxHeartbeats 4000000 in
set_option maxRecDepth 100000 in
theorem c_X11_isSheet {l : Launch} {D : va_G} {cy : Nat → ClassId} {q ad : Nat → Nat} {NC : Nat} {s0 : State} (hq : x_Q q NC s0.heap.size) (hN : 88 ≤ NC) {M : x_M} {a1 : Int32} {z : Int32 × x_M} (h : f_X11_isSheet M a1 = some z) : x_Ci l D cy q ad x_spX NC s0 yX11_isSheet (x_uw yX11_isSheet cX11_isSheet 1 (some .boolean)) rm_X11_isSheet [.int a1] M z.1 z.2 := by
  refine x_meti hq (by decide) (Nat.le_of_ble_eq_true rfl) ?_
  intro p e s m args below meth c ls Q C hret hl hw
  have hx := C.1.1
  have hb := C.1.2.1
  have ho := C.1.2.2.2.1
  have hL := C.1.2.2.2.2
  have hl : lv_has ls 1 [(0, .int a1)] := hl
  unfold f_X11_isSheet at h
  refine lv_iload_n hx hb dX11_isSheet_0 rfl (lv_at hl 0 rfl) ?_
  refine lv_iconst (v := (nI 0)) hx hb dX11_isSheet_1 (by decide) ?_
  refine lv_iconst (v := (nI 1)) hx hb dX11_isSheet_2 (by decide) ?_
  refine xh_cSi C hw (rest := []) h (fun _ hy => c_X11_within hq hN hy) ml_RX11_54 st_X11_within ⟨rfl, rfl, by decide, by decide⟩ rfl hl.1 rfl (Nat.le_of_ble_eq_true rfl) dX11_isSheet_3 (fun H locs r3 M hw h => ?_)
  exact hret dX11_isSheet_6 (x_z_nar (x_cz_some h).1) hw (x_cz_some h).2
def f_X11_lay_92 (k45 : x_M → Int32 → Int32 → Int32 → Option (Int32 × x_M)) (M : x_M) (v1 : Int32) (v2 : Int32) (v3 : Int32) (t1 : Int32) (t2 : Int32) : Option (Int32 × x_M) := x_wr 10 M 4 t1 t2 (fun M => k45 M v1 v2 (v3 + (nI 1)))
def f_X11_lay_45 : Nat → x_M → Int32 → Int32 → Int32 → Option (Int32 × x_M)
  | 0, _, _, _, _ => none
  | n + 1, M, v1, v2, v3 => if v2 ≤ v3 then some (v2, M) else x_rd 32 (M 86) ((v1 * (nI 16)) + v3) (fun r60 => x_bn (f_X11_within M r60 (nI 0) (nI 4095)) (fun r80 M => if r80 = 0 then f_X11_lay_92 (f_X11_lay_45 n) M v1 v2 v3 v3 (nI 0) else f_X11_lay_92 (f_X11_lay_45 n) M v1 v2 v3 v3 r60))
theorem f_X11_lay_45_0 (M : x_M) (v1 : Int32) (v2 : Int32) (v3 : Int32) : f_X11_lay_45 0 M v1 v2 v3 = none := rfl
theorem f_X11_lay_45_s (n : Nat) (M : x_M) (v1 : Int32) (v2 : Int32) (v3 : Int32) : f_X11_lay_45 (n + 1) M v1 v2 v3 = (if v2 ≤ v3 then some (v2, M) else x_rd 32 (M 86) ((v1 * (nI 16)) + v3) (fun r60 => x_bn (f_X11_within M r60 (nI 0) (nI 4095)) (fun r80 M => if r80 = 0 then f_X11_lay_92 (f_X11_lay_45 n) M v1 v2 v3 v3 (nI 0) else f_X11_lay_92 (f_X11_lay_45 n) M v1 v2 v3 v3 r60))) := rfl
def f_X11_lay (M : x_M) (a1 : Int32) : Option (Int32 × x_M) := x_bn (f_X11_isSheet M a1) (fun r1 M => if r1 = 0 then some ((-1000000001), M) else x_rd 2 (M 87) a1 (fun r15 => if r15 = (-1) then some ((-1000000011), M) else x_rd 2 (M 87) a1 (fun r28 => x_gf M 2 3 (fun r36 => f_X11_lay_45 x_FU M a1 (if r36 < r28 then r36 else r28) (nI 0)))))
abbrev rm_X11_lay : Room := { frames := 2, cells := 0, slots := 0, locals := 42 }
set_option maxHeartbeats 4000000 in
set_option maxRecDepth 100000 in
theorem c_X11_lay {l : Launch} {D : va_G} {cy : Nat → ClassId} {q ad : Nat → Nat} {NC : Nat} {s0 : State} (hq : x_Q q NC s0.heap.size) (hN : 88 ≤ NC) {M : x_M} {a1 : Int32} {z : Int32 × x_M} (h : f_X11_lay M a1 = some z) : x_Ci l D cy q ad x_spX NC s0 yX11_lay (x_uw yX11_lay cX11_lay 5 (some .int)) rm_X11_lay [.ref (q 0), .int a1] M z.1 z.2 := by
  refine x_meti hq (by decide) (Nat.le_of_ble_eq_true rfl) ?_
  intro p e s m args below meth c ls Q C hret hl hw
  have hx := C.1.1
  have hb := C.1.2.1
  have ho := C.1.2.2.2.1
  have hL := C.1.2.2.2.2
  have hl : lv_has ls 5 [(0, .ref (q 0)), (1, .int a1)] := hl
  have w45 : ∀ (n : Nat) (M : x_M) (v1 : Int32) (v2 : Int32) (v3 : Int32) (H : Heap) (locs : List Loc) (ls : Array Slot), x_B D cy q ad x_spX NC s H locs M → lv_has ls 5 [(0, .ref (q 0)), (1, .int v1), (2, .int v2), (3, .int v3)] → f_X11_lay_45 n M v1 v2 v3 = some z → W p l e rm_X11_lay s m args below meth c H locs 0 0 Q (F0 m 45 ls []) := by
    intro n
    induction n with
    | zero =>
      intro M v1 v2 v3 H locs ls hw hl h
      rw [f_X11_lay_45_0] at h
      cases h
    | succ n45 ih45 =>
      have w92 : ∀ (M : x_M) (v1 : Int32) (v2 : Int32) (v3 : Int32) (t1 : Int32) (t2 : Int32) (H : Heap) (locs : List Loc) (ls : Array Slot), x_B D cy q ad x_spX NC s H locs M → lv_has ls 5 [(0, .ref (q 0)), (1, .int v1), (2, .int v2), (3, .int v3)] → f_X11_lay_92 (f_X11_lay_45 n45) M v1 v2 v3 t1 t2 = some z → W p l e rm_X11_lay s m args below meth c H locs 0 0 Q (F0 m 92 ls [.int t2, .int t1, .ref (q 4)]) := by
        intro M v1 v2 v3 t1 t2 H locs ls hw hl h
        unfold f_X11_lay_92 at h
        refine xh_iast C hw 4 10 h sX_4 (x_lt hN rfl) dX11_lay_92 (fun H locs M hw h => ?_)
        refine lv_iinc (lv' := [(3, .int _), (0, .ref (q 0)), (1, .int _), (2, .int _)]) hx hb dX11_lay_93 hl (k := 3) rfl (x_inc (show Int32.ofInt 1 = (nI 1) by decide) _) (by decide) rfl (fun ls hl => ?_)
        refine lv_goto (tgt := 45) hx hb dX11_lay_96 (by decide) ?_
        exact ih45 _ _ _ _ _ _ _ hw (lv_sub hl [1, 2, 3, 0] rfl) h
      intro M v1 v2 v3 H locs ls hw hl h
      rw [f_X11_lay_45_s] at h
      refine lv_iload_n hx hb dX11_lay_45 rfl (lv_at hl 3 rfl) ?_
      refine lv_iload_n hx hb dX11_lay_46 rfl (lv_at hl 2 rfl) ?_
      refine x_icmp_ge (tgt := 99) hx hb h dX11_lay_47 (by decide) (fun h => ?_) (fun h => ?_)
      · refine lv_iload_n hx hb dX11_lay_99 rfl (lv_at hl 2 rfl) ?_
        exact hret dX11_lay_100 rfl hw h
      · refine lv_aload_n hx hb dX11_lay_50 rfl (lv_at hl 0 rfl) ?_
        refine xh_getr C hw 0 7 sX_0 (x_lt hN rfl) rfl rfl rfl lk_RX11_47 dX11_lay_51 ?_
        refine lv_iload_n hx hb dX11_lay_54 rfl (lv_at hl 1 rfl) ?_
        refine lv_bipush (v := (nI 16)) hx hb dX11_lay_55 (by decide) ?_
        refine lv_imul hx hb dX11_lay_57 ?_
        refine lv_iload_n hx hb dX11_lay_58 rfl (lv_at hl 3 rfl) ?_
        refine lv_iadd hx hb dX11_lay_59 ?_
        refine xh_sald C hw 86 32 h sX_86 (x_lt hN rfl) dX11_lay_60 (fun r60 h => ?_)
        refine lv_istore (lv' := [(4, .int _), (0, .ref (q 0)), (1, .int _), (2, .int _), (3, .int _)]) hx hb dX11_lay_61 hl (by decide) rfl (fun ls hl => ?_)
        refine lv_aload_n hx hb dX11_lay_63 rfl (lv_at hl 1 rfl) ?_
        refine xh_getr C hw 0 0 sX_0 (x_lt hN rfl) rfl rfl rfl lk_RX11_12 dX11_lay_64 ?_
        refine xh_getr C hw 1 0 sX_1 (x_lt hN rfl) rfl rfl rfl lk_RX11_59 dX11_lay_67 ?_
        refine xh_getr C hw 2 1 sX_2 (x_lt hN rfl) rfl rfl rfl lk_RX11_81 dX11_lay_70 ?_
        refine lv_iload_n hx hb dX11_lay_73 rfl (lv_at hl 4 rfl) ?_
        refine lv_iload hx hb dX11_lay_74 (lv_at hl 0 rfl) ?_
        refine lv_iconst (v := (nI 0)) hx hb dX11_lay_76 (by decide) ?_
        refine lv_sipush (v := (nI 4095)) hx hb dX11_lay_77 (by decide) ?_
        refine xh_cSi C hw (rest := [_, _]) h (fun _ hy => c_X11_within hq hN hy) ml_RX11_54 st_X11_within ⟨rfl, rfl, by decide, by decide⟩ rfl hl.1 rfl (Nat.le_of_ble_eq_true rfl) dX11_lay_80 (fun H locs r80 M hw h => ?_)
        refine x_if_eq (tgt := 91) hx hb h dX11_lay_83 (by decide) (fun h => ?_) (fun h => ?_)
        · refine lv_iconst (v := (nI 0)) hx hb dX11_lay_91 (by decide) ?_
          exact w92 _ _ _ _ _ _ _ _ _ hw (lv_sub hl [1, 2, 3, 4] rfl) h
        · refine lv_iload hx hb dX11_lay_86 (lv_at hl 0 rfl) ?_
          refine lv_goto (tgt := 92) hx hb dX11_lay_88 (by decide) ?_
          exact w92 _ _ _ _ _ _ _ _ _ hw (lv_sub hl [1, 2, 3, 4] rfl) h
  unfold f_X11_lay at h
  refine lv_iload_n hx hb dX11_lay_0 rfl (lv_at hl 1 rfl) ?_
  refine xh_cSi C hw (rest := []) h (fun _ hy => c_X11_isSheet hq hN hy) ml_RX11_84 st_X11_isSheet ⟨rfl, rfl, by decide, by decide⟩ rfl hl.1 rfl (Nat.le_of_ble_eq_true rfl) dX11_lay_1 (fun H locs r1 M hw h => ?_)
  refine x_if_ne (tgt := 10) hx hb h dX11_lay_4 (by decide) (fun h => ?_) (fun h => ?_)
  · refine lv_ldc hx hb ho (hL _ kc_RX11_58) dX11_lay_7 ?_
    exact hret dX11_lay_9 rfl hw h
  · refine lv_aload_n hx hb dX11_lay_10 rfl (lv_at hl 0 rfl) ?_
    refine xh_getr C hw 0 8 sX_0 (x_lt hN rfl) rfl rfl rfl lk_RX11_51 dX11_lay_11 ?_
    refine lv_iload_n hx hb dX11_lay_14 rfl (lv_at hl 1 rfl) ?_
    refine xh_iald C hw 87 2 h sX_87 (x_lt hN rfl) dX11_lay_15 (fun r15 h => ?_)
    refine lv_iconst (v := (-1)) hx hb dX11_lay_16 (by decide) ?_
    refine x_icmp_ne (tgt := 23) hx hb h dX11_lay_17 (by decide) (fun h => ?_) (fun h => ?_)
    · refine lv_ldc hx hb ho (hL _ kc_RX11_87) dX11_lay_20 ?_
      exact hret dX11_lay_22 rfl hw h
    · refine lv_aload_n hx hb dX11_lay_23 rfl (lv_at hl 0 rfl) ?_
      refine xh_getr C hw 0 8 sX_0 (x_lt hN rfl) rfl rfl rfl lk_RX11_51 dX11_lay_24 ?_
      refine lv_iload_n hx hb dX11_lay_27 rfl (lv_at hl 1 rfl) ?_
      refine xh_iald C hw 87 2 h sX_87 (x_lt hN rfl) dX11_lay_28 (fun r28 h => ?_)
      refine lv_aload_n hx hb dX11_lay_29 rfl (lv_at hl 0 rfl) ?_
      refine xh_getr C hw 0 0 sX_0 (x_lt hN rfl) rfl rfl rfl lk_RX11_12 dX11_lay_30 ?_
      refine xh_getr C hw 1 0 sX_1 (x_lt hN rfl) rfl rfl rfl lk_RX11_59 dX11_lay_33 ?_
      refine xh_geti C hw 2 3 h sX_2 (x_lt hN rfl) rfl rfl rfl lk_RX11_88 dX11_lay_36 (fun r36 h => ?_)
      refine xh_min C (rest := []) mw_RX11_92 hl.1 ⟨by decide, Nat.le_of_ble_eq_true rfl⟩ dX11_lay_39 ?_
      refine lv_istore_n (lv' := [(2, .int _), (0, .ref (q 0)), (1, .int _)]) hx hb dX11_lay_42 rfl hl (by decide) rfl (fun ls hl => ?_)
      refine lv_iconst (v := (nI 0)) hx hb dX11_lay_43 (by decide) ?_
      refine lv_istore_n (lv' := [(3, .int _), (2, .int _), (0, .ref (q 0)), (1, .int _)]) hx hb dX11_lay_44 rfl hl (by decide) rfl (fun ls hl => ?_)
      exact w45 _ _ _ _ _ _ _ _ hw (lv_sub hl [2, 3, 1, 0] rfl) h
def f_X11_days_25 (M : x_M) : Option (Int32 × x_M) := some ((-1000000001), M)
def f_X11_days (M : x_M) (a1 : Int32) : Option (Int32 × x_M) := x_bn (f_X11_within M a1 (nI 1) (nI 100)) (fun r4 M => if r4 = 0 then f_X11_days_25 M else x_gf M 1 8 (fun r14 => if (r14 + a1) ≤ (nI 1200) then x_gf M 1 8 (fun r33 => x_pf M 1 8 (r33 + a1) (fun M => x_gf M 1 8 (fun r45 => some (r45, M)))) else f_X11_days_25 M))
abbrev rm_X11_days : Room := { frames := 1, cells := 0, slots := 0, locals := 22 }
set_option maxHeartbeats 4000000 in
set_option maxRecDepth 100000 in
theorem c_X11_days {l : Launch} {D : va_G} {cy : Nat → ClassId} {q ad : Nat → Nat} {NC : Nat} {s0 : State} (hq : x_Q q NC s0.heap.size) (hN : 88 ≤ NC) {M : x_M} {a1 : Int32} {z : Int32 × x_M} (h : f_X11_days M a1 = some z) : x_Ci l D cy q ad x_spX NC s0 yX11_days (x_uw yX11_days cX11_days 2 (some .int)) rm_X11_days [.ref (q 0), .int a1] M z.1 z.2 := by
  refine x_meti hq (by decide) (Nat.le_of_ble_eq_true rfl) ?_
  intro p e s m args below meth c ls Q C hret hl hw
  have hx := C.1.1
  have hb := C.1.2.1
  have ho := C.1.2.2.2.1
  have hL := C.1.2.2.2.2
  have hl : lv_has ls 2 [(0, .ref (q 0)), (1, .int a1)] := hl
  have w25 : ∀ (M : x_M) (H : Heap) (locs : List Loc) (ls : Array Slot), x_B D cy q ad x_spX NC s H locs M → lv_has ls 2 [] → f_X11_days_25 M = some z → W p l e rm_X11_days s m args below meth c H locs 0 0 Q (F0 m 25 ls []) := by
    intro M H locs ls hw hl h
    unfold f_X11_days_25 at h
    refine lv_ldc hx hb ho (hL _ kc_RX11_58) dX11_days_25 ?_
    exact hret dX11_days_27 rfl hw h
  unfold f_X11_days at h
  refine lv_iload_n hx hb dX11_days_0 rfl (lv_at hl 1 rfl) ?_
  refine lv_iconst (v := (nI 1)) hx hb dX11_days_1 (by decide) ?_
  refine lv_bipush (v := (nI 100)) hx hb dX11_days_2 (by decide) ?_
  refine xh_cSi C hw (rest := []) h (fun _ hy => c_X11_within hq hN hy) ml_RX11_54 st_X11_within ⟨rfl, rfl, by decide, by decide⟩ rfl hl.1 rfl (Nat.le_of_ble_eq_true rfl) dX11_days_4 (fun H locs r4 M hw h => ?_)
  refine x_if_eq (tgt := 25) hx hb h dX11_days_7 (by decide) (fun h => ?_) (fun h => ?_)
  · exact w25 _ _ _ _ hw (lv_sub hl [] rfl) h
  · refine lv_aload_n hx hb dX11_days_10 rfl (lv_at hl 0 rfl) ?_
    refine xh_getr C hw 0 0 sX_0 (x_lt hN rfl) rfl rfl rfl lk_RX11_12 dX11_days_11 ?_
    refine xh_geti C hw 1 8 h sX_1 (x_lt hN rfl) rfl rfl rfl lk_RX11_97 dX11_days_14 (fun r14 h => ?_)
    refine lv_iload_n hx hb dX11_days_17 rfl (lv_at hl 1 rfl) ?_
    refine lv_iadd hx hb dX11_days_18 ?_
    refine lv_sipush (v := (nI 1200)) hx hb dX11_days_19 (by decide) ?_
    refine x_icmp_le (tgt := 28) hx hb h dX11_days_22 (by decide) (fun h => ?_) (fun h => ?_)
    · refine lv_aload_n hx hb dX11_days_28 rfl (lv_at hl 0 rfl) ?_
      refine xh_getr C hw 0 0 sX_0 (x_lt hN rfl) rfl rfl rfl lk_RX11_12 dX11_days_29 ?_
      refine lv_dup hx hb dX11_days_32 rfl ?_
      refine xh_geti C hw 1 8 h sX_1 (x_lt hN rfl) rfl rfl rfl lk_RX11_97 dX11_days_33 (fun r33 h => ?_)
      refine lv_iload_n hx hb dX11_days_36 rfl (lv_at hl 1 rfl) ?_
      refine lv_iadd hx hb dX11_days_37 ?_
      refine xh_puti C hw 1 8 h sX_1 (x_lt hN rfl) rfl rfl rfl lk_RX11_97 rfl rfl dX11_days_38 (fun H locs M hw h => ?_)
      refine lv_aload_n hx hb dX11_days_41 rfl (lv_at hl 0 rfl) ?_
      refine xh_getr C hw 0 0 sX_0 (x_lt hN rfl) rfl rfl rfl lk_RX11_12 dX11_days_42 ?_
      refine xh_geti C hw 1 8 h sX_1 (x_lt hN rfl) rfl rfl rfl lk_RX11_97 dX11_days_45 (fun r45 h => ?_)
      exact hret dX11_days_48 rfl hw h
    · exact w25 _ _ _ _ hw (lv_sub hl [] rfl) h
def f_X11_rule_26 (M : x_M) : Option (Int32 × x_M) := some ((-1000000001), M)
def f_X11_rule (M : x_M) (a1 : Int32) (a2 : Int32) : Option (Int32 × x_M) := x_bn (f_X11_within M a1 (nI 0) (nI 2)) (fun r3 M => if r3 = 0 then f_X11_rule_26 M else x_rd 3 x_least a1 (fun r14 => x_rd 3 x_most a1 (fun r19 => x_bn (f_X11_within M a2 r14 r19) (fun r20 M => if r20 = 0 then f_X11_rule_26 M else x_rd 3 (M 31) a1 (fun r37 => x_wr 3 M 31 a1 a2 (fun M => some (r37, M)))))))
abbrev rm_X11_rule : Room := { frames := 1, cells := 0, slots := 0, locals := 22 }
set_option maxHeartbeats 4000000 in
set_option maxRecDepth 100000 in
theorem c_X11_rule {l : Launch} {D : va_G} {cy : Nat → ClassId} {q ad : Nat → Nat} {NC : Nat} {s0 : State} {adV : Nat → Nat} (hq : x_Q q NC s0.heap.size) (hN : 88 ≤ NC) (hz : x_Z s0 ad adV) {M : x_M} {a1 : Int32} {a2 : Int32} {z : Int32 × x_M} (h : f_X11_rule M a1 a2 = some z) : x_Ci l D cy q ad x_spX NC s0 yX11_rule (x_uw yX11_rule cX11_rule 4 (some .int)) rm_X11_rule [.ref (q 0), .int a1, .int a2] M z.1 z.2 := by
  refine x_meti hq (by decide) (Nat.le_of_ble_eq_true rfl) ?_
  intro p e s m args below meth c ls Q C hret hl hw
  have hx := C.1.1
  have hb := C.1.2.1
  have ho := C.1.2.2.2.1
  have hL := C.1.2.2.2.2
  have hl : lv_has ls 4 [(0, .ref (q 0)), (1, .int a1), (2, .int a2)] := hl
  have w26 : ∀ (M : x_M) (H : Heap) (locs : List Loc) (ls : Array Slot), x_B D cy q ad x_spX NC s H locs M → lv_has ls 4 [] → f_X11_rule_26 M = some z → W p l e rm_X11_rule s m args below meth c H locs 0 0 Q (F0 m 26 ls []) := by
    intro M H locs ls hw hl h
    unfold f_X11_rule_26 at h
    refine lv_ldc hx hb ho (hL _ kc_RX11_58) dX11_rule_26 ?_
    exact hret dX11_rule_28 rfl hw h
  unfold f_X11_rule at h
  refine lv_iload_n hx hb dX11_rule_0 rfl (lv_at hl 1 rfl) ?_
  refine lv_iconst (v := (nI 0)) hx hb dX11_rule_1 (by decide) ?_
  refine lv_iconst (v := (nI 2)) hx hb dX11_rule_2 (by decide) ?_
  refine xh_cSi C hw (rest := []) h (fun _ hy => c_X11_within hq hN hy) ml_RX11_54 st_X11_within ⟨rfl, rfl, by decide, by decide⟩ rfl hl.1 rfl (Nat.le_of_ble_eq_true rfl) dX11_rule_3 (fun H locs r3 M hw h => ?_)
  refine x_if_eq (tgt := 26) hx hb h dX11_rule_6 (by decide) (fun h => ?_) (fun h => ?_)
  · exact w26 _ _ _ _ hw (lv_sub hl [] rfl) h
  · refine lv_iload_n hx hb dX11_rule_9 rfl (lv_at hl 2 rfl) ?_
    refine xh_least C hw hz lk_RX11_100 dX11_rule_10 (fun x10 hx10 => ?_)
    refine lv_iload_n hx hb dX11_rule_13 rfl (lv_at hl 1 rfl) ?_
    refine xh_leastld C hw hx10 h dX11_rule_14 (fun r14 h => ?_)
    refine xh_most C hw hz lk_RX11_103 dX11_rule_15 (fun x15 hx15 => ?_)
    refine lv_iload_n hx hb dX11_rule_18 rfl (lv_at hl 1 rfl) ?_
    refine xh_mostld C hw hx15 h dX11_rule_19 (fun r19 h => ?_)
    refine xh_cSi C hw (rest := []) h (fun _ hy => c_X11_within hq hN hy) ml_RX11_54 st_X11_within ⟨rfl, rfl, by decide, by decide⟩ rfl hl.1 rfl (Nat.le_of_ble_eq_true rfl) dX11_rule_20 (fun H locs r20 M hw h => ?_)
    refine x_if_ne (tgt := 29) hx hb h dX11_rule_23 (by decide) (fun h => ?_) (fun h => ?_)
    · exact w26 _ _ _ _ hw (lv_sub hl [] rfl) h
    · refine lv_aload_n hx hb dX11_rule_29 rfl (lv_at hl 0 rfl) ?_
      refine xh_getr C hw 0 0 sX_0 (x_lt hN rfl) rfl rfl rfl lk_RX11_12 dX11_rule_30 ?_
      refine xh_getr C hw 1 5 sX_1 (x_lt hN rfl) rfl rfl rfl lk_RX11_106 dX11_rule_33 ?_
      refine lv_iload_n hx hb dX11_rule_36 rfl (lv_at hl 1 rfl) ?_
      refine xh_iald C hw 31 3 h sX_31 (x_lt hN rfl) dX11_rule_37 (fun r37 h => ?_)
      refine lv_istore_n (lv' := [(3, .int _), (0, .ref (q 0)), (1, .int _), (2, .int _)]) hx hb dX11_rule_38 rfl hl (by decide) rfl (fun ls hl => ?_)
      refine lv_aload_n hx hb dX11_rule_39 rfl (lv_at hl 1 rfl) ?_
      refine xh_getr C hw 0 0 sX_0 (x_lt hN rfl) rfl rfl rfl lk_RX11_12 dX11_rule_40 ?_
      refine xh_getr C hw 1 5 sX_1 (x_lt hN rfl) rfl rfl rfl lk_RX11_106 dX11_rule_43 ?_
      refine lv_iload_n hx hb dX11_rule_46 rfl (lv_at hl 2 rfl) ?_
      refine lv_iload_n hx hb dX11_rule_47 rfl (lv_at hl 3 rfl) ?_
      refine xh_iast C hw 31 3 h sX_31 (x_lt hN rfl) dX11_rule_48 (fun H locs M hw h => ?_)
      refine lv_iload_n hx hb dX11_rule_49 rfl (lv_at hl 0 rfl) ?_
      exact hret dX11_rule_50 rfl hw h
def f_X11_isPast (M : x_M) (a1 : Int32) : Option (Int32 × x_M) := x_gf M 1 8 (fun r6 => x_bn (f_X11_within M a1 (nI 0) r6) (fun r9 M => x_cz r9 (some (r9, M))))
abbrev rm_X11_isPast : Room := { frames := 1, cells := 0, slots := 0, locals := 22 }
set_option maxHeartbeats 4000000 in
set_option maxRecDepth 100000 in
theorem c_X11_isPast {l : Launch} {D : va_G} {cy : Nat → ClassId} {q ad : Nat → Nat} {NC : Nat} {s0 : State} (hq : x_Q q NC s0.heap.size) (hN : 88 ≤ NC) {M : x_M} {a1 : Int32} {z : Int32 × x_M} (h : f_X11_isPast M a1 = some z) : x_Ci l D cy q ad x_spX NC s0 yX11_isPast (x_uw yX11_isPast cX11_isPast 2 (some .boolean)) rm_X11_isPast [.ref (q 0), .int a1] M z.1 z.2 := by
  refine x_meti hq (by decide) (Nat.le_of_ble_eq_true rfl) ?_
  intro p e s m args below meth c ls Q C hret hl hw
  have hx := C.1.1
  have hb := C.1.2.1
  have ho := C.1.2.2.2.1
  have hL := C.1.2.2.2.2
  have hl : lv_has ls 2 [(0, .ref (q 0)), (1, .int a1)] := hl
  unfold f_X11_isPast at h
  refine lv_iload_n hx hb dX11_isPast_0 rfl (lv_at hl 1 rfl) ?_
  refine lv_iconst (v := (nI 0)) hx hb dX11_isPast_1 (by decide) ?_
  refine lv_aload_n hx hb dX11_isPast_2 rfl (lv_at hl 0 rfl) ?_
  refine xh_getr C hw 0 0 sX_0 (x_lt hN rfl) rfl rfl rfl lk_RX11_12 dX11_isPast_3 ?_
  refine xh_geti C hw 1 8 h sX_1 (x_lt hN rfl) rfl rfl rfl lk_RX11_97 dX11_isPast_6 (fun r6 h => ?_)
  refine xh_cSi C hw (rest := []) h (fun _ hy => c_X11_within hq hN hy) ml_RX11_54 st_X11_within ⟨rfl, rfl, by decide, by decide⟩ rfl hl.1 rfl (Nat.le_of_ble_eq_true rfl) dX11_isPast_9 (fun H locs r9 M hw h => ?_)
  exact hret dX11_isPast_12 (x_z_nar (x_cz_some h).1) hw (x_cz_some h).2
def f_X11_isPartner (M : x_M) (a1 : Int32) : Option (Int32 × x_M) := x_bn (f_X11_within M a1 (nI 0) (nI 3)) (fun r3 M => x_cz r3 (some (r3, M)))
abbrev rm_X11_isPartner : Room := { frames := 1, cells := 0, slots := 0, locals := 22 }
set_option maxHeartbeats 4000000 in
set_option maxRecDepth 100000 in
theorem c_X11_isPartner {l : Launch} {D : va_G} {cy : Nat → ClassId} {q ad : Nat → Nat} {NC : Nat} {s0 : State} (hq : x_Q q NC s0.heap.size) (hN : 88 ≤ NC) {M : x_M} {a1 : Int32} {z : Int32 × x_M} (h : f_X11_isPartner M a1 = some z) : x_Ci l D cy q ad x_spX NC s0 yX11_isPartner (x_uw yX11_isPartner cX11_isPartner 1 (some .boolean)) rm_X11_isPartner [.int a1] M z.1 z.2 := by
  refine x_meti hq (by decide) (Nat.le_of_ble_eq_true rfl) ?_
  intro p e s m args below meth c ls Q C hret hl hw
  have hx := C.1.1
  have hb := C.1.2.1
  have ho := C.1.2.2.2.1
  have hL := C.1.2.2.2.2
  have hl : lv_has ls 1 [(0, .int a1)] := hl
  unfold f_X11_isPartner at h
  refine lv_iload_n hx hb dX11_isPartner_0 rfl (lv_at hl 0 rfl) ?_
  refine lv_iconst (v := (nI 0)) hx hb dX11_isPartner_1 (by decide) ?_
  refine lv_iconst (v := (nI 3)) hx hb dX11_isPartner_2 (by decide) ?_
  refine xh_cSi C hw (rest := []) h (fun _ hy => c_X11_within hq hN hy) ml_RX11_54 st_X11_within ⟨rfl, rfl, by decide, by decide⟩ rfl hl.1 rfl (Nat.le_of_ble_eq_true rfl) dX11_isPartner_3 (fun H locs r3 M hw h => ?_)
  exact hret dX11_isPartner_6 (x_z_nar (x_cz_some h).1) hw (x_cz_some h).2
def f_X3_putInOrder_48 (M : x_M) (v1 : Int32) (v2 : Int32) : Option (Unit × x_M) := x_wr 100 M 15 v2 v1 (fun M => some ((), M))
def f_X3_putInOrder_2 : Nat → x_M → Int32 → Int32 → Option (Unit × x_M)
  | 0, _, _, _ => none
  | n + 1, M, v1, v2 => if v2 ≤ 0 then f_X3_putInOrder_48 M v1 v2 else x_rd 100 (M 15) (v2 - (nI 1)) (fun r17 => x_rd 100 (M 9) r17 (fun r18 => x_rd 100 (M 9) v1 (fun r24 => if r18 ≤ r24 then f_X3_putInOrder_48 M v1 v2 else x_rd 100 (M 15) (v2 - (nI 1)) (fun r40 => x_wr 100 M 15 v2 r40 (fun M => (f_X3_putInOrder_2 n) M v1 (v2 + (-1)))))))
theorem f_X3_putInOrder_2_0 (M : x_M) (v1 : Int32) (v2 : Int32) : f_X3_putInOrder_2 0 M v1 v2 = none := rfl
theorem f_X3_putInOrder_2_s (n : Nat) (M : x_M) (v1 : Int32) (v2 : Int32) : f_X3_putInOrder_2 (n + 1) M v1 v2 = (if v2 ≤ 0 then f_X3_putInOrder_48 M v1 v2 else x_rd 100 (M 15) (v2 - (nI 1)) (fun r17 => x_rd 100 (M 9) r17 (fun r18 => x_rd 100 (M 9) v1 (fun r24 => if r18 ≤ r24 then f_X3_putInOrder_48 M v1 v2 else x_rd 100 (M 15) (v2 - (nI 1)) (fun r40 => x_wr 100 M 15 v2 r40 (fun M => (f_X3_putInOrder_2 n) M v1 (v2 + (-1)))))))) := rfl
def f_X3_putInOrder (M : x_M) (a1 : Int32) : Option (Unit × x_M) := f_X3_putInOrder_2 x_FU M a1 a1
abbrev rm_X3_putInOrder : Room := { frames := 0, cells := 0, slots := 0, locals := 0 }
set_option maxHeartbeats 4000000 in
set_option maxRecDepth 100000 in
theorem c_X3_putInOrder {l : Launch} {D : va_G} {cy : Nat → ClassId} {q ad : Nat → Nat} {NC : Nat} {s0 : State} (hq : x_Q q NC s0.heap.size) (hN : 88 ≤ NC) {M : x_M} {a1 : Int32} {z : Unit × x_M} (h : f_X3_putInOrder M a1 = some z) : x_Cv l D cy q ad x_spX NC s0 yX3_putInOrder (x_uw yX3_putInOrder cX3_putInOrder 3 none) rm_X3_putInOrder [.ref (q 6), .int a1] M z.2 := by
  refine x_metv hq (by decide) (Nat.le_of_ble_eq_true rfl) ?_
  intro p e s m args below meth c ls Q C hret hl hw
  have hx := C.1.1
  have hb := C.1.2.1
  have ho := C.1.2.2.2.1
  have hL := C.1.2.2.2.2
  have hl : lv_has ls 3 [(0, .ref (q 6)), (1, .int a1)] := hl
  have w2 : ∀ (n : Nat) (M : x_M) (v1 : Int32) (v2 : Int32) (H : Heap) (locs : List Loc) (ls : Array Slot), x_B D cy q ad x_spX NC s H locs M → lv_has ls 3 [(0, .ref (q 6)), (1, .int v1), (2, .int v2)] → f_X3_putInOrder_2 n M v1 v2 = some z → W p l e rm_X3_putInOrder s m args below meth c H locs 0 0 Q (F0 m 2 ls []) := by
    intro n
    induction n with
    | zero =>
      intro M v1 v2 H locs ls hw hl h
      rw [f_X3_putInOrder_2_0] at h
      cases h
    | succ n2 ih2 =>
      have w48 : ∀ (M : x_M) (v1 : Int32) (v2 : Int32) (H : Heap) (locs : List Loc) (ls : Array Slot), x_B D cy q ad x_spX NC s H locs M → lv_has ls 3 [(0, .ref (q 6)), (1, .int v1), (2, .int v2)] → f_X3_putInOrder_48 M v1 v2 = some z → W p l e rm_X3_putInOrder s m args below meth c H locs 0 0 Q (F0 m 48 ls []) := by
        intro M v1 v2 H locs ls hw hl h
        unfold f_X3_putInOrder_48 at h
        refine lv_aload_n hx hb dX3_putInOrder_48 rfl (lv_at hl 0 rfl) ?_
        refine xh_getr C hw 6 8 sX_6 (x_lt hN rfl) rfl rfl rfl lk_RX3_36 dX3_putInOrder_49 ?_
        refine lv_iload_n hx hb dX3_putInOrder_52 rfl (lv_at hl 2 rfl) ?_
        refine lv_iload_n hx hb dX3_putInOrder_53 rfl (lv_at hl 1 rfl) ?_
        refine xh_iast C hw 15 100 h sX_15 (x_lt hN rfl) dX3_putInOrder_54 (fun H locs M hw h => ?_)
        exact hret dX3_putInOrder_55 hw h
      intro M v1 v2 H locs ls hw hl h
      rw [f_X3_putInOrder_2_s] at h
      refine lv_iload_n hx hb dX3_putInOrder_2 rfl (lv_at hl 2 rfl) ?_
      refine x_if_le (tgt := 48) hx hb h dX3_putInOrder_3 (by decide) (fun h => ?_) (fun h => ?_)
      · exact w48 _ _ _ _ _ _ hw (lv_sub hl [0, 1, 2] rfl) h
      · refine lv_aload_n hx hb dX3_putInOrder_6 rfl (lv_at hl 0 rfl) ?_
        refine xh_getr C hw 6 2 sX_6 (x_lt hN rfl) rfl rfl rfl lk_RX3_18 dX3_putInOrder_7 ?_
        refine lv_aload_n hx hb dX3_putInOrder_10 rfl (lv_at hl 0 rfl) ?_
        refine xh_getr C hw 6 8 sX_6 (x_lt hN rfl) rfl rfl rfl lk_RX3_36 dX3_putInOrder_11 ?_
        refine lv_iload_n hx hb dX3_putInOrder_14 rfl (lv_at hl 2 rfl) ?_
        refine lv_iconst (v := (nI 1)) hx hb dX3_putInOrder_15 (by decide) ?_
        refine lv_isub hx hb dX3_putInOrder_16 ?_
        refine xh_iald C hw 15 100 h sX_15 (x_lt hN rfl) dX3_putInOrder_17 (fun r17 h => ?_)
        refine xh_iald C hw 9 100 h sX_9 (x_lt hN rfl) dX3_putInOrder_18 (fun r18 h => ?_)
        refine lv_aload_n hx hb dX3_putInOrder_19 rfl (lv_at hl 0 rfl) ?_
        refine xh_getr C hw 6 2 sX_6 (x_lt hN rfl) rfl rfl rfl lk_RX3_18 dX3_putInOrder_20 ?_
        refine lv_iload_n hx hb dX3_putInOrder_23 rfl (lv_at hl 1 rfl) ?_
        refine xh_iald C hw 9 100 h sX_9 (x_lt hN rfl) dX3_putInOrder_24 (fun r24 h => ?_)
        refine x_icmp_le (tgt := 48) hx hb h dX3_putInOrder_25 (by decide) (fun h => ?_) (fun h => ?_)
        · exact w48 _ _ _ _ _ _ hw (lv_sub hl [0, 1, 2] rfl) h
        · refine lv_aload_n hx hb dX3_putInOrder_28 rfl (lv_at hl 0 rfl) ?_
          refine xh_getr C hw 6 8 sX_6 (x_lt hN rfl) rfl rfl rfl lk_RX3_36 dX3_putInOrder_29 ?_
          refine lv_iload_n hx hb dX3_putInOrder_32 rfl (lv_at hl 2 rfl) ?_
          refine lv_aload_n hx hb dX3_putInOrder_33 rfl (lv_at hl 0 rfl) ?_
          refine xh_getr C hw 6 8 sX_6 (x_lt hN rfl) rfl rfl rfl lk_RX3_36 dX3_putInOrder_34 ?_
          refine lv_iload_n hx hb dX3_putInOrder_37 rfl (lv_at hl 2 rfl) ?_
          refine lv_iconst (v := (nI 1)) hx hb dX3_putInOrder_38 (by decide) ?_
          refine lv_isub hx hb dX3_putInOrder_39 ?_
          refine xh_iald C hw 15 100 h sX_15 (x_lt hN rfl) dX3_putInOrder_40 (fun r40 h => ?_)
          refine xh_iast C hw 15 100 h sX_15 (x_lt hN rfl) dX3_putInOrder_41 (fun H locs M hw h => ?_)
          refine lv_iinc (lv' := [(2, .int _), (0, .ref (q 6)), (1, .int _)]) hx hb dX3_putInOrder_42 hl (k := 2) rfl (x_inc (show Int32.ofInt (-1) = (-1) by decide) _) (by decide) rfl (fun ls hl => ?_)
          refine lv_goto (tgt := 2) hx hb dX3_putInOrder_45 (by decide) ?_
          exact ih2 _ _ _ _ _ _ hw (lv_sub hl [1, 2, 0] rfl) h
  unfold f_X3_putInOrder at h
  refine lv_iload_n hx hb dX3_putInOrder_0 rfl (lv_at hl 1 rfl) ?_
  refine lv_istore_n (lv' := [(2, .int _), (0, .ref (q 6)), (1, .int _)]) hx hb dX3_putInOrder_1 rfl hl (by decide) rfl (fun ls hl => ?_)
  exact w2 _ _ _ _ _ _ _ hw (lv_sub hl [1, 2, 0] rfl) h
def f_X3_add (M : x_M) (a1 : Int32) (a2 : Int32) (a3 : Int32) (a4 : Int32) (a5 : Int32) (a6 : Int32) (a7 : Int32) : Option (Int32 × x_M) := x_gf M 6 9 (fun r1 => if r1 < (nI 100) then x_gf M 6 9 (fun r17 => x_wr 100 M 7 r17 a1 (fun M => x_gf M 6 9 (fun r27 => x_wr 100 M 8 r27 a2 (fun M => x_gf M 6 9 (fun r37 => x_wr 100 M 9 r37 a3 (fun M => x_gf M 6 9 (fun r47 => x_wr 100 M 10 r47 a4 (fun M => x_gf M 6 9 (fun r58 => x_wr 100 M 11 r58 (-1000000005) (fun M => x_gf M 6 9 (fun r69 => x_wr 100 M 12 r69 a5 (fun M => x_gf M 6 9 (fun r80 => x_wr 100 M 13 r80 a6 (fun M => x_gf M 6 9 (fun r91 => x_wr 100 M 14 r91 a7 (fun M => x_gf M 6 9 (fun r99 => x_bn (f_X3_putInOrder M r99) (fun _ M => x_gf M 6 9 (fun r107 => x_pf M 6 9 (r107 + (nI 1)) (fun M => x_gf M 6 9 (fun r116 => some ((r116 - (nI 1)), M)))))))))))))))))))))) else some ((-1000000003), M))
abbrev rm_X3_add : Room := { frames := 1, cells := 0, slots := 0, locals := 22 }
set_option maxHeartbeats 4000000 in
set_option maxRecDepth 100000 in
theorem c_X3_add {l : Launch} {D : va_G} {cy : Nat → ClassId} {q ad : Nat → Nat} {NC : Nat} {s0 : State} (hq : x_Q q NC s0.heap.size) (hN : 88 ≤ NC) {M : x_M} {a1 : Int32} {a2 : Int32} {a3 : Int32} {a4 : Int32} {a5 : Int32} {a6 : Int32} {a7 : Int32} {z : Int32 × x_M} (h : f_X3_add M a1 a2 a3 a4 a5 a6 a7 = some z) : x_Ci l D cy q ad x_spX NC s0 yX3_add (x_uw yX3_add cX3_add 8 (some .int)) rm_X3_add [.ref (q 6), .int a1, .int a2, .int a3, .int a4, .int a5, .int a6, .int a7] M z.1 z.2 := by
  refine x_meti hq (by decide) (Nat.le_of_ble_eq_true rfl) ?_
  intro p e s m args below meth c ls Q C hret hl hw
  have hx := C.1.1
  have hb := C.1.2.1
  have ho := C.1.2.2.2.1
  have hL := C.1.2.2.2.2
  have hl : lv_has ls 8 [(0, .ref (q 6)), (1, .int a1), (2, .int a2), (3, .int a3), (4, .int a4), (5, .int a5), (6, .int a6), (7, .int a7)] := hl
  unfold f_X3_add at h
  refine lv_aload_n hx hb dX3_add_0 rfl (lv_at hl 0 rfl) ?_
  refine xh_geti C hw 6 9 h sX_6 (x_lt hN rfl) rfl rfl rfl lk_RX3_39 dX3_add_1 (fun r1 h => ?_)
  refine lv_bipush (v := (nI 100)) hx hb dX3_add_4 (by decide) ?_
  refine x_icmp_lt (tgt := 12) hx hb h dX3_add_6 (by decide) (fun h => ?_) (fun h => ?_)
  · refine lv_aload_n hx hb dX3_add_12 rfl (lv_at hl 0 rfl) ?_
    refine xh_getr C hw 6 0 sX_6 (x_lt hN rfl) rfl rfl rfl lk_RX3_9 dX3_add_13 ?_
    refine lv_aload_n hx hb dX3_add_16 rfl (lv_at hl 0 rfl) ?_
    refine xh_geti C hw 6 9 h sX_6 (x_lt hN rfl) rfl rfl rfl lk_RX3_39 dX3_add_17 (fun r17 h => ?_)
    refine lv_iload_n hx hb dX3_add_20 rfl (lv_at hl 1 rfl) ?_
    refine xh_iast C hw 7 100 h sX_7 (x_lt hN rfl) dX3_add_21 (fun H locs M hw h => ?_)
    refine lv_aload_n hx hb dX3_add_22 rfl (lv_at hl 0 rfl) ?_
    refine xh_getr C hw 6 1 sX_6 (x_lt hN rfl) rfl rfl rfl lk_RX3_15 dX3_add_23 ?_
    refine lv_aload_n hx hb dX3_add_26 rfl (lv_at hl 0 rfl) ?_
    refine xh_geti C hw 6 9 h sX_6 (x_lt hN rfl) rfl rfl rfl lk_RX3_39 dX3_add_27 (fun r27 h => ?_)
    refine lv_iload_n hx hb dX3_add_30 rfl (lv_at hl 2 rfl) ?_
    refine xh_iast C hw 8 100 h sX_8 (x_lt hN rfl) dX3_add_31 (fun H locs M hw h => ?_)
    refine lv_aload_n hx hb dX3_add_32 rfl (lv_at hl 0 rfl) ?_
    refine xh_getr C hw 6 2 sX_6 (x_lt hN rfl) rfl rfl rfl lk_RX3_18 dX3_add_33 ?_
    refine lv_aload_n hx hb dX3_add_36 rfl (lv_at hl 0 rfl) ?_
    refine xh_geti C hw 6 9 h sX_6 (x_lt hN rfl) rfl rfl rfl lk_RX3_39 dX3_add_37 (fun r37 h => ?_)
    refine lv_iload_n hx hb dX3_add_40 rfl (lv_at hl 3 rfl) ?_
    refine xh_iast C hw 9 100 h sX_9 (x_lt hN rfl) dX3_add_41 (fun H locs M hw h => ?_)
    refine lv_aload_n hx hb dX3_add_42 rfl (lv_at hl 0 rfl) ?_
    refine xh_getr C hw 6 3 sX_6 (x_lt hN rfl) rfl rfl rfl lk_RX3_21 dX3_add_43 ?_
    refine lv_aload_n hx hb dX3_add_46 rfl (lv_at hl 0 rfl) ?_
    refine xh_geti C hw 6 9 h sX_6 (x_lt hN rfl) rfl rfl rfl lk_RX3_39 dX3_add_47 (fun r47 h => ?_)
    refine lv_iload hx hb dX3_add_50 (lv_at hl 4 rfl) ?_
    refine xh_iast C hw 10 100 h sX_10 (x_lt hN rfl) dX3_add_52 (fun H locs M hw h => ?_)
    refine lv_aload_n hx hb dX3_add_53 rfl (lv_at hl 0 rfl) ?_
    refine xh_getr C hw 6 4 sX_6 (x_lt hN rfl) rfl rfl rfl lk_RX3_24 dX3_add_54 ?_
    refine lv_aload_n hx hb dX3_add_57 rfl (lv_at hl 0 rfl) ?_
    refine xh_geti C hw 6 9 h sX_6 (x_lt hN rfl) rfl rfl rfl lk_RX3_39 dX3_add_58 (fun r58 h => ?_)
    refine lv_ldc hx hb ho (hL _ kc_RX3_44) dX3_add_61 ?_
    refine xh_iast C hw 11 100 h sX_11 (x_lt hN rfl) dX3_add_63 (fun H locs M hw h => ?_)
    refine lv_aload_n hx hb dX3_add_64 rfl (lv_at hl 0 rfl) ?_
    refine xh_getr C hw 6 5 sX_6 (x_lt hN rfl) rfl rfl rfl lk_RX3_27 dX3_add_65 ?_
    refine lv_aload_n hx hb dX3_add_68 rfl (lv_at hl 0 rfl) ?_
    refine xh_geti C hw 6 9 h sX_6 (x_lt hN rfl) rfl rfl rfl lk_RX3_39 dX3_add_69 (fun r69 h => ?_)
    refine lv_iload hx hb dX3_add_72 (lv_at hl 5 rfl) ?_
    refine xh_iast C hw 12 100 h sX_12 (x_lt hN rfl) dX3_add_74 (fun H locs M hw h => ?_)
    refine lv_aload_n hx hb dX3_add_75 rfl (lv_at hl 0 rfl) ?_
    refine xh_getr C hw 6 6 sX_6 (x_lt hN rfl) rfl rfl rfl lk_RX3_30 dX3_add_76 ?_
    refine lv_aload_n hx hb dX3_add_79 rfl (lv_at hl 0 rfl) ?_
    refine xh_geti C hw 6 9 h sX_6 (x_lt hN rfl) rfl rfl rfl lk_RX3_39 dX3_add_80 (fun r80 h => ?_)
    refine lv_iload hx hb dX3_add_83 (lv_at hl 6 rfl) ?_
    refine xh_iast C hw 13 100 h sX_13 (x_lt hN rfl) dX3_add_85 (fun H locs M hw h => ?_)
    refine lv_aload_n hx hb dX3_add_86 rfl (lv_at hl 0 rfl) ?_
    refine xh_getr C hw 6 7 sX_6 (x_lt hN rfl) rfl rfl rfl lk_RX3_33 dX3_add_87 ?_
    refine lv_aload_n hx hb dX3_add_90 rfl (lv_at hl 0 rfl) ?_
    refine xh_geti C hw 6 9 h sX_6 (x_lt hN rfl) rfl rfl rfl lk_RX3_39 dX3_add_91 (fun r91 h => ?_)
    refine lv_iload hx hb dX3_add_94 (lv_at hl 7 rfl) ?_
    refine xh_iast C hw 14 100 h sX_14 (x_lt hN rfl) dX3_add_96 (fun H locs M hw h => ?_)
    refine lv_aload_n hx hb dX3_add_97 rfl (lv_at hl 0 rfl) ?_
    refine lv_aload_n hx hb dX3_add_98 rfl (lv_at hl 0 rfl) ?_
    refine xh_geti C hw 6 9 h sX_6 (x_lt hN rfl) rfl rfl rfl lk_RX3_39 dX3_add_99 (fun r99 h => ?_)
    refine xh_cVv C hw (rest := []) h (fun _ hy => c_X3_putInOrder hq hN hy) ml_RX3_45 mv_X3_putInOrder sX_6 (x_lt hN rfl) rfl ⟨rfl, rfl, by decide, by decide⟩ rfl hl.1 rfl (Nat.le_of_ble_eq_true rfl) dX3_add_102 (fun H locs _ M hw h => ?_)
    refine lv_aload_n hx hb dX3_add_105 rfl (lv_at hl 0 rfl) ?_
    refine lv_dup hx hb dX3_add_106 rfl ?_
    refine xh_geti C hw 6 9 h sX_6 (x_lt hN rfl) rfl rfl rfl lk_RX3_39 dX3_add_107 (fun r107 h => ?_)
    refine lv_iconst (v := (nI 1)) hx hb dX3_add_110 (by decide) ?_
    refine lv_iadd hx hb dX3_add_111 ?_
    refine xh_puti C hw 6 9 h sX_6 (x_lt hN rfl) rfl rfl rfl lk_RX3_39 rfl rfl dX3_add_112 (fun H locs M hw h => ?_)
    refine lv_aload_n hx hb dX3_add_115 rfl (lv_at hl 0 rfl) ?_
    refine xh_geti C hw 6 9 h sX_6 (x_lt hN rfl) rfl rfl rfl lk_RX3_39 dX3_add_116 (fun r116 h => ?_)
    refine lv_iconst (v := (nI 1)) hx hb dX3_add_119 (by decide) ?_
    refine lv_isub hx hb dX3_add_120 ?_
    exact hret dX3_add_121 rfl hw h
  · refine lv_ldc hx hb ho (hL _ kc_RX3_43) dX3_add_9 ?_
    exact hret dX3_add_11 rfl hw h
def f_X0_newLine (M : x_M) (a1 : Int32) (a2 : Int32) (a3 : Int32) (a4 : Int32) (a5 : Int32) (a6 : Int32) : Option (Int32 × x_M) := x_gf M 1 8 (fun r8 => x_bn (f_X3_add M a1 a2 a3 r8 a4 a5 a6) (fun r17 M => some (r17, M)))
abbrev rm_X0_newLine : Room := { frames := 2, cells := 0, slots := 0, locals := 49 }
set_option maxHeartbeats 4000000 in
set_option maxRecDepth 100000 in
theorem c_X0_newLine {l : Launch} {D : va_G} {cy : Nat → ClassId} {q ad : Nat → Nat} {NC : Nat} {s0 : State} (hq : x_Q q NC s0.heap.size) (hN : 88 ≤ NC) {M : x_M} {a1 : Int32} {a2 : Int32} {a3 : Int32} {a4 : Int32} {a5 : Int32} {a6 : Int32} {z : Int32 × x_M} (h : f_X0_newLine M a1 a2 a3 a4 a5 a6 = some z) : x_Ci l D cy q ad x_spX NC s0 yX0_newLine (x_uw yX0_newLine cX0_newLine 7 (some .int)) rm_X0_newLine [.ref (q 1), .int a1, .int a2, .int a3, .int a4, .int a5, .int a6] M z.1 z.2 := by
  refine x_meti hq (by decide) (Nat.le_of_ble_eq_true rfl) ?_
  intro p e s m args below meth c ls Q C hret hl hw
  have hx := C.1.1
  have hb := C.1.2.1
  have ho := C.1.2.2.2.1
  have hL := C.1.2.2.2.2
  have hl : lv_has ls 7 [(0, .ref (q 1)), (1, .int a1), (2, .int a2), (3, .int a3), (4, .int a4), (5, .int a5), (6, .int a6)] := hl
  unfold f_X0_newLine at h
  refine lv_aload_n hx hb dX0_newLine_0 rfl (lv_at hl 0 rfl) ?_
  refine xh_getr C hw 1 1 sX_1 (x_lt hN rfl) rfl rfl rfl lk_RX0_19 dX0_newLine_1 ?_
  refine lv_iload_n hx hb dX0_newLine_4 rfl (lv_at hl 1 rfl) ?_
  refine lv_iload_n hx hb dX0_newLine_5 rfl (lv_at hl 2 rfl) ?_
  refine lv_iload_n hx hb dX0_newLine_6 rfl (lv_at hl 3 rfl) ?_
  refine lv_aload_n hx hb dX0_newLine_7 rfl (lv_at hl 0 rfl) ?_
  refine xh_geti C hw 1 8 h sX_1 (x_lt hN rfl) rfl rfl rfl lk_RX0_54 dX0_newLine_8 (fun r8 h => ?_)
  refine lv_iload hx hb dX0_newLine_11 (lv_at hl 4 rfl) ?_
  refine lv_iload hx hb dX0_newLine_13 (lv_at hl 5 rfl) ?_
  refine lv_iload hx hb dX0_newLine_15 (lv_at hl 6 rfl) ?_
  refine xh_cVi C hw (rest := []) h (fun _ hy => c_X3_add hq hN hy) ml_RX0_58 mv_X3_add sX_6 (x_lt hN rfl) rfl ⟨rfl, rfl, by decide, by decide⟩ rfl hl.1 rfl (Nat.le_of_ble_eq_true rfl) dX0_newLine_17 (fun H locs r17 M hw h => ?_)
  exact hret dX0_newLine_20 rfl hw h
