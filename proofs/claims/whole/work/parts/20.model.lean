def f_X12_in_14 (M : x_M) : Option (Int32 × x_M) := some ((nI 0), M)
def f_X12_in (M : x_M) (a1 : Int32) (a2 : Int32) (a3 : Int32) : Option (Int32 × x_M) := if a1 < a2 then f_X12_in_14 M else if a3 < a1 then f_X12_in_14 M else some ((nI 1), M)
abbrev rm_X12_in : Room := { frames := 0, cells := 0, slots := 0, locals := 0 }
set_option maxHeartbeats 4000000 in
set_option maxRecDepth 100000 in
theorem c_X12_in {l : Launch} {D : va_G} {cy : Nat → ClassId} {q ad : Nat → Nat} {s0 : State} (hq : x_Q q 24 s0.heap.size) {M : x_M} {a1 : Int32} {a2 : Int32} {a3 : Int32} {z : Int32 × x_M} (h : f_X12_in M a1 a2 a3 = some z) : x_Ci l D cy q ad x_spM 24 s0 yX12_in (x_uw yX12_in cX12_in 3 (some .boolean)) rm_X12_in [.int a1, .int a2, .int a3] M z.1 z.2 := by
  have hN : 24 ≤ 24 := Nat.le_refl _
  refine x_meti hq (by decide) (Nat.le_of_ble_eq_true rfl) ?_
  intro p e s m args below meth c ls Q C hret hl hw
  have hx := C.1.1
  have hb := C.1.2.1
  have ho := C.1.2.2.2.1
  have hL := C.1.2.2.2.2
  have hl : lv_has ls 3 [(0, .int a1), (1, .int a2), (2, .int a3)] := hl
  have w14 : ∀ (M : x_M) (H : Heap) (locs : List Loc) (ls : Array Slot), x_B D cy q ad x_spM 24 s H locs M → lv_has ls 3 [] → f_X12_in_14 M = some z → W p l e rm_X12_in s m args below meth c H locs 0 0 Q (F0 m 14 ls []) := by
    intro M H locs ls hw hl h
    unfold f_X12_in_14 at h
    refine lv_iconst (v := (nI 0)) hx hb dX12_in_14 (by decide) ?_
    exact hret dX12_in_15 rfl hw h
  unfold f_X12_in at h
  refine lv_iload_n hx hb dX12_in_0 rfl (lv_at hl 0 rfl) ?_
  refine lv_iload_n hx hb dX12_in_1 rfl (lv_at hl 1 rfl) ?_
  refine x_icmp_lt (tgt := 14) hx hb h dX12_in_2 (by decide) (fun h => ?_) (fun h => ?_)
  · exact w14 _ _ _ _ hw (lv_sub hl [] rfl) h
  · refine lv_iload_n hx hb dX12_in_5 rfl (lv_at hl 0 rfl) ?_
    refine lv_iload_n hx hb dX12_in_6 rfl (lv_at hl 2 rfl) ?_
    refine x_icmp_gt (tgt := 14) hx hb h dX12_in_7 (by decide) (fun h => ?_) (fun h => ?_)
    · exact w14 _ _ _ _ hw (lv_sub hl [] rfl) h
    · refine lv_iconst (v := (nI 1)) hx hb dX12_in_10 (by decide) ?_
      refine lv_goto (tgt := 15) hx hb dX12_in_11 (by decide) ?_
      exact hret dX12_in_15 rfl hw h
def f_X12_less (M : x_M) (a1 : Int32) (a2 : Int32) : Option (Int32 × x_M) := if a2 ≤ a1 then some (a2, M) else some (a1, M)
abbrev rm_X12_less : Room := { frames := 0, cells := 0, slots := 0, locals := 0 }
set_option maxHeartbeats 4000000 in
set_option maxRecDepth 100000 in
theorem c_X12_less {l : Launch} {D : va_G} {cy : Nat → ClassId} {q ad : Nat → Nat} {s0 : State} (hq : x_Q q 24 s0.heap.size) {M : x_M} {a1 : Int32} {a2 : Int32} {z : Int32 × x_M} (h : f_X12_less M a1 a2 = some z) : x_Ci l D cy q ad x_spM 24 s0 yX12_less (x_uw yX12_less cX12_less 2 (some .int)) rm_X12_less [.int a1, .int a2] M z.1 z.2 := by
  have hN : 24 ≤ 24 := Nat.le_refl _
  refine x_meti hq (by decide) (Nat.le_of_ble_eq_true rfl) ?_
  intro p e s m args below meth c ls Q C hret hl hw
  have hx := C.1.1
  have hb := C.1.2.1
  have ho := C.1.2.2.2.1
  have hL := C.1.2.2.2.2
  have hl : lv_has ls 2 [(0, .int a1), (1, .int a2)] := hl
  unfold f_X12_less at h
  refine lv_iload_n hx hb dX12_less_0 rfl (lv_at hl 0 rfl) ?_
  refine lv_iload_n hx hb dX12_less_1 rfl (lv_at hl 1 rfl) ?_
  refine x_icmp_ge (tgt := 9) hx hb h dX12_less_2 (by decide) (fun h => ?_) (fun h => ?_)
  · refine lv_iload_n hx hb dX12_less_9 rfl (lv_at hl 1 rfl) ?_
    exact hret dX12_less_10 rfl hw h
  · refine lv_iload_n hx hb dX12_less_5 rfl (lv_at hl 0 rfl) ?_
    refine lv_goto (tgt := 10) hx hb dX12_less_6 (by decide) ?_
    exact hret dX12_less_10 rfl hw h
def f_X12_more (M : x_M) (a1 : Int32) (a2 : Int32) : Option (Int32 × x_M) := if a1 ≤ a2 then some (a2, M) else some (a1, M)
abbrev rm_X12_more : Room := { frames := 0, cells := 0, slots := 0, locals := 0 }
set_option maxHeartbeats 4000000 in
set_option maxRecDepth 100000 in
theorem c_X12_more {l : Launch} {D : va_G} {cy : Nat → ClassId} {q ad : Nat → Nat} {s0 : State} (hq : x_Q q 24 s0.heap.size) {M : x_M} {a1 : Int32} {a2 : Int32} {z : Int32 × x_M} (h : f_X12_more M a1 a2 = some z) : x_Ci l D cy q ad x_spM 24 s0 yX12_more (x_uw yX12_more cX12_more 2 (some .int)) rm_X12_more [.int a1, .int a2] M z.1 z.2 := by
  have hN : 24 ≤ 24 := Nat.le_refl _
  refine x_meti hq (by decide) (Nat.le_of_ble_eq_true rfl) ?_
  intro p e s m args below meth c ls Q C hret hl hw
  have hx := C.1.1
  have hb := C.1.2.1
  have ho := C.1.2.2.2.1
  have hL := C.1.2.2.2.2
  have hl : lv_has ls 2 [(0, .int a1), (1, .int a2)] := hl
  unfold f_X12_more at h
  refine lv_iload_n hx hb dX12_more_0 rfl (lv_at hl 0 rfl) ?_
  refine lv_iload_n hx hb dX12_more_1 rfl (lv_at hl 1 rfl) ?_
  refine x_icmp_le (tgt := 9) hx hb h dX12_more_2 (by decide) (fun h => ?_) (fun h => ?_)
  · refine lv_iload_n hx hb dX12_more_9 rfl (lv_at hl 1 rfl) ?_
    exact hret dX12_more_10 rfl hw h
  · refine lv_iload_n hx hb dX12_more_5 rfl (lv_at hl 0 rfl) ?_
    refine lv_goto (tgt := 10) hx hb dX12_more_6 (by decide) ?_
    exact hret dX12_more_10 rfl hw h
def f_X12_orNone (M : x_M) (a1 : Int32) : Option (Int32 × x_M) := if a1 = (-1) then some ((-1000000005), M) else some (a1, M)
abbrev rm_X12_orNone : Room := { frames := 0, cells := 0, slots := 0, locals := 0 }
set_option maxHeartbeats 4000000 in
set_option maxRecDepth 100000 in
theorem c_X12_orNone {l : Launch} {D : va_G} {cy : Nat → ClassId} {q ad : Nat → Nat} {s0 : State} (hq : x_Q q 24 s0.heap.size) {M : x_M} {a1 : Int32} {z : Int32 × x_M} (h : f_X12_orNone M a1 = some z) : x_Ci l D cy q ad x_spM 24 s0 yX12_orNone (x_uw yX12_orNone cX12_orNone 1 (some .int)) rm_X12_orNone [.int a1] M z.1 z.2 := by
  have hN : 24 ≤ 24 := Nat.le_refl _
  refine x_meti hq (by decide) (Nat.le_of_ble_eq_true rfl) ?_
  intro p e s m args below meth c ls Q C hret hl hw
  have hx := C.1.1
  have hb := C.1.2.1
  have ho := C.1.2.2.2.1
  have hL := C.1.2.2.2.2
  have hl : lv_has ls 1 [(0, .int a1)] := hl
  unfold f_X12_orNone at h
  refine lv_iload_n hx hb dX12_orNone_0 rfl (lv_at hl 0 rfl) ?_
  refine lv_iconst (v := (-1)) hx hb dX12_orNone_1 (by decide) ?_
  refine x_icmp_ne (tgt := 10) hx hb h dX12_orNone_2 (by decide) (fun h => ?_) (fun h => ?_)
  · refine lv_ldc hx hb ho (hL _ kc_RX12_80) dX12_orNone_5 ?_
    refine lv_goto (tgt := 11) hx hb dX12_orNone_7 (by decide) ?_
    exact hret dX12_orNone_11 rfl hw h
  · refine lv_iload_n hx hb dX12_orNone_10 rfl (lv_at hl 0 rfl) ?_
    exact hret dX12_orNone_11 rfl hw h
def f_X12_isMember (M : x_M) (a1 : Int32) : Option (Int32 × x_M) := x_rd 5512 (M 1) (nI 4) (fun r7 => x_bn (f_X12_in M a1 (nI 0) (r7 - (nI 1))) (fun r10 M => x_cz r10 (some (r10, M))))
abbrev rm_X12_isMember : Room := { frames := 1, cells := 0, slots := 0, locals := 22 }
set_option maxHeartbeats 4000000 in
set_option maxRecDepth 100000 in
theorem c_X12_isMember {l : Launch} {D : va_G} {cy : Nat → ClassId} {q ad : Nat → Nat} {s0 : State} (hq : x_Q q 24 s0.heap.size) {M : x_M} {a1 : Int32} {z : Int32 × x_M} (h : f_X12_isMember M a1 = some z) : x_Ci l D cy q ad x_spM 24 s0 yX12_isMember (x_uw yX12_isMember cX12_isMember 2 (some .boolean)) rm_X12_isMember [.ref (q 0), .int a1] M z.1 z.2 := by
  have hN : 24 ≤ 24 := Nat.le_refl _
  refine x_meti hq (by decide) (Nat.le_of_ble_eq_true rfl) ?_
  intro p e s m args below meth c ls Q C hret hl hw
  have hx := C.1.1
  have hb := C.1.2.1
  have ho := C.1.2.2.2.1
  have hL := C.1.2.2.2.2
  have hl : lv_has ls 2 [(0, .ref (q 0)), (1, .int a1)] := hl
  unfold f_X12_isMember at h
  refine lv_iload_n hx hb dX12_isMember_0 rfl (lv_at hl 1 rfl) ?_
  refine lv_iconst (v := (nI 0)) hx hb dX12_isMember_1 (by decide) ?_
  refine lv_aload_n hx hb dX12_isMember_2 rfl (lv_at hl 0 rfl) ?_
  refine xh_getr C hw 0 0 sM_0 (x_lt hN rfl) rfl rfl rfl lk_RX12_7 dX12_isMember_3 ?_
  refine lv_iconst (v := (nI 4)) hx hb dX12_isMember_6 (by decide) ?_
  refine xh_iald C hw 1 5512 h sM_1 (x_lt hN rfl) dX12_isMember_7 (fun r7 h => ?_)
  refine lv_iconst (v := (nI 1)) hx hb dX12_isMember_8 (by decide) ?_
  refine lv_isub hx hb dX12_isMember_9 ?_
  refine xh_cSi C hw (rest := []) h (fun _ hy => c_X12_in hq hy) ml_RX12_81 st_X12_in ⟨rfl, rfl, by decide, by decide⟩ rfl hl.1 rfl (Nat.le_of_ble_eq_true rfl) dX12_isMember_10 (fun H locs r10 M hw h => ?_)
  exact hret dX12_isMember_13 (x_z_nar (x_cz_some h).1) hw (x_cz_some h).2
def f_X12_isLine (M : x_M) (a1 : Int32) : Option (Int32 × x_M) := x_rd 5512 (M 1) (nI 5) (fun r7 => x_bn (f_X12_in M a1 (nI 0) (r7 - (nI 1))) (fun r10 M => x_cz r10 (some (r10, M))))
abbrev rm_X12_isLine : Room := { frames := 1, cells := 0, slots := 0, locals := 22 }
set_option maxHeartbeats 4000000 in
set_option maxRecDepth 100000 in
theorem c_X12_isLine {l : Launch} {D : va_G} {cy : Nat → ClassId} {q ad : Nat → Nat} {s0 : State} (hq : x_Q q 24 s0.heap.size) {M : x_M} {a1 : Int32} {z : Int32 × x_M} (h : f_X12_isLine M a1 = some z) : x_Ci l D cy q ad x_spM 24 s0 yX12_isLine (x_uw yX12_isLine cX12_isLine 2 (some .boolean)) rm_X12_isLine [.ref (q 0), .int a1] M z.1 z.2 := by
  have hN : 24 ≤ 24 := Nat.le_refl _
  refine x_meti hq (by decide) (Nat.le_of_ble_eq_true rfl) ?_
  intro p e s m args below meth c ls Q C hret hl hw
  have hx := C.1.1
  have hb := C.1.2.1
  have ho := C.1.2.2.2.1
  have hL := C.1.2.2.2.2
  have hl : lv_has ls 2 [(0, .ref (q 0)), (1, .int a1)] := hl
  unfold f_X12_isLine at h
  refine lv_iload_n hx hb dX12_isLine_0 rfl (lv_at hl 1 rfl) ?_
  refine lv_iconst (v := (nI 0)) hx hb dX12_isLine_1 (by decide) ?_
  refine lv_aload_n hx hb dX12_isLine_2 rfl (lv_at hl 0 rfl) ?_
  refine xh_getr C hw 0 0 sM_0 (x_lt hN rfl) rfl rfl rfl lk_RX12_7 dX12_isLine_3 ?_
  refine lv_iconst (v := (nI 5)) hx hb dX12_isLine_6 (by decide) ?_
  refine xh_iald C hw 1 5512 h sM_1 (x_lt hN rfl) dX12_isLine_7 (fun r7 h => ?_)
  refine lv_iconst (v := (nI 1)) hx hb dX12_isLine_8 (by decide) ?_
  refine lv_isub hx hb dX12_isLine_9 ?_
  refine xh_cSi C hw (rest := []) h (fun _ hy => c_X12_in hq hy) ml_RX12_81 st_X12_in ⟨rfl, rfl, by decide, by decide⟩ rfl hl.1 rfl (Nat.le_of_ble_eq_true rfl) dX12_isLine_10 (fun H locs r10 M hw h => ?_)
  exact hret dX12_isLine_13 (x_z_nar (x_cz_some h).1) hw (x_cz_some h).2
def f_X12_isPast (M : x_M) (a1 : Int32) : Option (Int32 × x_M) := x_rd 5512 (M 1) (nI 0) (fun r7 => x_bn (f_X12_in M a1 (nI 0) r7) (fun r8 M => x_cz r8 (some (r8, M))))
abbrev rm_X12_isPast : Room := { frames := 1, cells := 0, slots := 0, locals := 22 }
set_option maxHeartbeats 4000000 in
set_option maxRecDepth 100000 in
theorem c_X12_isPast {l : Launch} {D : va_G} {cy : Nat → ClassId} {q ad : Nat → Nat} {s0 : State} (hq : x_Q q 24 s0.heap.size) {M : x_M} {a1 : Int32} {z : Int32 × x_M} (h : f_X12_isPast M a1 = some z) : x_Ci l D cy q ad x_spM 24 s0 yX12_isPast (x_uw yX12_isPast cX12_isPast 2 (some .boolean)) rm_X12_isPast [.ref (q 0), .int a1] M z.1 z.2 := by
  have hN : 24 ≤ 24 := Nat.le_refl _
  refine x_meti hq (by decide) (Nat.le_of_ble_eq_true rfl) ?_
  intro p e s m args below meth c ls Q C hret hl hw
  have hx := C.1.1
  have hb := C.1.2.1
  have ho := C.1.2.2.2.1
  have hL := C.1.2.2.2.2
  have hl : lv_has ls 2 [(0, .ref (q 0)), (1, .int a1)] := hl
  unfold f_X12_isPast at h
  refine lv_iload_n hx hb dX12_isPast_0 rfl (lv_at hl 1 rfl) ?_
  refine lv_iconst (v := (nI 0)) hx hb dX12_isPast_1 (by decide) ?_
  refine lv_aload_n hx hb dX12_isPast_2 rfl (lv_at hl 0 rfl) ?_
  refine xh_getr C hw 0 0 sM_0 (x_lt hN rfl) rfl rfl rfl lk_RX12_7 dX12_isPast_3 ?_
  refine lv_iconst (v := (nI 0)) hx hb dX12_isPast_6 (by decide) ?_
  refine xh_iald C hw 1 5512 h sM_1 (x_lt hN rfl) dX12_isPast_7 (fun r7 h => ?_)
  refine xh_cSi C hw (rest := []) h (fun _ hy => c_X12_in hq hy) ml_RX12_81 st_X12_in ⟨rfl, rfl, by decide, by decide⟩ rfl hl.1 rfl (Nat.le_of_ble_eq_true rfl) dX12_isPast_8 (fun H locs r8 M hw h => ?_)
  exact hret dX12_isPast_11 (x_z_nar (x_cz_some h).1) hw (x_cz_some h).2
def f_X12_isDay (M : x_M) (a1 : Int32) : Option (Int32 × x_M) := x_bn (f_X12_in M a1 (nI 0) (nI 1200)) (fun r5 M => x_cz r5 (some (r5, M)))
abbrev rm_X12_isDay : Room := { frames := 1, cells := 0, slots := 0, locals := 22 }
set_option maxHeartbeats 4000000 in
set_option maxRecDepth 100000 in
theorem c_X12_isDay {l : Launch} {D : va_G} {cy : Nat → ClassId} {q ad : Nat → Nat} {s0 : State} (hq : x_Q q 24 s0.heap.size) {M : x_M} {a1 : Int32} {z : Int32 × x_M} (h : f_X12_isDay M a1 = some z) : x_Ci l D cy q ad x_spM 24 s0 yX12_isDay (x_uw yX12_isDay cX12_isDay 1 (some .boolean)) rm_X12_isDay [.int a1] M z.1 z.2 := by
  have hN : 24 ≤ 24 := Nat.le_refl _
  refine x_meti hq (by decide) (Nat.le_of_ble_eq_true rfl) ?_
  intro p e s m args below meth c ls Q C hret hl hw
  have hx := C.1.1
  have hb := C.1.2.1
  have ho := C.1.2.2.2.1
  have hL := C.1.2.2.2.2
  have hl : lv_has ls 1 [(0, .int a1)] := hl
  unfold f_X12_isDay at h
  refine lv_iload_n hx hb dX12_isDay_0 rfl (lv_at hl 0 rfl) ?_
  refine lv_iconst (v := (nI 0)) hx hb dX12_isDay_1 (by decide) ?_
  refine lv_sipush (v := (nI 1200)) hx hb dX12_isDay_2 (by decide) ?_
  refine xh_cSi C hw (rest := []) h (fun _ hy => c_X12_in hq hy) ml_RX12_81 st_X12_in ⟨rfl, rfl, by decide, by decide⟩ rfl hl.1 rfl (Nat.le_of_ble_eq_true rfl) dX12_isDay_5 (fun H locs r5 M hw h => ?_)
  exact hret dX12_isDay_8 (x_z_nar (x_cz_some h).1) hw (x_cz_some h).2
def f_X12_member_20 (M : x_M) : Option (Int32 × x_M) := some ((-1000000001), M)
def f_X12_member (M : x_M) (a1 : Int32) (a2 : Int32) : Option (Int32 × x_M) := x_bn (f_X12_in M a1 (nI 0) (nI 3)) (fun r3 M => if r3 = 0 then f_X12_member_20 M else x_bn (f_X12_in M a2 (nI 0) (nI 4095)) (fun r14 M => if r14 = 0 then f_X12_member_20 M else x_rd 5512 (M 1) (nI 4) (fun r28 => if r28 = (nI 10) then some ((-1000000003), M) else x_rd 5512 (M 1) (nI 4) (fun r45 => x_wr 5512 M 1 ((nI 20) + ((nI 3) * r45)) a1 (fun M => x_wr 5512 M 1 (((nI 20) + ((nI 3) * r45)) + (nI 1)) a2 (fun M => x_wr 5512 M 1 (((nI 20) + ((nI 3) * r45)) + (nI 2)) (-1) (fun M => x_rd 5512 (M 1) (nI 4) (fun r80 => x_wr 5512 M 1 (nI 4) (r80 + (nI 1)) (fun M => x_rd 5512 (M 1) (nI 4) (fun r89 => some ((r89 - (nI 1)), M)))))))))))
abbrev rm_X12_member : Room := { frames := 1, cells := 0, slots := 0, locals := 22 }
set_option maxHeartbeats 4000000 in
set_option maxRecDepth 100000 in
theorem c_X12_member {l : Launch} {D : va_G} {cy : Nat → ClassId} {q ad : Nat → Nat} {s0 : State} (hq : x_Q q 24 s0.heap.size) {M : x_M} {a1 : Int32} {a2 : Int32} {z : Int32 × x_M} (h : f_X12_member M a1 a2 = some z) : x_Ci l D cy q ad x_spM 24 s0 yX12_member (x_uw yX12_member cX12_member 4 (some .int)) rm_X12_member [.ref (q 0), .int a1, .int a2] M z.1 z.2 := by
  have hN : 24 ≤ 24 := Nat.le_refl _
  refine x_meti hq (by decide) (Nat.le_of_ble_eq_true rfl) ?_
  intro p e s m args below meth c ls Q C hret hl hw
  have hx := C.1.1
  have hb := C.1.2.1
  have ho := C.1.2.2.2.1
  have hL := C.1.2.2.2.2
  have hl : lv_has ls 4 [(0, .ref (q 0)), (1, .int a1), (2, .int a2)] := hl
  have w20 : ∀ (M : x_M) (H : Heap) (locs : List Loc) (ls : Array Slot), x_B D cy q ad x_spM 24 s H locs M → lv_has ls 4 [] → f_X12_member_20 M = some z → W p l e rm_X12_member s m args below meth c H locs 0 0 Q (F0 m 20 ls []) := by
    intro M H locs ls hw hl h
    unfold f_X12_member_20 at h
    refine lv_ldc hx hb ho (hL _ kc_RX12_85) dX12_member_20 ?_
    exact hret dX12_member_22 rfl hw h
  unfold f_X12_member at h
  refine lv_iload_n hx hb dX12_member_0 rfl (lv_at hl 1 rfl) ?_
  refine lv_iconst (v := (nI 0)) hx hb dX12_member_1 (by decide) ?_
  refine lv_iconst (v := (nI 3)) hx hb dX12_member_2 (by decide) ?_
  refine xh_cSi C hw (rest := []) h (fun _ hy => c_X12_in hq hy) ml_RX12_81 st_X12_in ⟨rfl, rfl, by decide, by decide⟩ rfl hl.1 rfl (Nat.le_of_ble_eq_true rfl) dX12_member_3 (fun H locs r3 M hw h => ?_)
  refine x_if_eq (tgt := 20) hx hb h dX12_member_6 (by decide) (fun h => ?_) (fun h => ?_)
  · exact w20 _ _ _ _ hw (lv_sub hl [] rfl) h
  · refine lv_iload_n hx hb dX12_member_9 rfl (lv_at hl 2 rfl) ?_
    refine lv_iconst (v := (nI 0)) hx hb dX12_member_10 (by decide) ?_
    refine lv_sipush (v := (nI 4095)) hx hb dX12_member_11 (by decide) ?_
    refine xh_cSi C hw (rest := []) h (fun _ hy => c_X12_in hq hy) ml_RX12_81 st_X12_in ⟨rfl, rfl, by decide, by decide⟩ rfl hl.1 rfl (Nat.le_of_ble_eq_true rfl) dX12_member_14 (fun H locs r14 M hw h => ?_)
    refine x_if_ne (tgt := 23) hx hb h dX12_member_17 (by decide) (fun h => ?_) (fun h => ?_)
    · exact w20 _ _ _ _ hw (lv_sub hl [] rfl) h
    · refine lv_aload_n hx hb dX12_member_23 rfl (lv_at hl 0 rfl) ?_
      refine xh_getr C hw 0 0 sM_0 (x_lt hN rfl) rfl rfl rfl lk_RX12_7 dX12_member_24 ?_
      refine lv_iconst (v := (nI 4)) hx hb dX12_member_27 (by decide) ?_
      refine xh_iald C hw 1 5512 h sM_1 (x_lt hN rfl) dX12_member_28 (fun r28 h => ?_)
      refine lv_bipush (v := (nI 10)) hx hb dX12_member_29 (by decide) ?_
      refine x_icmp_ne (tgt := 37) hx hb h dX12_member_31 (by decide) (fun h => ?_) (fun h => ?_)
      · refine lv_ldc hx hb ho (hL _ kc_RX12_86) dX12_member_34 ?_
        exact hret dX12_member_36 rfl hw h
      · refine lv_bipush (v := (nI 20)) hx hb dX12_member_37 (by decide) ?_
        refine lv_iconst (v := (nI 3)) hx hb dX12_member_39 (by decide) ?_
        refine lv_aload_n hx hb dX12_member_40 rfl (lv_at hl 0 rfl) ?_
        refine xh_getr C hw 0 0 sM_0 (x_lt hN rfl) rfl rfl rfl lk_RX12_7 dX12_member_41 ?_
        refine lv_iconst (v := (nI 4)) hx hb dX12_member_44 (by decide) ?_
        refine xh_iald C hw 1 5512 h sM_1 (x_lt hN rfl) dX12_member_45 (fun r45 h => ?_)
        refine lv_imul hx hb dX12_member_46 ?_
        refine lv_iadd hx hb dX12_member_47 ?_
        refine lv_istore_n (lv' := [(3, .int _), (0, .ref (q 0)), (1, .int _), (2, .int _)]) hx hb dX12_member_48 rfl hl (by decide) rfl (fun ls hl => ?_)
        refine lv_aload_n hx hb dX12_member_49 rfl (lv_at hl 1 rfl) ?_
        refine xh_getr C hw 0 0 sM_0 (x_lt hN rfl) rfl rfl rfl lk_RX12_7 dX12_member_50 ?_
        refine lv_iload_n hx hb dX12_member_53 rfl (lv_at hl 0 rfl) ?_
        refine lv_iload_n hx hb dX12_member_54 rfl (lv_at hl 2 rfl) ?_
        refine xh_iast C hw 1 5512 h sM_1 (x_lt hN rfl) dX12_member_55 (fun H locs M hw h => ?_)
        refine lv_aload_n hx hb dX12_member_56 rfl (lv_at hl 1 rfl) ?_
        refine xh_getr C hw 0 0 sM_0 (x_lt hN rfl) rfl rfl rfl lk_RX12_7 dX12_member_57 ?_
        refine lv_iload_n hx hb dX12_member_60 rfl (lv_at hl 0 rfl) ?_
        refine lv_iconst (v := (nI 1)) hx hb dX12_member_61 (by decide) ?_
        refine lv_iadd hx hb dX12_member_62 ?_
        refine lv_iload_n hx hb dX12_member_63 rfl (lv_at hl 3 rfl) ?_
        refine xh_iast C hw 1 5512 h sM_1 (x_lt hN rfl) dX12_member_64 (fun H locs M hw h => ?_)
        refine lv_aload_n hx hb dX12_member_65 rfl (lv_at hl 1 rfl) ?_
        refine xh_getr C hw 0 0 sM_0 (x_lt hN rfl) rfl rfl rfl lk_RX12_7 dX12_member_66 ?_
        refine lv_iload_n hx hb dX12_member_69 rfl (lv_at hl 0 rfl) ?_
        refine lv_iconst (v := (nI 2)) hx hb dX12_member_70 (by decide) ?_
        refine lv_iadd hx hb dX12_member_71 ?_
        refine lv_iconst (v := (-1)) hx hb dX12_member_72 (by decide) ?_
        refine xh_iast C hw 1 5512 h sM_1 (x_lt hN rfl) dX12_member_73 (fun H locs M hw h => ?_)
        refine lv_aload_n hx hb dX12_member_74 rfl (lv_at hl 1 rfl) ?_
        refine xh_getr C hw 0 0 sM_0 (x_lt hN rfl) rfl rfl rfl lk_RX12_7 dX12_member_75 ?_
        refine lv_iconst (v := (nI 4)) hx hb dX12_member_78 (by decide) ?_
        refine lv_dup2_11 hx hb dX12_member_79 rfl rfl ?_
        refine xh_iald C hw 1 5512 h sM_1 (x_lt hN rfl) dX12_member_80 (fun r80 h => ?_)
        refine lv_iconst (v := (nI 1)) hx hb dX12_member_81 (by decide) ?_
        refine lv_iadd hx hb dX12_member_82 ?_
        refine xh_iast C hw 1 5512 h sM_1 (x_lt hN rfl) dX12_member_83 (fun H locs M hw h => ?_)
        refine lv_aload_n hx hb dX12_member_84 rfl (lv_at hl 1 rfl) ?_
        refine xh_getr C hw 0 0 sM_0 (x_lt hN rfl) rfl rfl rfl lk_RX12_7 dX12_member_85 ?_
        refine lv_iconst (v := (nI 4)) hx hb dX12_member_88 (by decide) ?_
        refine xh_iald C hw 1 5512 h sM_1 (x_lt hN rfl) dX12_member_89 (fun r89 h => ?_)
        refine lv_iconst (v := (nI 1)) hx hb dX12_member_90 (by decide) ?_
        refine lv_isub hx hb dX12_member_91 ?_
        exact hret dX12_member_92 rfl hw h
def f_X12_is_17 (M : x_M) : Option (Int32 × x_M) := some ((-1000000001), M)
def f_X12_is_51 (M : x_M) : Option (Int32 × x_M) := some ((nI 1), M)
def f_X12_is_55 (M : x_M) : Option (Int32 × x_M) := some ((nI 0), M)
def f_X12_is (M : x_M) (a1 : Int32) (a2 : Int32) : Option (Int32 × x_M) := x_bn (f_X12_isMember M a1) (fun r2 M => if r2 = 0 then f_X12_is_17 M else x_bn (f_X12_in M a2 (nI 0) (nI 3)) (fun r11 M => if r11 = 0 then f_X12_is_17 M else x_rd 5512 (M 1) ((nI 20) + ((nI 3) * a1)) (fun r30 => if a2 = 0 then f_X12_is_51 M else if r30 = a2 then f_X12_is_51 M else if r30 = (nI 3) then if a2 = (nI 2) then f_X12_is_51 M else f_X12_is_55 M else f_X12_is_55 M)))
abbrev rm_X12_is : Room := { frames := 2, cells := 0, slots := 0, locals := 43 }
set_option maxHeartbeats 4000000 in
set_option maxRecDepth 100000 in
theorem c_X12_is {l : Launch} {D : va_G} {cy : Nat → ClassId} {q ad : Nat → Nat} {s0 : State} (hq : x_Q q 24 s0.heap.size) {M : x_M} {a1 : Int32} {a2 : Int32} {z : Int32 × x_M} (h : f_X12_is M a1 a2 = some z) : x_Ci l D cy q ad x_spM 24 s0 yX12_is (x_uw yX12_is cX12_is 4 (some .int)) rm_X12_is [.ref (q 0), .int a1, .int a2] M z.1 z.2 := by
  have hN : 24 ≤ 24 := Nat.le_refl _
  refine x_meti hq (by decide) (Nat.le_of_ble_eq_true rfl) ?_
  intro p e s m args below meth c ls Q C hret hl hw
  have hx := C.1.1
  have hb := C.1.2.1
  have ho := C.1.2.2.2.1
  have hL := C.1.2.2.2.2
  have hl : lv_has ls 4 [(0, .ref (q 0)), (1, .int a1), (2, .int a2)] := hl
  have w17 : ∀ (M : x_M) (H : Heap) (locs : List Loc) (ls : Array Slot), x_B D cy q ad x_spM 24 s H locs M → lv_has ls 4 [] → f_X12_is_17 M = some z → W p l e rm_X12_is s m args below meth c H locs 0 0 Q (F0 m 17 ls []) := by
    intro M H locs ls hw hl h
    unfold f_X12_is_17 at h
    refine lv_ldc hx hb ho (hL _ kc_RX12_85) dX12_is_17 ?_
    exact hret dX12_is_19 rfl hw h
  have w51 : ∀ (M : x_M) (H : Heap) (locs : List Loc) (ls : Array Slot), x_B D cy q ad x_spM 24 s H locs M → lv_has ls 4 [] → f_X12_is_51 M = some z → W p l e rm_X12_is s m args below meth c H locs 0 0 Q (F0 m 51 ls []) := by
    intro M H locs ls hw hl h
    unfold f_X12_is_51 at h
    refine lv_iconst (v := (nI 1)) hx hb dX12_is_51 (by decide) ?_
    refine lv_goto (tgt := 56) hx hb dX12_is_52 (by decide) ?_
    exact hret dX12_is_56 rfl hw h
  have w55 : ∀ (M : x_M) (H : Heap) (locs : List Loc) (ls : Array Slot), x_B D cy q ad x_spM 24 s H locs M → lv_has ls 4 [] → f_X12_is_55 M = some z → W p l e rm_X12_is s m args below meth c H locs 0 0 Q (F0 m 55 ls []) := by
    intro M H locs ls hw hl h
    unfold f_X12_is_55 at h
    refine lv_iconst (v := (nI 0)) hx hb dX12_is_55 (by decide) ?_
    exact hret dX12_is_56 rfl hw h
  unfold f_X12_is at h
  refine lv_aload_n hx hb dX12_is_0 rfl (lv_at hl 0 rfl) ?_
  refine lv_iload_n hx hb dX12_is_1 rfl (lv_at hl 1 rfl) ?_
  refine xh_cVi C hw (rest := []) h (fun _ hy => c_X12_isMember hq hy) ml_RX12_87 mv_X12_isMember sM_0 (x_lt hN rfl) rfl ⟨rfl, rfl, by decide, by decide⟩ rfl hl.1 rfl (Nat.le_of_ble_eq_true rfl) dX12_is_2 (fun H locs r2 M hw h => ?_)
  refine x_if_eq (tgt := 17) hx hb h dX12_is_5 (by decide) (fun h => ?_) (fun h => ?_)
  · exact w17 _ _ _ _ hw (lv_sub hl [] rfl) h
  · refine lv_iload_n hx hb dX12_is_8 rfl (lv_at hl 2 rfl) ?_
    refine lv_iconst (v := (nI 0)) hx hb dX12_is_9 (by decide) ?_
    refine lv_iconst (v := (nI 3)) hx hb dX12_is_10 (by decide) ?_
    refine xh_cSi C hw (rest := []) h (fun _ hy => c_X12_in hq hy) ml_RX12_81 st_X12_in ⟨rfl, rfl, by decide, by decide⟩ rfl hl.1 rfl (Nat.le_of_ble_eq_true rfl) dX12_is_11 (fun H locs r11 M hw h => ?_)
    refine x_if_ne (tgt := 20) hx hb h dX12_is_14 (by decide) (fun h => ?_) (fun h => ?_)
    · exact w17 _ _ _ _ hw (lv_sub hl [] rfl) h
    · refine lv_aload_n hx hb dX12_is_20 rfl (lv_at hl 0 rfl) ?_
      refine xh_getr C hw 0 0 sM_0 (x_lt hN rfl) rfl rfl rfl lk_RX12_7 dX12_is_21 ?_
      refine lv_bipush (v := (nI 20)) hx hb dX12_is_24 (by decide) ?_
      refine lv_iconst (v := (nI 3)) hx hb dX12_is_26 (by decide) ?_
      refine lv_iload_n hx hb dX12_is_27 rfl (lv_at hl 1 rfl) ?_
      refine lv_imul hx hb dX12_is_28 ?_
      refine lv_iadd hx hb dX12_is_29 ?_
      refine xh_iald C hw 1 5512 h sM_1 (x_lt hN rfl) dX12_is_30 (fun r30 h => ?_)
      refine lv_istore_n (lv' := [(3, .int _), (0, .ref (q 0)), (1, .int _), (2, .int _)]) hx hb dX12_is_31 rfl hl (by decide) rfl (fun ls hl => ?_)
      refine lv_iload_n hx hb dX12_is_32 rfl (lv_at hl 3 rfl) ?_
      refine x_if_eq (tgt := 51) hx hb h dX12_is_33 (by decide) (fun h => ?_) (fun h => ?_)
      · exact w51 _ _ _ _ hw (lv_sub hl [] rfl) h
      · refine lv_iload_n hx hb dX12_is_36 rfl (lv_at hl 0 rfl) ?_
        refine lv_iload_n hx hb dX12_is_37 rfl (lv_at hl 3 rfl) ?_
        refine x_icmp_eq (tgt := 51) hx hb h dX12_is_38 (by decide) (fun h => ?_) (fun h => ?_)
        · exact w51 _ _ _ _ hw (lv_sub hl [] rfl) h
        · refine lv_iload_n hx hb dX12_is_41 rfl (lv_at hl 0 rfl) ?_
          refine lv_iconst (v := (nI 3)) hx hb dX12_is_42 (by decide) ?_
          refine x_icmp_ne (tgt := 55) hx hb h dX12_is_43 (by decide) (fun h => ?_) (fun h => ?_)
          · refine lv_iload_n hx hb dX12_is_46 rfl (lv_at hl 3 rfl) ?_
            refine lv_iconst (v := (nI 2)) hx hb dX12_is_47 (by decide) ?_
            refine x_icmp_ne (tgt := 55) hx hb h dX12_is_48 (by decide) (fun h => ?_) (fun h => ?_)
            · exact w51 _ _ _ _ hw (lv_sub hl [] rfl) h
            · exact w55 _ _ _ _ hw (lv_sub hl [] rfl) h
          · exact w55 _ _ _ _ hw (lv_sub hl [] rfl) h
def f_X12_pool_23 (M : x_M) : Option (Int32 × x_M) := some ((-1000000001), M)
def f_X12_pool_59 (M : x_M) (v4 : Int32) (t1 : Int32) (t2 : Int32) : Option (Int32 × x_M) := x_wr 5512 M 1 t1 t2 (fun M => x_bn (f_X12_orNone M v4) (fun r62 M => some (r62, M)))
def f_X12_pool_26 (M : x_M) (v1 : Int32) (v2 : Int32) : Option (Int32 × x_M) := x_rd 5512 (M 1) (((nI 20) + ((nI 3) * v1)) + (nI 2)) (fun r40 => if v2 = (-1000000005) then f_X12_pool_59 M r40 (((nI 20) + ((nI 3) * v1)) + (nI 2)) (-1) else f_X12_pool_59 M r40 (((nI 20) + ((nI 3) * v1)) + (nI 2)) v2)
def f_X12_pool (M : x_M) (a1 : Int32) (a2 : Int32) : Option (Int32 × x_M) := x_bn (f_X12_isMember M a1) (fun r2 M => if r2 = 0 then f_X12_pool_23 M else if a2 = (-1000000005) then f_X12_pool_26 M a1 a2 else x_bn (f_X12_in M a2 (nI 0) (nI 2)) (fun r17 M => if r17 = 0 then f_X12_pool_23 M else f_X12_pool_26 M a1 a2))
abbrev rm_X12_pool : Room := { frames := 2, cells := 0, slots := 0, locals := 43 }
set_option maxHeartbeats 4000000 in
set_option maxRecDepth 100000 in
theorem c_X12_pool {l : Launch} {D : va_G} {cy : Nat → ClassId} {q ad : Nat → Nat} {s0 : State} (hq : x_Q q 24 s0.heap.size) {M : x_M} {a1 : Int32} {a2 : Int32} {z : Int32 × x_M} (h : f_X12_pool M a1 a2 = some z) : x_Ci l D cy q ad x_spM 24 s0 yX12_pool (x_uw yX12_pool cX12_pool 5 (some .int)) rm_X12_pool [.ref (q 0), .int a1, .int a2] M z.1 z.2 := by
  have hN : 24 ≤ 24 := Nat.le_refl _
  refine x_meti hq (by decide) (Nat.le_of_ble_eq_true rfl) ?_
  intro p e s m args below meth c ls Q C hret hl hw
  have hx := C.1.1
  have hb := C.1.2.1
  have ho := C.1.2.2.2.1
  have hL := C.1.2.2.2.2
  have hl : lv_has ls 5 [(0, .ref (q 0)), (1, .int a1), (2, .int a2)] := hl
  have w23 : ∀ (M : x_M) (H : Heap) (locs : List Loc) (ls : Array Slot), x_B D cy q ad x_spM 24 s H locs M → lv_has ls 5 [] → f_X12_pool_23 M = some z → W p l e rm_X12_pool s m args below meth c H locs 0 0 Q (F0 m 23 ls []) := by
    intro M H locs ls hw hl h
    unfold f_X12_pool_23 at h
    refine lv_ldc hx hb ho (hL _ kc_RX12_85) dX12_pool_23 ?_
    exact hret dX12_pool_25 rfl hw h
  have w26 : ∀ (M : x_M) (v1 : Int32) (v2 : Int32) (H : Heap) (locs : List Loc) (ls : Array Slot), x_B D cy q ad x_spM 24 s H locs M → lv_has ls 5 [(0, .ref (q 0)), (1, .int v1), (2, .int v2)] → f_X12_pool_26 M v1 v2 = some z → W p l e rm_X12_pool s m args below meth c H locs 0 0 Q (F0 m 26 ls []) := by
    have w59 : ∀ (M : x_M) (v4 : Int32) (t1 : Int32) (t2 : Int32) (H : Heap) (locs : List Loc) (ls : Array Slot), x_B D cy q ad x_spM 24 s H locs M → lv_has ls 5 [(4, .int v4)] → f_X12_pool_59 M v4 t1 t2 = some z → W p l e rm_X12_pool s m args below meth c H locs 0 0 Q (F0 m 59 ls [.int t2, .int t1, .ref (q 1)]) := by
      intro M v4 t1 t2 H locs ls hw hl h
      unfold f_X12_pool_59 at h
      refine xh_iast C hw 1 5512 h sM_1 (x_lt hN rfl) dX12_pool_59 (fun H locs M hw h => ?_)
      refine lv_iload hx hb dX12_pool_60 (lv_at hl 0 rfl) ?_
      refine xh_cSi C hw (rest := []) h (fun _ hy => c_X12_orNone hq hy) ml_RX12_91 st_X12_orNone ⟨rfl, rfl, by decide, by decide⟩ rfl hl.1 rfl (Nat.le_of_ble_eq_true rfl) dX12_pool_62 (fun H locs r62 M hw h => ?_)
      exact hret dX12_pool_65 rfl hw h
    intro M v1 v2 H locs ls hw hl h
    unfold f_X12_pool_26 at h
    refine lv_bipush (v := (nI 20)) hx hb dX12_pool_26 (by decide) ?_
    refine lv_iconst (v := (nI 3)) hx hb dX12_pool_28 (by decide) ?_
    refine lv_iload_n hx hb dX12_pool_29 rfl (lv_at hl 1 rfl) ?_
    refine lv_imul hx hb dX12_pool_30 ?_
    refine lv_iadd hx hb dX12_pool_31 ?_
    refine lv_iconst (v := (nI 2)) hx hb dX12_pool_32 (by decide) ?_
    refine lv_iadd hx hb dX12_pool_33 ?_
    refine lv_istore_n (lv' := [(3, .int _), (0, .ref (q 0)), (1, .int _), (2, .int _)]) hx hb dX12_pool_34 rfl hl (by decide) rfl (fun ls hl => ?_)
    refine lv_aload_n hx hb dX12_pool_35 rfl (lv_at hl 1 rfl) ?_
    refine xh_getr C hw 0 0 sM_0 (x_lt hN rfl) rfl rfl rfl lk_RX12_7 dX12_pool_36 ?_
    refine lv_iload_n hx hb dX12_pool_39 rfl (lv_at hl 0 rfl) ?_
    refine xh_iald C hw 1 5512 h sM_1 (x_lt hN rfl) dX12_pool_40 (fun r40 h => ?_)
    refine lv_istore (lv' := [(4, .int _), (3, .int _), (0, .ref (q 0)), (1, .int _), (2, .int _)]) hx hb dX12_pool_41 hl (by decide) rfl (fun ls hl => ?_)
    refine lv_aload_n hx hb dX12_pool_43 rfl (lv_at hl 2 rfl) ?_
    refine xh_getr C hw 0 0 sM_0 (x_lt hN rfl) rfl rfl rfl lk_RX12_7 dX12_pool_44 ?_
    refine lv_iload_n hx hb dX12_pool_47 rfl (lv_at hl 1 rfl) ?_
    refine lv_iload_n hx hb dX12_pool_48 rfl (lv_at hl 4 rfl) ?_
    refine lv_ldc hx hb ho (hL _ kc_RX12_80) dX12_pool_49 ?_
    refine x_icmp_ne (tgt := 58) hx hb h dX12_pool_51 (by decide) (fun h => ?_) (fun h => ?_)
    · refine lv_iconst (v := (-1)) hx hb dX12_pool_54 (by decide) ?_
      refine lv_goto (tgt := 59) hx hb dX12_pool_55 (by decide) ?_
      exact w59 _ _ _ _ _ _ _ hw (lv_sub hl [0] rfl) h
    · refine lv_iload_n hx hb dX12_pool_58 rfl (lv_at hl 4 rfl) ?_
      exact w59 _ _ _ _ _ _ _ hw (lv_sub hl [0] rfl) h
  unfold f_X12_pool at h
  refine lv_aload_n hx hb dX12_pool_0 rfl (lv_at hl 0 rfl) ?_
  refine lv_iload_n hx hb dX12_pool_1 rfl (lv_at hl 1 rfl) ?_
  refine xh_cVi C hw (rest := []) h (fun _ hy => c_X12_isMember hq hy) ml_RX12_87 mv_X12_isMember sM_0 (x_lt hN rfl) rfl ⟨rfl, rfl, by decide, by decide⟩ rfl hl.1 rfl (Nat.le_of_ble_eq_true rfl) dX12_pool_2 (fun H locs r2 M hw h => ?_)
  refine x_if_eq (tgt := 23) hx hb h dX12_pool_5 (by decide) (fun h => ?_) (fun h => ?_)
  · exact w23 _ _ _ _ hw (lv_sub hl [] rfl) h
  · refine lv_iload_n hx hb dX12_pool_8 rfl (lv_at hl 2 rfl) ?_
    refine lv_ldc hx hb ho (hL _ kc_RX12_80) dX12_pool_9 ?_
    refine x_icmp_eq (tgt := 26) hx hb h dX12_pool_11 (by decide) (fun h => ?_) (fun h => ?_)
    · exact w26 _ _ _ _ _ _ hw (lv_sub hl [0, 1, 2] rfl) h
    · refine lv_iload_n hx hb dX12_pool_14 rfl (lv_at hl 2 rfl) ?_
      refine lv_iconst (v := (nI 0)) hx hb dX12_pool_15 (by decide) ?_
      refine lv_iconst (v := (nI 2)) hx hb dX12_pool_16 (by decide) ?_
      refine xh_cSi C hw (rest := []) h (fun _ hy => c_X12_in hq hy) ml_RX12_81 st_X12_in ⟨rfl, rfl, by decide, by decide⟩ rfl hl.1 rfl (Nat.le_of_ble_eq_true rfl) dX12_pool_17 (fun H locs r17 M hw h => ?_)
      refine x_if_ne (tgt := 26) hx hb h dX12_pool_20 (by decide) (fun h => ?_) (fun h => ?_)
      · exact w23 _ _ _ _ hw (lv_sub hl [] rfl) h
      · exact w26 _ _ _ _ _ _ hw (lv_sub hl [0, 1, 2] rfl) h
def f_X12_marks_19 (M : x_M) : Option (Int32 × x_M) := some ((-1000000001), M)
def f_X12_marks (M : x_M) (a1 : Int32) (a2 : Int32) : Option (Int32 × x_M) := x_bn (f_X12_isMember M a1) (fun r2 M => if r2 = 0 then f_X12_marks_19 M else x_bn (f_X12_in M a2 (nI 0) (nI 4095)) (fun r13 M => if r13 = 0 then f_X12_marks_19 M else x_rd 5512 (M 1) (((nI 20) + ((nI 3) * a1)) + (nI 1)) (fun r34 => x_wr 5512 M 1 (((nI 20) + ((nI 3) * a1)) + (nI 1)) a2 (fun M => some (r34, M)))))
abbrev rm_X12_marks : Room := { frames := 2, cells := 0, slots := 0, locals := 43 }
set_option maxHeartbeats 4000000 in
set_option maxRecDepth 100000 in
theorem c_X12_marks {l : Launch} {D : va_G} {cy : Nat → ClassId} {q ad : Nat → Nat} {s0 : State} (hq : x_Q q 24 s0.heap.size) {M : x_M} {a1 : Int32} {a2 : Int32} {z : Int32 × x_M} (h : f_X12_marks M a1 a2 = some z) : x_Ci l D cy q ad x_spM 24 s0 yX12_marks (x_uw yX12_marks cX12_marks 4 (some .int)) rm_X12_marks [.ref (q 0), .int a1, .int a2] M z.1 z.2 := by
  have hN : 24 ≤ 24 := Nat.le_refl _
  refine x_meti hq (by decide) (Nat.le_of_ble_eq_true rfl) ?_
  intro p e s m args below meth c ls Q C hret hl hw
  have hx := C.1.1
  have hb := C.1.2.1
  have ho := C.1.2.2.2.1
  have hL := C.1.2.2.2.2
  have hl : lv_has ls 4 [(0, .ref (q 0)), (1, .int a1), (2, .int a2)] := hl
  have w19 : ∀ (M : x_M) (H : Heap) (locs : List Loc) (ls : Array Slot), x_B D cy q ad x_spM 24 s H locs M → lv_has ls 4 [] → f_X12_marks_19 M = some z → W p l e rm_X12_marks s m args below meth c H locs 0 0 Q (F0 m 19 ls []) := by
    intro M H locs ls hw hl h
    unfold f_X12_marks_19 at h
    refine lv_ldc hx hb ho (hL _ kc_RX12_85) dX12_marks_19 ?_
    exact hret dX12_marks_21 rfl hw h
  unfold f_X12_marks at h
  refine lv_aload_n hx hb dX12_marks_0 rfl (lv_at hl 0 rfl) ?_
  refine lv_iload_n hx hb dX12_marks_1 rfl (lv_at hl 1 rfl) ?_
  refine xh_cVi C hw (rest := []) h (fun _ hy => c_X12_isMember hq hy) ml_RX12_87 mv_X12_isMember sM_0 (x_lt hN rfl) rfl ⟨rfl, rfl, by decide, by decide⟩ rfl hl.1 rfl (Nat.le_of_ble_eq_true rfl) dX12_marks_2 (fun H locs r2 M hw h => ?_)
  refine x_if_eq (tgt := 19) hx hb h dX12_marks_5 (by decide) (fun h => ?_) (fun h => ?_)
  · exact w19 _ _ _ _ hw (lv_sub hl [] rfl) h
  · refine lv_iload_n hx hb dX12_marks_8 rfl (lv_at hl 2 rfl) ?_
    refine lv_iconst (v := (nI 0)) hx hb dX12_marks_9 (by decide) ?_
    refine lv_sipush (v := (nI 4095)) hx hb dX12_marks_10 (by decide) ?_
    refine xh_cSi C hw (rest := []) h (fun _ hy => c_X12_in hq hy) ml_RX12_81 st_X12_in ⟨rfl, rfl, by decide, by decide⟩ rfl hl.1 rfl (Nat.le_of_ble_eq_true rfl) dX12_marks_13 (fun H locs r13 M hw h => ?_)
    refine x_if_ne (tgt := 22) hx hb h dX12_marks_16 (by decide) (fun h => ?_) (fun h => ?_)
    · exact w19 _ _ _ _ hw (lv_sub hl [] rfl) h
    · refine lv_aload_n hx hb dX12_marks_22 rfl (lv_at hl 0 rfl) ?_
      refine xh_getr C hw 0 0 sM_0 (x_lt hN rfl) rfl rfl rfl lk_RX12_7 dX12_marks_23 ?_
      refine lv_bipush (v := (nI 20)) hx hb dX12_marks_26 (by decide) ?_
      refine lv_iconst (v := (nI 3)) hx hb dX12_marks_28 (by decide) ?_
      refine lv_iload_n hx hb dX12_marks_29 rfl (lv_at hl 1 rfl) ?_
      refine lv_imul hx hb dX12_marks_30 ?_
      refine lv_iadd hx hb dX12_marks_31 ?_
      refine lv_iconst (v := (nI 1)) hx hb dX12_marks_32 (by decide) ?_
      refine lv_iadd hx hb dX12_marks_33 ?_
      refine xh_iald C hw 1 5512 h sM_1 (x_lt hN rfl) dX12_marks_34 (fun r34 h => ?_)
      refine lv_istore_n (lv' := [(3, .int _), (0, .ref (q 0)), (1, .int _), (2, .int _)]) hx hb dX12_marks_35 rfl hl (by decide) rfl (fun ls hl => ?_)
      refine lv_aload_n hx hb dX12_marks_36 rfl (lv_at hl 1 rfl) ?_
      refine xh_getr C hw 0 0 sM_0 (x_lt hN rfl) rfl rfl rfl lk_RX12_7 dX12_marks_37 ?_
      refine lv_bipush (v := (nI 20)) hx hb dX12_marks_40 (by decide) ?_
      refine lv_iconst (v := (nI 3)) hx hb dX12_marks_42 (by decide) ?_
      refine lv_iload_n hx hb dX12_marks_43 rfl (lv_at hl 2 rfl) ?_
      refine lv_imul hx hb dX12_marks_44 ?_
      refine lv_iadd hx hb dX12_marks_45 ?_
      refine lv_iconst (v := (nI 1)) hx hb dX12_marks_46 (by decide) ?_
      refine lv_iadd hx hb dX12_marks_47 ?_
      refine lv_iload_n hx hb dX12_marks_48 rfl (lv_at hl 3 rfl) ?_
      refine xh_iast C hw 1 5512 h sM_1 (x_lt hN rfl) dX12_marks_49 (fun H locs M hw h => ?_)
      refine lv_iload_n hx hb dX12_marks_50 rfl (lv_at hl 0 rfl) ?_
      exact hret dX12_marks_51 rfl hw h
def f_X12_lay_91 (k43 : x_M → Int32 → Int32 → Int32 → Option (Int32 × x_M)) (M : x_M) (v1 : Int32) (v2 : Int32) (v3 : Int32) (t1 : Int32) (t2 : Int32) : Option (Int32 × x_M) := x_wr 5512 M 1 t1 t2 (fun M => k43 M v1 v2 (v3 + (nI 1)))
def f_X12_lay_43 : Nat → x_M → Int32 → Int32 → Int32 → Option (Int32 × x_M)
  | 0, _, _, _, _ => none
  | n + 1, M, v1, v2, v3 => if v2 ≤ v3 then some (v2, M) else x_rd 32 (M 21) (((nI 16) * v1) + v3) (fun r58 => x_bn (f_X12_in M r58 (nI 0) (nI 4095)) (fun r79 M => if r79 = 0 then f_X12_lay_91 (f_X12_lay_43 n) M v1 v2 v3 (((nI 20) + ((nI 3) * v3)) + (nI 1)) (nI 0) else f_X12_lay_91 (f_X12_lay_43 n) M v1 v2 v3 (((nI 20) + ((nI 3) * v3)) + (nI 1)) r58))
theorem f_X12_lay_43_0 (M : x_M) (v1 : Int32) (v2 : Int32) (v3 : Int32) : f_X12_lay_43 0 M v1 v2 v3 = none := rfl
theorem f_X12_lay_43_s (n : Nat) (M : x_M) (v1 : Int32) (v2 : Int32) (v3 : Int32) : f_X12_lay_43 (n + 1) M v1 v2 v3 = (if v2 ≤ v3 then some (v2, M) else x_rd 32 (M 21) (((nI 16) * v1) + v3) (fun r58 => x_bn (f_X12_in M r58 (nI 0) (nI 4095)) (fun r79 M => if r79 = 0 then f_X12_lay_91 (f_X12_lay_43 n) M v1 v2 v3 (((nI 20) + ((nI 3) * v3)) + (nI 1)) (nI 0) else f_X12_lay_91 (f_X12_lay_43 n) M v1 v2 v3 (((nI 20) + ((nI 3) * v3)) + (nI 1)) r58))) := rfl
def f_X12_lay (M : x_M) (a1 : Int32) : Option (Int32 × x_M) := x_bn (f_X12_in M a1 (nI 0) (nI 1)) (fun r3 M => if r3 = 0 then some ((-1000000001), M) else x_rd 2 (M 22) a1 (fun r17 => if r17 = (-1) then some ((-1000000011), M) else x_rd 2 (M 22) a1 (fun r30 => x_rd 5512 (M 1) (nI 4) (fun r36 => x_bn (f_X12_less M r30 r36) (fun r37 M => f_X12_lay_43 x_FU M a1 r37 (nI 0))))))
abbrev rm_X12_lay : Room := { frames := 1, cells := 0, slots := 0, locals := 22 }
set_option maxHeartbeats 4000000 in
set_option maxRecDepth 100000 in
theorem c_X12_lay {l : Launch} {D : va_G} {cy : Nat → ClassId} {q ad : Nat → Nat} {s0 : State} (hq : x_Q q 24 s0.heap.size) {M : x_M} {a1 : Int32} {z : Int32 × x_M} (h : f_X12_lay M a1 = some z) : x_Ci l D cy q ad x_spM 24 s0 yX12_lay (x_uw yX12_lay cX12_lay 5 (some .int)) rm_X12_lay [.ref (q 0), .int a1] M z.1 z.2 := by
  have hN : 24 ≤ 24 := Nat.le_refl _
  refine x_meti hq (by decide) (Nat.le_of_ble_eq_true rfl) ?_
  intro p e s m args below meth c ls Q C hret hl hw
  have hx := C.1.1
  have hb := C.1.2.1
  have ho := C.1.2.2.2.1
  have hL := C.1.2.2.2.2
  have hl : lv_has ls 5 [(0, .ref (q 0)), (1, .int a1)] := hl
  have w43 : ∀ (n : Nat) (M : x_M) (v1 : Int32) (v2 : Int32) (v3 : Int32) (H : Heap) (locs : List Loc) (ls : Array Slot), x_B D cy q ad x_spM 24 s H locs M → lv_has ls 5 [(0, .ref (q 0)), (1, .int v1), (2, .int v2), (3, .int v3)] → f_X12_lay_43 n M v1 v2 v3 = some z → W p l e rm_X12_lay s m args below meth c H locs 0 0 Q (F0 m 43 ls []) := by
    intro n
    induction n with
    | zero =>
      intro M v1 v2 v3 H locs ls hw hl h
      rw [f_X12_lay_43_0] at h
      cases h
    | succ n43 ih43 =>
      have w91 : ∀ (M : x_M) (v1 : Int32) (v2 : Int32) (v3 : Int32) (t1 : Int32) (t2 : Int32) (H : Heap) (locs : List Loc) (ls : Array Slot), x_B D cy q ad x_spM 24 s H locs M → lv_has ls 5 [(0, .ref (q 0)), (1, .int v1), (2, .int v2), (3, .int v3)] → f_X12_lay_91 (f_X12_lay_43 n43) M v1 v2 v3 t1 t2 = some z → W p l e rm_X12_lay s m args below meth c H locs 0 0 Q (F0 m 91 ls [.int t2, .int t1, .ref (q 1)]) := by
        intro M v1 v2 v3 t1 t2 H locs ls hw hl h
        unfold f_X12_lay_91 at h
        refine xh_iast C hw 1 5512 h sM_1 (x_lt hN rfl) dX12_lay_91 (fun H locs M hw h => ?_)
        refine lv_iinc (lv' := [(3, .int _), (0, .ref (q 0)), (1, .int _), (2, .int _)]) hx hb dX12_lay_92 hl (k := 3) rfl (x_inc (show Int32.ofInt 1 = (nI 1) by decide) _) (by decide) rfl (fun ls hl => ?_)
        refine lv_goto (tgt := 43) hx hb dX12_lay_95 (by decide) ?_
        exact ih43 _ _ _ _ _ _ _ hw (lv_sub hl [1, 2, 3, 0] rfl) h
      intro M v1 v2 v3 H locs ls hw hl h
      rw [f_X12_lay_43_s] at h
      refine lv_iload_n hx hb dX12_lay_43 rfl (lv_at hl 3 rfl) ?_
      refine lv_iload_n hx hb dX12_lay_44 rfl (lv_at hl 2 rfl) ?_
      refine x_icmp_ge (tgt := 98) hx hb h dX12_lay_45 (by decide) (fun h => ?_) (fun h => ?_)
      · refine lv_iload_n hx hb dX12_lay_98 rfl (lv_at hl 2 rfl) ?_
        exact hret dX12_lay_99 rfl hw h
      · refine lv_aload_n hx hb dX12_lay_48 rfl (lv_at hl 0 rfl) ?_
        refine xh_getr C hw 0 36 sM_0 (x_lt hN rfl) rfl rfl rfl lk_RX12_71 dX12_lay_49 ?_
        refine lv_bipush (v := (nI 16)) hx hb dX12_lay_52 (by decide) ?_
        refine lv_iload_n hx hb dX12_lay_54 rfl (lv_at hl 1 rfl) ?_
        refine lv_imul hx hb dX12_lay_55 ?_
        refine lv_iload_n hx hb dX12_lay_56 rfl (lv_at hl 3 rfl) ?_
        refine lv_iadd hx hb dX12_lay_57 ?_
        refine xh_iald C hw 21 32 h sM_21 (x_lt hN rfl) dX12_lay_58 (fun r58 h => ?_)
        refine lv_istore (lv' := [(4, .int _), (0, .ref (q 0)), (1, .int _), (2, .int _), (3, .int _)]) hx hb dX12_lay_59 hl (by decide) rfl (fun ls hl => ?_)
        refine lv_aload_n hx hb dX12_lay_61 rfl (lv_at hl 1 rfl) ?_
        refine xh_getr C hw 0 0 sM_0 (x_lt hN rfl) rfl rfl rfl lk_RX12_7 dX12_lay_62 ?_
        refine lv_bipush (v := (nI 20)) hx hb dX12_lay_65 (by decide) ?_
        refine lv_iconst (v := (nI 3)) hx hb dX12_lay_67 (by decide) ?_
        refine lv_iload_n hx hb dX12_lay_68 rfl (lv_at hl 4 rfl) ?_
        refine lv_imul hx hb dX12_lay_69 ?_
        refine lv_iadd hx hb dX12_lay_70 ?_
        refine lv_iconst (v := (nI 1)) hx hb dX12_lay_71 (by decide) ?_
        refine lv_iadd hx hb dX12_lay_72 ?_
        refine lv_iload hx hb dX12_lay_73 (lv_at hl 0 rfl) ?_
        refine lv_iconst (v := (nI 0)) hx hb dX12_lay_75 (by decide) ?_
        refine lv_sipush (v := (nI 4095)) hx hb dX12_lay_76 (by decide) ?_
        refine xh_cSi C hw (rest := [_, _]) h (fun _ hy => c_X12_in hq hy) ml_RX12_81 st_X12_in ⟨rfl, rfl, by decide, by decide⟩ rfl hl.1 rfl (Nat.le_of_ble_eq_true rfl) dX12_lay_79 (fun H locs r79 M hw h => ?_)
        refine x_if_eq (tgt := 90) hx hb h dX12_lay_82 (by decide) (fun h => ?_) (fun h => ?_)
        · refine lv_iconst (v := (nI 0)) hx hb dX12_lay_90 (by decide) ?_
          exact w91 _ _ _ _ _ _ _ _ _ hw (lv_sub hl [1, 2, 3, 4] rfl) h
        · refine lv_iload hx hb dX12_lay_85 (lv_at hl 0 rfl) ?_
          refine lv_goto (tgt := 91) hx hb dX12_lay_87 (by decide) ?_
          exact w91 _ _ _ _ _ _ _ _ _ hw (lv_sub hl [1, 2, 3, 4] rfl) h
  unfold f_X12_lay at h
  refine lv_iload_n hx hb dX12_lay_0 rfl (lv_at hl 1 rfl) ?_
  refine lv_iconst (v := (nI 0)) hx hb dX12_lay_1 (by decide) ?_
  refine lv_iconst (v := (nI 1)) hx hb dX12_lay_2 (by decide) ?_
  refine xh_cSi C hw (rest := []) h (fun _ hy => c_X12_in hq hy) ml_RX12_81 st_X12_in ⟨rfl, rfl, by decide, by decide⟩ rfl hl.1 rfl (Nat.le_of_ble_eq_true rfl) dX12_lay_3 (fun H locs r3 M hw h => ?_)
  refine x_if_ne (tgt := 12) hx hb h dX12_lay_6 (by decide) (fun h => ?_) (fun h => ?_)
  · refine lv_ldc hx hb ho (hL _ kc_RX12_85) dX12_lay_9 ?_
    exact hret dX12_lay_11 rfl hw h
  · refine lv_aload_n hx hb dX12_lay_12 rfl (lv_at hl 0 rfl) ?_
    refine xh_getr C hw 0 37 sM_0 (x_lt hN rfl) rfl rfl rfl lk_RX12_74 dX12_lay_13 ?_
    refine lv_iload_n hx hb dX12_lay_16 rfl (lv_at hl 1 rfl) ?_
    refine xh_iald C hw 22 2 h sM_22 (x_lt hN rfl) dX12_lay_17 (fun r17 h => ?_)
    refine lv_iconst (v := (-1)) hx hb dX12_lay_18 (by decide) ?_
    refine x_icmp_ne (tgt := 25) hx hb h dX12_lay_19 (by decide) (fun h => ?_) (fun h => ?_)
    · refine lv_ldc hx hb ho (hL _ kc_RX12_95) dX12_lay_22 ?_
      exact hret dX12_lay_24 rfl hw h
    · refine lv_aload_n hx hb dX12_lay_25 rfl (lv_at hl 0 rfl) ?_
      refine xh_getr C hw 0 37 sM_0 (x_lt hN rfl) rfl rfl rfl lk_RX12_74 dX12_lay_26 ?_
      refine lv_iload_n hx hb dX12_lay_29 rfl (lv_at hl 1 rfl) ?_
      refine xh_iald C hw 22 2 h sM_22 (x_lt hN rfl) dX12_lay_30 (fun r30 h => ?_)
      refine lv_aload_n hx hb dX12_lay_31 rfl (lv_at hl 0 rfl) ?_
      refine xh_getr C hw 0 0 sM_0 (x_lt hN rfl) rfl rfl rfl lk_RX12_7 dX12_lay_32 ?_
      refine lv_iconst (v := (nI 4)) hx hb dX12_lay_35 (by decide) ?_
      refine xh_iald C hw 1 5512 h sM_1 (x_lt hN rfl) dX12_lay_36 (fun r36 h => ?_)
      refine xh_cSi C hw (rest := []) h (fun _ hy => c_X12_less hq hy) ml_RX12_96 st_X12_less ⟨rfl, rfl, by decide, by decide⟩ rfl hl.1 rfl (Nat.le_of_ble_eq_true rfl) dX12_lay_37 (fun H locs r37 M hw h => ?_)
      refine lv_istore_n (lv' := [(2, .int _), (0, .ref (q 0)), (1, .int _)]) hx hb dX12_lay_40 rfl hl (by decide) rfl (fun ls hl => ?_)
      refine lv_iconst (v := (nI 0)) hx hb dX12_lay_41 (by decide) ?_
      refine lv_istore_n (lv' := [(3, .int _), (2, .int _), (0, .ref (q 0)), (1, .int _)]) hx hb dX12_lay_42 rfl hl (by decide) rfl (fun ls hl => ?_)
      exact w43 _ _ _ _ _ _ _ _ hw (lv_sub hl [2, 3, 1, 0] rfl) h
def f_X12_days_24 (M : x_M) : Option (Int32 × x_M) := some ((-1000000001), M)
def f_X12_days (M : x_M) (a1 : Int32) : Option (Int32 × x_M) := x_bn (f_X12_in M a1 (nI 1) (nI 100)) (fun r4 M => if r4 = 0 then f_X12_days_24 M else x_rd 5512 (M 1) (nI 0) (fun r15 => if (r15 + a1) ≤ (nI 1200) then x_rd 5512 (M 1) (nI 0) (fun r33 => x_wr 5512 M 1 (nI 0) (r33 + a1) (fun M => x_rd 5512 (M 1) (nI 0) (fun r42 => some (r42, M)))) else f_X12_days_24 M))
abbrev rm_X12_days : Room := { frames := 1, cells := 0, slots := 0, locals := 22 }
set_option maxHeartbeats 4000000 in
set_option maxRecDepth 100000 in
theorem c_X12_days {l : Launch} {D : va_G} {cy : Nat → ClassId} {q ad : Nat → Nat} {s0 : State} (hq : x_Q q 24 s0.heap.size) {M : x_M} {a1 : Int32} {z : Int32 × x_M} (h : f_X12_days M a1 = some z) : x_Ci l D cy q ad x_spM 24 s0 yX12_days (x_uw yX12_days cX12_days 2 (some .int)) rm_X12_days [.ref (q 0), .int a1] M z.1 z.2 := by
  have hN : 24 ≤ 24 := Nat.le_refl _
  refine x_meti hq (by decide) (Nat.le_of_ble_eq_true rfl) ?_
  intro p e s m args below meth c ls Q C hret hl hw
  have hx := C.1.1
  have hb := C.1.2.1
  have ho := C.1.2.2.2.1
  have hL := C.1.2.2.2.2
  have hl : lv_has ls 2 [(0, .ref (q 0)), (1, .int a1)] := hl
  have w24 : ∀ (M : x_M) (H : Heap) (locs : List Loc) (ls : Array Slot), x_B D cy q ad x_spM 24 s H locs M → lv_has ls 2 [] → f_X12_days_24 M = some z → W p l e rm_X12_days s m args below meth c H locs 0 0 Q (F0 m 24 ls []) := by
    intro M H locs ls hw hl h
    unfold f_X12_days_24 at h
    refine lv_ldc hx hb ho (hL _ kc_RX12_85) dX12_days_24 ?_
    exact hret dX12_days_26 rfl hw h
  unfold f_X12_days at h
  refine lv_iload_n hx hb dX12_days_0 rfl (lv_at hl 1 rfl) ?_
  refine lv_iconst (v := (nI 1)) hx hb dX12_days_1 (by decide) ?_
  refine lv_bipush (v := (nI 100)) hx hb dX12_days_2 (by decide) ?_
  refine xh_cSi C hw (rest := []) h (fun _ hy => c_X12_in hq hy) ml_RX12_81 st_X12_in ⟨rfl, rfl, by decide, by decide⟩ rfl hl.1 rfl (Nat.le_of_ble_eq_true rfl) dX12_days_4 (fun H locs r4 M hw h => ?_)
  refine x_if_eq (tgt := 24) hx hb h dX12_days_7 (by decide) (fun h => ?_) (fun h => ?_)
  · exact w24 _ _ _ _ hw (lv_sub hl [] rfl) h
  · refine lv_aload_n hx hb dX12_days_10 rfl (lv_at hl 0 rfl) ?_
    refine xh_getr C hw 0 0 sM_0 (x_lt hN rfl) rfl rfl rfl lk_RX12_7 dX12_days_11 ?_
    refine lv_iconst (v := (nI 0)) hx hb dX12_days_14 (by decide) ?_
    refine xh_iald C hw 1 5512 h sM_1 (x_lt hN rfl) dX12_days_15 (fun r15 h => ?_)
    refine lv_iload_n hx hb dX12_days_16 rfl (lv_at hl 1 rfl) ?_
    refine lv_iadd hx hb dX12_days_17 ?_
    refine lv_sipush (v := (nI 1200)) hx hb dX12_days_18 (by decide) ?_
    refine x_icmp_le (tgt := 27) hx hb h dX12_days_21 (by decide) (fun h => ?_) (fun h => ?_)
    · refine lv_aload_n hx hb dX12_days_27 rfl (lv_at hl 0 rfl) ?_
      refine xh_getr C hw 0 0 sM_0 (x_lt hN rfl) rfl rfl rfl lk_RX12_7 dX12_days_28 ?_
      refine lv_iconst (v := (nI 0)) hx hb dX12_days_31 (by decide) ?_
      refine lv_dup2_11 hx hb dX12_days_32 rfl rfl ?_
      refine xh_iald C hw 1 5512 h sM_1 (x_lt hN rfl) dX12_days_33 (fun r33 h => ?_)
      refine lv_iload_n hx hb dX12_days_34 rfl (lv_at hl 1 rfl) ?_
      refine lv_iadd hx hb dX12_days_35 ?_
      refine xh_iast C hw 1 5512 h sM_1 (x_lt hN rfl) dX12_days_36 (fun H locs M hw h => ?_)
      refine lv_aload_n hx hb dX12_days_37 rfl (lv_at hl 0 rfl) ?_
      refine xh_getr C hw 0 0 sM_0 (x_lt hN rfl) rfl rfl rfl lk_RX12_7 dX12_days_38 ?_
      refine lv_iconst (v := (nI 0)) hx hb dX12_days_41 (by decide) ?_
      refine xh_iald C hw 1 5512 h sM_1 (x_lt hN rfl) dX12_days_42 (fun r42 h => ?_)
      exact hret dX12_days_43 rfl hw h
    · exact w24 _ _ _ _ hw (lv_sub hl [] rfl) h
def f_X12_rule_39 (M : x_M) : Option (Int32 × x_M) := some ((-1000000001), M)
def f_X12_rule_33 (M : x_M) (v1 : Int32) (v2 : Int32) (t0 : Int32) (t1 : Int32) (t2 : Int32) : Option (Int32 × x_M) := x_bn (f_X12_in M t0 t1 t2) (fun r33 M => if r33 = 0 then f_X12_rule_39 M else x_rd 5512 (M 1) ((nI 1) + v1) (fun r49 => x_wr 5512 M 1 ((nI 1) + v1) v2 (fun M => some (r49, M))))
def f_X12_rule_20 (M : x_M) (v1 : Int32) (v2 : Int32) (t0 : Int32) (t1 : Int32) : Option (Int32 × x_M) := if v1 = 0 then f_X12_rule_33 M v1 v2 t0 t1 (nI 360) else f_X12_rule_33 M v1 v2 t0 t1 (nI 999)
def f_X12_rule (M : x_M) (a1 : Int32) (a2 : Int32) : Option (Int32 × x_M) := x_bn (f_X12_in M a1 (nI 0) (nI 2)) (fun r3 M => if r3 = 0 then f_X12_rule_39 M else if a1 = (nI 1) then f_X12_rule_20 M a1 a2 a2 (nI 1) else f_X12_rule_20 M a1 a2 a2 (nI 0))
abbrev rm_X12_rule : Room := { frames := 1, cells := 0, slots := 0, locals := 22 }
set_option maxHeartbeats 4000000 in
set_option maxRecDepth 100000 in
theorem c_X12_rule {l : Launch} {D : va_G} {cy : Nat → ClassId} {q ad : Nat → Nat} {s0 : State} (hq : x_Q q 24 s0.heap.size) {M : x_M} {a1 : Int32} {a2 : Int32} {z : Int32 × x_M} (h : f_X12_rule M a1 a2 = some z) : x_Ci l D cy q ad x_spM 24 s0 yX12_rule (x_uw yX12_rule cX12_rule 4 (some .int)) rm_X12_rule [.ref (q 0), .int a1, .int a2] M z.1 z.2 := by
  have hN : 24 ≤ 24 := Nat.le_refl _
  refine x_meti hq (by decide) (Nat.le_of_ble_eq_true rfl) ?_
  intro p e s m args below meth c ls Q C hret hl hw
  have hx := C.1.1
  have hb := C.1.2.1
  have ho := C.1.2.2.2.1
  have hL := C.1.2.2.2.2
  have hl : lv_has ls 4 [(0, .ref (q 0)), (1, .int a1), (2, .int a2)] := hl
  have w39 : ∀ (M : x_M) (H : Heap) (locs : List Loc) (ls : Array Slot), x_B D cy q ad x_spM 24 s H locs M → lv_has ls 4 [] → f_X12_rule_39 M = some z → W p l e rm_X12_rule s m args below meth c H locs 0 0 Q (F0 m 39 ls []) := by
    intro M H locs ls hw hl h
    unfold f_X12_rule_39 at h
    refine lv_ldc hx hb ho (hL _ kc_RX12_85) dX12_rule_39 ?_
    exact hret dX12_rule_41 rfl hw h
  have w20 : ∀ (M : x_M) (v1 : Int32) (v2 : Int32) (t0 : Int32) (t1 : Int32) (H : Heap) (locs : List Loc) (ls : Array Slot), x_B D cy q ad x_spM 24 s H locs M → lv_has ls 4 [(0, .ref (q 0)), (1, .int v1), (2, .int v2)] → f_X12_rule_20 M v1 v2 t0 t1 = some z → W p l e rm_X12_rule s m args below meth c H locs 0 0 Q (F0 m 20 ls [.int t1, .int t0]) := by
    have w33 : ∀ (M : x_M) (v1 : Int32) (v2 : Int32) (t0 : Int32) (t1 : Int32) (t2 : Int32) (H : Heap) (locs : List Loc) (ls : Array Slot), x_B D cy q ad x_spM 24 s H locs M → lv_has ls 4 [(0, .ref (q 0)), (1, .int v1), (2, .int v2)] → f_X12_rule_33 M v1 v2 t0 t1 t2 = some z → W p l e rm_X12_rule s m args below meth c H locs 0 0 Q (F0 m 33 ls [.int t2, .int t1, .int t0]) := by
      intro M v1 v2 t0 t1 t2 H locs ls hw hl h
      unfold f_X12_rule_33 at h
      refine xh_cSi C hw (rest := []) h (fun _ hy => c_X12_in hq hy) ml_RX12_81 st_X12_in ⟨rfl, rfl, by decide, by decide⟩ rfl hl.1 rfl (Nat.le_of_ble_eq_true rfl) dX12_rule_33 (fun H locs r33 M hw h => ?_)
      refine x_if_ne (tgt := 42) hx hb h dX12_rule_36 (by decide) (fun h => ?_) (fun h => ?_)
      · exact w39 _ _ _ _ hw (lv_sub hl [] rfl) h
      · refine lv_aload_n hx hb dX12_rule_42 rfl (lv_at hl 0 rfl) ?_
        refine xh_getr C hw 0 0 sM_0 (x_lt hN rfl) rfl rfl rfl lk_RX12_7 dX12_rule_43 ?_
        refine lv_iconst (v := (nI 1)) hx hb dX12_rule_46 (by decide) ?_
        refine lv_iload_n hx hb dX12_rule_47 rfl (lv_at hl 1 rfl) ?_
        refine lv_iadd hx hb dX12_rule_48 ?_
        refine xh_iald C hw 1 5512 h sM_1 (x_lt hN rfl) dX12_rule_49 (fun r49 h => ?_)
        refine lv_istore_n (lv' := [(3, .int _), (0, .ref (q 0)), (1, .int _), (2, .int _)]) hx hb dX12_rule_50 rfl hl (by decide) rfl (fun ls hl => ?_)
        refine lv_aload_n hx hb dX12_rule_51 rfl (lv_at hl 1 rfl) ?_
        refine xh_getr C hw 0 0 sM_0 (x_lt hN rfl) rfl rfl rfl lk_RX12_7 dX12_rule_52 ?_
        refine lv_iconst (v := (nI 1)) hx hb dX12_rule_55 (by decide) ?_
        refine lv_iload_n hx hb dX12_rule_56 rfl (lv_at hl 2 rfl) ?_
        refine lv_iadd hx hb dX12_rule_57 ?_
        refine lv_iload_n hx hb dX12_rule_58 rfl (lv_at hl 3 rfl) ?_
        refine xh_iast C hw 1 5512 h sM_1 (x_lt hN rfl) dX12_rule_59 (fun H locs M hw h => ?_)
        refine lv_iload_n hx hb dX12_rule_60 rfl (lv_at hl 0 rfl) ?_
        exact hret dX12_rule_61 rfl hw h
    intro M v1 v2 t0 t1 H locs ls hw hl h
    unfold f_X12_rule_20 at h
    refine lv_iload_n hx hb dX12_rule_20 rfl (lv_at hl 1 rfl) ?_
    refine x_if_ne (tgt := 30) hx hb h dX12_rule_21 (by decide) (fun h => ?_) (fun h => ?_)
    · refine lv_sipush (v := (nI 360)) hx hb dX12_rule_24 (by decide) ?_
      refine lv_goto (tgt := 33) hx hb dX12_rule_27 (by decide) ?_
      exact w33 _ _ _ _ _ _ _ _ _ hw (lv_sub hl [0, 1, 2] rfl) h
    · refine lv_sipush (v := (nI 999)) hx hb dX12_rule_30 (by decide) ?_
      exact w33 _ _ _ _ _ _ _ _ _ hw (lv_sub hl [0, 1, 2] rfl) h
  unfold f_X12_rule at h
  refine lv_iload_n hx hb dX12_rule_0 rfl (lv_at hl 1 rfl) ?_
  refine lv_iconst (v := (nI 0)) hx hb dX12_rule_1 (by decide) ?_
  refine lv_iconst (v := (nI 2)) hx hb dX12_rule_2 (by decide) ?_
  refine xh_cSi C hw (rest := []) h (fun _ hy => c_X12_in hq hy) ml_RX12_81 st_X12_in ⟨rfl, rfl, by decide, by decide⟩ rfl hl.1 rfl (Nat.le_of_ble_eq_true rfl) dX12_rule_3 (fun H locs r3 M hw h => ?_)
  refine x_if_eq (tgt := 39) hx hb h dX12_rule_6 (by decide) (fun h => ?_) (fun h => ?_)
  · exact w39 _ _ _ _ hw (lv_sub hl [] rfl) h
  · refine lv_iload_n hx hb dX12_rule_9 rfl (lv_at hl 2 rfl) ?_
    refine lv_iload_n hx hb dX12_rule_10 rfl (lv_at hl 1 rfl) ?_
    refine lv_iconst (v := (nI 1)) hx hb dX12_rule_11 (by decide) ?_
    refine x_icmp_ne (tgt := 19) hx hb h dX12_rule_12 (by decide) (fun h => ?_) (fun h => ?_)
    · refine lv_iconst (v := (nI 1)) hx hb dX12_rule_15 (by decide) ?_
      refine lv_goto (tgt := 20) hx hb dX12_rule_16 (by decide) ?_
      exact w20 _ _ _ _ _ _ _ _ hw (lv_sub hl [0, 1, 2] rfl) h
    · refine lv_iconst (v := (nI 0)) hx hb dX12_rule_19 (by decide) ?_
      exact w20 _ _ _ _ _ _ _ _ hw (lv_sub hl [0, 1, 2] rfl) h
def f_X12_tells (M : x_M) (a1 : Int32) (a2 : Int32) (a3 : Int32) (a4 : Int32) (a5 : Int32) (a6 : Int32) : Option (Int32 × x_M) := x_rd 5512 (M 1) (nI 5) (fun r9 => x_wr 5512 M 1 ((nI 50) + ((nI 10) * r9)) a1 (fun M => x_wr 5512 M 1 (((nI 50) + ((nI 10) * r9)) + (nI 1)) a2 (fun M => x_wr 5512 M 1 (((nI 50) + ((nI 10) * r9)) + (nI 2)) a3 (fun M => x_rd 5512 (M 1) (nI 0) (fun r55 => x_wr 5512 M 1 (((nI 50) + ((nI 10) * r9)) + (nI 3)) r55 (fun M => x_wr 5512 M 1 (((nI 50) + ((nI 10) * r9)) + (nI 4)) (-1) (fun M => x_wr 5512 M 1 (((nI 50) + ((nI 10) * r9)) + (nI 5)) a4 (fun M => x_wr 5512 M 1 (((nI 50) + ((nI 10) * r9)) + (nI 6)) a5 (fun M => x_wr 5512 M 1 (((nI 50) + ((nI 10) * r9)) + (nI 7)) a6 (fun M => x_rd 5512 (M 1) (nI 5) (fun r108 => x_wr 5512 M 1 (nI 5) (r108 + (nI 1)) (fun M => x_rd 5512 (M 1) (nI 5) (fun r117 => some ((r117 - (nI 1)), M))))))))))))))
abbrev rm_X12_tells : Room := { frames := 0, cells := 0, slots := 0, locals := 0 }
set_option maxHeartbeats 4000000 in
set_option maxRecDepth 100000 in
theorem c_X12_tells {l : Launch} {D : va_G} {cy : Nat → ClassId} {q ad : Nat → Nat} {s0 : State} (hq : x_Q q 24 s0.heap.size) {M : x_M} {a1 : Int32} {a2 : Int32} {a3 : Int32} {a4 : Int32} {a5 : Int32} {a6 : Int32} {z : Int32 × x_M} (h : f_X12_tells M a1 a2 a3 a4 a5 a6 = some z) : x_Ci l D cy q ad x_spM 24 s0 yX12_tells (x_uw yX12_tells cX12_tells 8 (some .int)) rm_X12_tells [.ref (q 0), .int a1, .int a2, .int a3, .int a4, .int a5, .int a6] M z.1 z.2 := by
  have hN : 24 ≤ 24 := Nat.le_refl _
  refine x_meti hq (by decide) (Nat.le_of_ble_eq_true rfl) ?_
  intro p e s m args below meth c ls Q C hret hl hw
  have hx := C.1.1
  have hb := C.1.2.1
  have ho := C.1.2.2.2.1
  have hL := C.1.2.2.2.2
  have hl : lv_has ls 8 [(0, .ref (q 0)), (1, .int a1), (2, .int a2), (3, .int a3), (4, .int a4), (5, .int a5), (6, .int a6)] := hl
  unfold f_X12_tells at h
  refine lv_bipush (v := (nI 50)) hx hb dX12_tells_0 (by decide) ?_
  refine lv_bipush (v := (nI 10)) hx hb dX12_tells_2 (by decide) ?_
  refine lv_aload_n hx hb dX12_tells_4 rfl (lv_at hl 0 rfl) ?_
  refine xh_getr C hw 0 0 sM_0 (x_lt hN rfl) rfl rfl rfl lk_RX12_7 dX12_tells_5 ?_
  refine lv_iconst (v := (nI 5)) hx hb dX12_tells_8 (by decide) ?_
  refine xh_iald C hw 1 5512 h sM_1 (x_lt hN rfl) dX12_tells_9 (fun r9 h => ?_)
  refine lv_imul hx hb dX12_tells_10 ?_
  refine lv_iadd hx hb dX12_tells_11 ?_
  refine lv_istore (lv' := [(7, .int _), (0, .ref (q 0)), (1, .int _), (2, .int _), (3, .int _), (4, .int _), (5, .int _), (6, .int _)]) hx hb dX12_tells_12 hl (by decide) rfl (fun ls hl => ?_)
  refine lv_aload_n hx hb dX12_tells_14 rfl (lv_at hl 1 rfl) ?_
  refine xh_getr C hw 0 0 sM_0 (x_lt hN rfl) rfl rfl rfl lk_RX12_7 dX12_tells_15 ?_
  refine lv_iload hx hb dX12_tells_18 (lv_at hl 0 rfl) ?_
  refine lv_iload_n hx hb dX12_tells_20 rfl (lv_at hl 2 rfl) ?_
  refine xh_iast C hw 1 5512 h sM_1 (x_lt hN rfl) dX12_tells_21 (fun H locs M hw h => ?_)
  refine lv_aload_n hx hb dX12_tells_22 rfl (lv_at hl 1 rfl) ?_
  refine xh_getr C hw 0 0 sM_0 (x_lt hN rfl) rfl rfl rfl lk_RX12_7 dX12_tells_23 ?_
  refine lv_iload hx hb dX12_tells_26 (lv_at hl 0 rfl) ?_
  refine lv_iconst (v := (nI 1)) hx hb dX12_tells_28 (by decide) ?_
  refine lv_iadd hx hb dX12_tells_29 ?_
  refine lv_iload_n hx hb dX12_tells_30 rfl (lv_at hl 3 rfl) ?_
  refine xh_iast C hw 1 5512 h sM_1 (x_lt hN rfl) dX12_tells_31 (fun H locs M hw h => ?_)
  refine lv_aload_n hx hb dX12_tells_32 rfl (lv_at hl 1 rfl) ?_
  refine xh_getr C hw 0 0 sM_0 (x_lt hN rfl) rfl rfl rfl lk_RX12_7 dX12_tells_33 ?_
  refine lv_iload hx hb dX12_tells_36 (lv_at hl 0 rfl) ?_
  refine lv_iconst (v := (nI 2)) hx hb dX12_tells_38 (by decide) ?_
  refine lv_iadd hx hb dX12_tells_39 ?_
  refine lv_iload_n hx hb dX12_tells_40 rfl (lv_at hl 4 rfl) ?_
  refine xh_iast C hw 1 5512 h sM_1 (x_lt hN rfl) dX12_tells_41 (fun H locs M hw h => ?_)
  refine lv_aload_n hx hb dX12_tells_42 rfl (lv_at hl 1 rfl) ?_
  refine xh_getr C hw 0 0 sM_0 (x_lt hN rfl) rfl rfl rfl lk_RX12_7 dX12_tells_43 ?_
  refine lv_iload hx hb dX12_tells_46 (lv_at hl 0 rfl) ?_
  refine lv_iconst (v := (nI 3)) hx hb dX12_tells_48 (by decide) ?_
  refine lv_iadd hx hb dX12_tells_49 ?_
  refine lv_aload_n hx hb dX12_tells_50 rfl (lv_at hl 1 rfl) ?_
  refine xh_getr C hw 0 0 sM_0 (x_lt hN rfl) rfl rfl rfl lk_RX12_7 dX12_tells_51 ?_
  refine lv_iconst (v := (nI 0)) hx hb dX12_tells_54 (by decide) ?_
  refine xh_iald C hw 1 5512 h sM_1 (x_lt hN rfl) dX12_tells_55 (fun r55 h => ?_)
  refine xh_iast C hw 1 5512 h sM_1 (x_lt hN rfl) dX12_tells_56 (fun H locs M hw h => ?_)
  refine lv_aload_n hx hb dX12_tells_57 rfl (lv_at hl 1 rfl) ?_
  refine xh_getr C hw 0 0 sM_0 (x_lt hN rfl) rfl rfl rfl lk_RX12_7 dX12_tells_58 ?_
  refine lv_iload hx hb dX12_tells_61 (lv_at hl 0 rfl) ?_
  refine lv_iconst (v := (nI 4)) hx hb dX12_tells_63 (by decide) ?_
  refine lv_iadd hx hb dX12_tells_64 ?_
  refine lv_iconst (v := (-1)) hx hb dX12_tells_65 (by decide) ?_
  refine xh_iast C hw 1 5512 h sM_1 (x_lt hN rfl) dX12_tells_66 (fun H locs M hw h => ?_)
  refine lv_aload_n hx hb dX12_tells_67 rfl (lv_at hl 1 rfl) ?_
  refine xh_getr C hw 0 0 sM_0 (x_lt hN rfl) rfl rfl rfl lk_RX12_7 dX12_tells_68 ?_
  refine lv_iload hx hb dX12_tells_71 (lv_at hl 0 rfl) ?_
  refine lv_iconst (v := (nI 5)) hx hb dX12_tells_73 (by decide) ?_
  refine lv_iadd hx hb dX12_tells_74 ?_
  refine lv_iload hx hb dX12_tells_75 (lv_at hl 5 rfl) ?_
  refine xh_iast C hw 1 5512 h sM_1 (x_lt hN rfl) dX12_tells_77 (fun H locs M hw h => ?_)
  refine lv_aload_n hx hb dX12_tells_78 rfl (lv_at hl 1 rfl) ?_
  refine xh_getr C hw 0 0 sM_0 (x_lt hN rfl) rfl rfl rfl lk_RX12_7 dX12_tells_79 ?_
  refine lv_iload hx hb dX12_tells_82 (lv_at hl 0 rfl) ?_
  refine lv_bipush (v := (nI 6)) hx hb dX12_tells_84 (by decide) ?_
  refine lv_iadd hx hb dX12_tells_86 ?_
  refine lv_iload hx hb dX12_tells_87 (lv_at hl 6 rfl) ?_
  refine xh_iast C hw 1 5512 h sM_1 (x_lt hN rfl) dX12_tells_89 (fun H locs M hw h => ?_)
  refine lv_aload_n hx hb dX12_tells_90 rfl (lv_at hl 1 rfl) ?_
  refine xh_getr C hw 0 0 sM_0 (x_lt hN rfl) rfl rfl rfl lk_RX12_7 dX12_tells_91 ?_
  refine lv_iload hx hb dX12_tells_94 (lv_at hl 0 rfl) ?_
  refine lv_bipush (v := (nI 7)) hx hb dX12_tells_96 (by decide) ?_
  refine lv_iadd hx hb dX12_tells_98 ?_
  refine lv_iload hx hb dX12_tells_99 (lv_at hl 7 rfl) ?_
  refine xh_iast C hw 1 5512 h sM_1 (x_lt hN rfl) dX12_tells_101 (fun H locs M hw h => ?_)
  refine lv_aload_n hx hb dX12_tells_102 rfl (lv_at hl 1 rfl) ?_
  refine xh_getr C hw 0 0 sM_0 (x_lt hN rfl) rfl rfl rfl lk_RX12_7 dX12_tells_103 ?_
  refine lv_iconst (v := (nI 5)) hx hb dX12_tells_106 (by decide) ?_
  refine lv_dup2_11 hx hb dX12_tells_107 rfl rfl ?_
  refine xh_iald C hw 1 5512 h sM_1 (x_lt hN rfl) dX12_tells_108 (fun r108 h => ?_)
  refine lv_iconst (v := (nI 1)) hx hb dX12_tells_109 (by decide) ?_
  refine lv_iadd hx hb dX12_tells_110 ?_
  refine xh_iast C hw 1 5512 h sM_1 (x_lt hN rfl) dX12_tells_111 (fun H locs M hw h => ?_)
  refine lv_aload_n hx hb dX12_tells_112 rfl (lv_at hl 1 rfl) ?_
  refine xh_getr C hw 0 0 sM_0 (x_lt hN rfl) rfl rfl rfl lk_RX12_7 dX12_tells_113 ?_
  refine lv_iconst (v := (nI 5)) hx hb dX12_tells_116 (by decide) ?_
  refine xh_iald C hw 1 5512 h sM_1 (x_lt hN rfl) dX12_tells_117 (fun r117 h => ?_)
  refine lv_iconst (v := (nI 1)) hx hb dX12_tells_118 (by decide) ?_
  refine lv_isub hx hb dX12_tells_119 ?_
  exact hret dX12_tells_120 rfl hw h
def f_X12_fly_59 (M : x_M) : Option (Int32 × x_M) := some ((-1000000001), M)
def f_X12_fly (M : x_M) (a1 : Int32) (a2 : Int32) (a3 : Int32) (a4 : Int32) (a5 : Int32) : Option (Int32 × x_M) := x_bn (f_X12_isMember M a1) (fun r2 M => if r2 = 0 then f_X12_fly_59 M else x_bn (f_X12_isPast M a2) (fun r10 M => if r10 = 0 then f_X12_fly_59 M else x_bn (f_X12_in M a3 (nI 1) (nI 9999)) (fun r21 M => if r21 = 0 then f_X12_fly_59 M else x_bn (f_X12_in M a4 (nI 0) (nI 33)) (fun r32 M => if r32 = 0 then f_X12_fly_59 M else x_dv (nI 10) (if (nI 3) < (a4 - a4 / (nI 10) * (nI 10)) then f_X12_fly_59 M else x_bn (f_X12_in M a5 (nI 0) (nI 9999)) (fun r53 M => if r53 = 0 then f_X12_fly_59 M else x_rd 5512 (M 1) (nI 5) (fun r67 => if r67 = (nI 100) then some ((-1000000003), M) else x_bn (f_X12_tells M (nI 0) a1 a2 a3 a4 a5) (fun r87 M => some (r87, M)))))))))
abbrev rm_X12_fly : Room := { frames := 2, cells := 0, slots := 0, locals := 43 }
set_option maxHeartbeats 4000000 in
set_option maxRecDepth 100000 in
theorem c_X12_fly {l : Launch} {D : va_G} {cy : Nat → ClassId} {q ad : Nat → Nat} {s0 : State} (hq : x_Q q 24 s0.heap.size) {M : x_M} {a1 : Int32} {a2 : Int32} {a3 : Int32} {a4 : Int32} {a5 : Int32} {z : Int32 × x_M} (h : f_X12_fly M a1 a2 a3 a4 a5 = some z) : x_Ci l D cy q ad x_spM 24 s0 yX12_fly (x_uw yX12_fly cX12_fly 6 (some .int)) rm_X12_fly [.ref (q 0), .int a1, .int a2, .int a3, .int a4, .int a5] M z.1 z.2 := by
  have hN : 24 ≤ 24 := Nat.le_refl _
  refine x_meti hq (by decide) (Nat.le_of_ble_eq_true rfl) ?_
  intro p e s m args below meth c ls Q C hret hl hw
  have hx := C.1.1
  have hb := C.1.2.1
  have ho := C.1.2.2.2.1
  have hL := C.1.2.2.2.2
  have hl : lv_has ls 6 [(0, .ref (q 0)), (1, .int a1), (2, .int a2), (3, .int a3), (4, .int a4), (5, .int a5)] := hl
  have w59 : ∀ (M : x_M) (H : Heap) (locs : List Loc) (ls : Array Slot), x_B D cy q ad x_spM 24 s H locs M → lv_has ls 6 [] → f_X12_fly_59 M = some z → W p l e rm_X12_fly s m args below meth c H locs 0 0 Q (F0 m 59 ls []) := by
    intro M H locs ls hw hl h
    unfold f_X12_fly_59 at h
    refine lv_ldc hx hb ho (hL _ kc_RX12_85) dX12_fly_59 ?_
    exact hret dX12_fly_61 rfl hw h
  unfold f_X12_fly at h
  refine lv_aload_n hx hb dX12_fly_0 rfl (lv_at hl 0 rfl) ?_
  refine lv_iload_n hx hb dX12_fly_1 rfl (lv_at hl 1 rfl) ?_
  refine xh_cVi C hw (rest := []) h (fun _ hy => c_X12_isMember hq hy) ml_RX12_87 mv_X12_isMember sM_0 (x_lt hN rfl) rfl ⟨rfl, rfl, by decide, by decide⟩ rfl hl.1 rfl (Nat.le_of_ble_eq_true rfl) dX12_fly_2 (fun H locs r2 M hw h => ?_)
  refine x_if_eq (tgt := 59) hx hb h dX12_fly_5 (by decide) (fun h => ?_) (fun h => ?_)
  · exact w59 _ _ _ _ hw (lv_sub hl [] rfl) h
  · refine lv_aload_n hx hb dX12_fly_8 rfl (lv_at hl 0 rfl) ?_
    refine lv_iload_n hx hb dX12_fly_9 rfl (lv_at hl 2 rfl) ?_
    refine xh_cVi C hw (rest := []) h (fun _ hy => c_X12_isPast hq hy) ml_RX12_100 mv_X12_isPast sM_0 (x_lt hN rfl) rfl ⟨rfl, rfl, by decide, by decide⟩ rfl hl.1 rfl (Nat.le_of_ble_eq_true rfl) dX12_fly_10 (fun H locs r10 M hw h => ?_)
    refine x_if_eq (tgt := 59) hx hb h dX12_fly_13 (by decide) (fun h => ?_) (fun h => ?_)
    · exact w59 _ _ _ _ hw (lv_sub hl [] rfl) h
    · refine lv_iload_n hx hb dX12_fly_16 rfl (lv_at hl 3 rfl) ?_
      refine lv_iconst (v := (nI 1)) hx hb dX12_fly_17 (by decide) ?_
      refine lv_sipush (v := (nI 9999)) hx hb dX12_fly_18 (by decide) ?_
      refine xh_cSi C hw (rest := []) h (fun _ hy => c_X12_in hq hy) ml_RX12_81 st_X12_in ⟨rfl, rfl, by decide, by decide⟩ rfl hl.1 rfl (Nat.le_of_ble_eq_true rfl) dX12_fly_21 (fun H locs r21 M hw h => ?_)
      refine x_if_eq (tgt := 59) hx hb h dX12_fly_24 (by decide) (fun h => ?_) (fun h => ?_)
      · exact w59 _ _ _ _ hw (lv_sub hl [] rfl) h
      · refine lv_iload hx hb dX12_fly_27 (lv_at hl 4 rfl) ?_
        refine lv_iconst (v := (nI 0)) hx hb dX12_fly_29 (by decide) ?_
        refine lv_bipush (v := (nI 33)) hx hb dX12_fly_30 (by decide) ?_
        refine xh_cSi C hw (rest := []) h (fun _ hy => c_X12_in hq hy) ml_RX12_81 st_X12_in ⟨rfl, rfl, by decide, by decide⟩ rfl hl.1 rfl (Nat.le_of_ble_eq_true rfl) dX12_fly_32 (fun H locs r32 M hw h => ?_)
        refine x_if_eq (tgt := 59) hx hb h dX12_fly_35 (by decide) (fun h => ?_) (fun h => ?_)
        · exact w59 _ _ _ _ hw (lv_sub hl [] rfl) h
        · refine lv_iload hx hb dX12_fly_38 (lv_at hl 4 rfl) ?_
          refine lv_bipush (v := (nI 10)) hx hb dX12_fly_40 (by decide) ?_
          refine xh_irem hx hb h dX12_fly_42 (fun h => ?_)
          refine lv_iconst (v := (nI 3)) hx hb dX12_fly_43 (by decide) ?_
          refine x_icmp_gt (tgt := 59) hx hb h dX12_fly_44 (by decide) (fun h => ?_) (fun h => ?_)
          · exact w59 _ _ _ _ hw (lv_sub hl [] rfl) h
          · refine lv_iload hx hb dX12_fly_47 (lv_at hl 5 rfl) ?_
            refine lv_iconst (v := (nI 0)) hx hb dX12_fly_49 (by decide) ?_
            refine lv_sipush (v := (nI 9999)) hx hb dX12_fly_50 (by decide) ?_
            refine xh_cSi C hw (rest := []) h (fun _ hy => c_X12_in hq hy) ml_RX12_81 st_X12_in ⟨rfl, rfl, by decide, by decide⟩ rfl hl.1 rfl (Nat.le_of_ble_eq_true rfl) dX12_fly_53 (fun H locs r53 M hw h => ?_)
            refine x_if_ne (tgt := 62) hx hb h dX12_fly_56 (by decide) (fun h => ?_) (fun h => ?_)
            · exact w59 _ _ _ _ hw (lv_sub hl [] rfl) h
            · refine lv_aload_n hx hb dX12_fly_62 rfl (lv_at hl 0 rfl) ?_
              refine xh_getr C hw 0 0 sM_0 (x_lt hN rfl) rfl rfl rfl lk_RX12_7 dX12_fly_63 ?_
              refine lv_iconst (v := (nI 5)) hx hb dX12_fly_66 (by decide) ?_
              refine xh_iald C hw 1 5512 h sM_1 (x_lt hN rfl) dX12_fly_67 (fun r67 h => ?_)
              refine lv_bipush (v := (nI 100)) hx hb dX12_fly_68 (by decide) ?_
              refine x_icmp_ne (tgt := 78) hx hb h dX12_fly_70 (by decide) (fun h => ?_) (fun h => ?_)
              · refine lv_ldc hx hb ho (hL _ kc_RX12_86) dX12_fly_73 ?_
                refine lv_goto (tgt := 90) hx hb dX12_fly_75 (by decide) ?_
                exact hret dX12_fly_90 rfl hw h
              · refine lv_aload_n hx hb dX12_fly_78 rfl (lv_at hl 0 rfl) ?_
                refine lv_iconst (v := (nI 0)) hx hb dX12_fly_79 (by decide) ?_
                refine lv_iload_n hx hb dX12_fly_80 rfl (lv_at hl 1 rfl) ?_
                refine lv_iload_n hx hb dX12_fly_81 rfl (lv_at hl 2 rfl) ?_
                refine lv_iload_n hx hb dX12_fly_82 rfl (lv_at hl 3 rfl) ?_
                refine lv_iload hx hb dX12_fly_83 (lv_at hl 4 rfl) ?_
                refine lv_iload hx hb dX12_fly_85 (lv_at hl 5 rfl) ?_
                refine xh_cVi C hw (rest := []) h (fun _ hy => c_X12_tells hq hy) ml_RX12_103 mv_X12_tells sM_0 (x_lt hN rfl) rfl ⟨rfl, rfl, by decide, by decide⟩ rfl hl.1 rfl (Nat.le_of_ble_eq_true rfl) dX12_fly_87 (fun H locs r87 M hw h => ?_)
                exact hret dX12_fly_90 rfl hw h
def f_X12_spend_36 (M : x_M) : Option (Int32 × x_M) := some ((-1000000001), M)
def f_X12_spend (M : x_M) (a1 : Int32) (a2 : Int32) (a3 : Int32) (a4 : Int32) : Option (Int32 × x_M) := x_bn (f_X12_isMember M a1) (fun r2 M => if r2 = 0 then f_X12_spend_36 M else x_bn (f_X12_isPast M a2) (fun r10 M => if r10 = 0 then f_X12_spend_36 M else x_bn (f_X12_in M a3 (nI 1) (nI 99999)) (fun r20 M => if r20 = 0 then f_X12_spend_36 M else x_bn (f_X12_in M a4 (nI 0) (nI 3)) (fun r30 M => if r30 = 0 then f_X12_spend_36 M else x_rd 5512 (M 1) (nI 5) (fun r44 => if r44 = (nI 100) then some ((-1000000003), M) else x_bn (f_X12_tells M (nI 1) a1 a2 a3 a4 (nI 0)) (fun r63 M => some (r63, M)))))))
abbrev rm_X12_spend : Room := { frames := 2, cells := 0, slots := 0, locals := 43 }
set_option maxHeartbeats 4000000 in
set_option maxRecDepth 100000 in
theorem c_X12_spend {l : Launch} {D : va_G} {cy : Nat → ClassId} {q ad : Nat → Nat} {s0 : State} (hq : x_Q q 24 s0.heap.size) {M : x_M} {a1 : Int32} {a2 : Int32} {a3 : Int32} {a4 : Int32} {z : Int32 × x_M} (h : f_X12_spend M a1 a2 a3 a4 = some z) : x_Ci l D cy q ad x_spM 24 s0 yX12_spend (x_uw yX12_spend cX12_spend 5 (some .int)) rm_X12_spend [.ref (q 0), .int a1, .int a2, .int a3, .int a4] M z.1 z.2 := by
  have hN : 24 ≤ 24 := Nat.le_refl _
  refine x_meti hq (by decide) (Nat.le_of_ble_eq_true rfl) ?_
  intro p e s m args below meth c ls Q C hret hl hw
  have hx := C.1.1
  have hb := C.1.2.1
  have ho := C.1.2.2.2.1
  have hL := C.1.2.2.2.2
  have hl : lv_has ls 5 [(0, .ref (q 0)), (1, .int a1), (2, .int a2), (3, .int a3), (4, .int a4)] := hl
  have w36 : ∀ (M : x_M) (H : Heap) (locs : List Loc) (ls : Array Slot), x_B D cy q ad x_spM 24 s H locs M → lv_has ls 5 [] → f_X12_spend_36 M = some z → W p l e rm_X12_spend s m args below meth c H locs 0 0 Q (F0 m 36 ls []) := by
    intro M H locs ls hw hl h
    unfold f_X12_spend_36 at h
    refine lv_ldc hx hb ho (hL _ kc_RX12_85) dX12_spend_36 ?_
    exact hret dX12_spend_38 rfl hw h
  unfold f_X12_spend at h
  refine lv_aload_n hx hb dX12_spend_0 rfl (lv_at hl 0 rfl) ?_
  refine lv_iload_n hx hb dX12_spend_1 rfl (lv_at hl 1 rfl) ?_
  refine xh_cVi C hw (rest := []) h (fun _ hy => c_X12_isMember hq hy) ml_RX12_87 mv_X12_isMember sM_0 (x_lt hN rfl) rfl ⟨rfl, rfl, by decide, by decide⟩ rfl hl.1 rfl (Nat.le_of_ble_eq_true rfl) dX12_spend_2 (fun H locs r2 M hw h => ?_)
  refine x_if_eq (tgt := 36) hx hb h dX12_spend_5 (by decide) (fun h => ?_) (fun h => ?_)
  · exact w36 _ _ _ _ hw (lv_sub hl [] rfl) h
  · refine lv_aload_n hx hb dX12_spend_8 rfl (lv_at hl 0 rfl) ?_
    refine lv_iload_n hx hb dX12_spend_9 rfl (lv_at hl 2 rfl) ?_
    refine xh_cVi C hw (rest := []) h (fun _ hy => c_X12_isPast hq hy) ml_RX12_100 mv_X12_isPast sM_0 (x_lt hN rfl) rfl ⟨rfl, rfl, by decide, by decide⟩ rfl hl.1 rfl (Nat.le_of_ble_eq_true rfl) dX12_spend_10 (fun H locs r10 M hw h => ?_)
    refine x_if_eq (tgt := 36) hx hb h dX12_spend_13 (by decide) (fun h => ?_) (fun h => ?_)
    · exact w36 _ _ _ _ hw (lv_sub hl [] rfl) h
    · refine lv_iload_n hx hb dX12_spend_16 rfl (lv_at hl 3 rfl) ?_
      refine lv_iconst (v := (nI 1)) hx hb dX12_spend_17 (by decide) ?_
      refine lv_ldc hx hb ho (hL _ kc_RX12_107) dX12_spend_18 ?_
      refine xh_cSi C hw (rest := []) h (fun _ hy => c_X12_in hq hy) ml_RX12_81 st_X12_in ⟨rfl, rfl, by decide, by decide⟩ rfl hl.1 rfl (Nat.le_of_ble_eq_true rfl) dX12_spend_20 (fun H locs r20 M hw h => ?_)
      refine x_if_eq (tgt := 36) hx hb h dX12_spend_23 (by decide) (fun h => ?_) (fun h => ?_)
      · exact w36 _ _ _ _ hw (lv_sub hl [] rfl) h
      · refine lv_iload hx hb dX12_spend_26 (lv_at hl 4 rfl) ?_
        refine lv_iconst (v := (nI 0)) hx hb dX12_spend_28 (by decide) ?_
        refine lv_iconst (v := (nI 3)) hx hb dX12_spend_29 (by decide) ?_
        refine xh_cSi C hw (rest := []) h (fun _ hy => c_X12_in hq hy) ml_RX12_81 st_X12_in ⟨rfl, rfl, by decide, by decide⟩ rfl hl.1 rfl (Nat.le_of_ble_eq_true rfl) dX12_spend_30 (fun H locs r30 M hw h => ?_)
        refine x_if_ne (tgt := 39) hx hb h dX12_spend_33 (by decide) (fun h => ?_) (fun h => ?_)
        · exact w36 _ _ _ _ hw (lv_sub hl [] rfl) h
        · refine lv_aload_n hx hb dX12_spend_39 rfl (lv_at hl 0 rfl) ?_
          refine xh_getr C hw 0 0 sM_0 (x_lt hN rfl) rfl rfl rfl lk_RX12_7 dX12_spend_40 ?_
          refine lv_iconst (v := (nI 5)) hx hb dX12_spend_43 (by decide) ?_
          refine xh_iald C hw 1 5512 h sM_1 (x_lt hN rfl) dX12_spend_44 (fun r44 h => ?_)
          refine lv_bipush (v := (nI 100)) hx hb dX12_spend_45 (by decide) ?_
          refine x_icmp_ne (tgt := 55) hx hb h dX12_spend_47 (by decide) (fun h => ?_) (fun h => ?_)
          · refine lv_ldc hx hb ho (hL _ kc_RX12_86) dX12_spend_50 ?_
            refine lv_goto (tgt := 66) hx hb dX12_spend_52 (by decide) ?_
            exact hret dX12_spend_66 rfl hw h
          · refine lv_aload_n hx hb dX12_spend_55 rfl (lv_at hl 0 rfl) ?_
            refine lv_iconst (v := (nI 1)) hx hb dX12_spend_56 (by decide) ?_
            refine lv_iload_n hx hb dX12_spend_57 rfl (lv_at hl 1 rfl) ?_
            refine lv_iload_n hx hb dX12_spend_58 rfl (lv_at hl 2 rfl) ?_
            refine lv_iload_n hx hb dX12_spend_59 rfl (lv_at hl 3 rfl) ?_
            refine lv_iload hx hb dX12_spend_60 (lv_at hl 4 rfl) ?_
            refine lv_iconst (v := (nI 0)) hx hb dX12_spend_62 (by decide) ?_
            refine xh_cVi C hw (rest := []) h (fun _ hy => c_X12_tells hq hy) ml_RX12_103 mv_X12_tells sM_0 (x_lt hN rfl) rfl ⟨rfl, rfl, by decide, by decide⟩ rfl hl.1 rfl (Nat.le_of_ble_eq_true rfl) dX12_spend_63 (fun H locs r63 M hw h => ?_)
            exact hret dX12_spend_66 rfl hw h
def f_X12_gift_41 (M : x_M) : Option (Int32 × x_M) := some ((-1000000001), M)
def f_X12_gift (M : x_M) (a1 : Int32) (a2 : Int32) (a3 : Int32) (a4 : Int32) : Option (Int32 × x_M) := x_bn (f_X12_isMember M a1) (fun r2 M => if r2 = 0 then f_X12_gift_41 M else x_bn (f_X12_isPast M a2) (fun r10 M => if r10 = 0 then f_X12_gift_41 M else x_bn (f_X12_in M a3 (nI 1) (nI 99999)) (fun r20 M => if r20 = 0 then f_X12_gift_41 M else x_bn (f_X12_isMember M a4) (fun r29 M => if r29 = 0 then f_X12_gift_41 M else if a1 = a4 then f_X12_gift_41 M else x_rd 5512 (M 1) (nI 5) (fun r49 => if r49 = (nI 100) then some ((-1000000003), M) else x_bn (f_X12_tells M (nI 2) a1 a2 a3 a4 (nI 0)) (fun r68 M => some (r68, M)))))))
abbrev rm_X12_gift : Room := { frames := 2, cells := 0, slots := 0, locals := 43 }
set_option maxHeartbeats 4000000 in
set_option maxRecDepth 100000 in
theorem c_X12_gift {l : Launch} {D : va_G} {cy : Nat → ClassId} {q ad : Nat → Nat} {s0 : State} (hq : x_Q q 24 s0.heap.size) {M : x_M} {a1 : Int32} {a2 : Int32} {a3 : Int32} {a4 : Int32} {z : Int32 × x_M} (h : f_X12_gift M a1 a2 a3 a4 = some z) : x_Ci l D cy q ad x_spM 24 s0 yX12_gift (x_uw yX12_gift cX12_gift 5 (some .int)) rm_X12_gift [.ref (q 0), .int a1, .int a2, .int a3, .int a4] M z.1 z.2 := by
  have hN : 24 ≤ 24 := Nat.le_refl _
  refine x_meti hq (by decide) (Nat.le_of_ble_eq_true rfl) ?_
  intro p e s m args below meth c ls Q C hret hl hw
  have hx := C.1.1
  have hb := C.1.2.1
  have ho := C.1.2.2.2.1
  have hL := C.1.2.2.2.2
  have hl : lv_has ls 5 [(0, .ref (q 0)), (1, .int a1), (2, .int a2), (3, .int a3), (4, .int a4)] := hl
  have w41 : ∀ (M : x_M) (H : Heap) (locs : List Loc) (ls : Array Slot), x_B D cy q ad x_spM 24 s H locs M → lv_has ls 5 [] → f_X12_gift_41 M = some z → W p l e rm_X12_gift s m args below meth c H locs 0 0 Q (F0 m 41 ls []) := by
    intro M H locs ls hw hl h
    unfold f_X12_gift_41 at h
    refine lv_ldc hx hb ho (hL _ kc_RX12_85) dX12_gift_41 ?_
    exact hret dX12_gift_43 rfl hw h
  unfold f_X12_gift at h
  refine lv_aload_n hx hb dX12_gift_0 rfl (lv_at hl 0 rfl) ?_
  refine lv_iload_n hx hb dX12_gift_1 rfl (lv_at hl 1 rfl) ?_
  refine xh_cVi C hw (rest := []) h (fun _ hy => c_X12_isMember hq hy) ml_RX12_87 mv_X12_isMember sM_0 (x_lt hN rfl) rfl ⟨rfl, rfl, by decide, by decide⟩ rfl hl.1 rfl (Nat.le_of_ble_eq_true rfl) dX12_gift_2 (fun H locs r2 M hw h => ?_)
  refine x_if_eq (tgt := 41) hx hb h dX12_gift_5 (by decide) (fun h => ?_) (fun h => ?_)
  · exact w41 _ _ _ _ hw (lv_sub hl [] rfl) h
  · refine lv_aload_n hx hb dX12_gift_8 rfl (lv_at hl 0 rfl) ?_
    refine lv_iload_n hx hb dX12_gift_9 rfl (lv_at hl 2 rfl) ?_
    refine xh_cVi C hw (rest := []) h (fun _ hy => c_X12_isPast hq hy) ml_RX12_100 mv_X12_isPast sM_0 (x_lt hN rfl) rfl ⟨rfl, rfl, by decide, by decide⟩ rfl hl.1 rfl (Nat.le_of_ble_eq_true rfl) dX12_gift_10 (fun H locs r10 M hw h => ?_)
    refine x_if_eq (tgt := 41) hx hb h dX12_gift_13 (by decide) (fun h => ?_) (fun h => ?_)
    · exact w41 _ _ _ _ hw (lv_sub hl [] rfl) h
    · refine lv_iload_n hx hb dX12_gift_16 rfl (lv_at hl 3 rfl) ?_
      refine lv_iconst (v := (nI 1)) hx hb dX12_gift_17 (by decide) ?_
      refine lv_ldc hx hb ho (hL _ kc_RX12_107) dX12_gift_18 ?_
      refine xh_cSi C hw (rest := []) h (fun _ hy => c_X12_in hq hy) ml_RX12_81 st_X12_in ⟨rfl, rfl, by decide, by decide⟩ rfl hl.1 rfl (Nat.le_of_ble_eq_true rfl) dX12_gift_20 (fun H locs r20 M hw h => ?_)
      refine x_if_eq (tgt := 41) hx hb h dX12_gift_23 (by decide) (fun h => ?_) (fun h => ?_)
      · exact w41 _ _ _ _ hw (lv_sub hl [] rfl) h
      · refine lv_aload_n hx hb dX12_gift_26 rfl (lv_at hl 0 rfl) ?_
        refine lv_iload hx hb dX12_gift_27 (lv_at hl 4 rfl) ?_
        refine xh_cVi C hw (rest := []) h (fun _ hy => c_X12_isMember hq hy) ml_RX12_87 mv_X12_isMember sM_0 (x_lt hN rfl) rfl ⟨rfl, rfl, by decide, by decide⟩ rfl hl.1 rfl (Nat.le_of_ble_eq_true rfl) dX12_gift_29 (fun H locs r29 M hw h => ?_)
        refine x_if_eq (tgt := 41) hx hb h dX12_gift_32 (by decide) (fun h => ?_) (fun h => ?_)
        · exact w41 _ _ _ _ hw (lv_sub hl [] rfl) h
        · refine lv_iload_n hx hb dX12_gift_35 rfl (lv_at hl 1 rfl) ?_
          refine lv_iload hx hb dX12_gift_36 (lv_at hl 4 rfl) ?_
          refine x_icmp_ne (tgt := 44) hx hb h dX12_gift_38 (by decide) (fun h => ?_) (fun h => ?_)
          · exact w41 _ _ _ _ hw (lv_sub hl [] rfl) h
          · refine lv_aload_n hx hb dX12_gift_44 rfl (lv_at hl 0 rfl) ?_
            refine xh_getr C hw 0 0 sM_0 (x_lt hN rfl) rfl rfl rfl lk_RX12_7 dX12_gift_45 ?_
            refine lv_iconst (v := (nI 5)) hx hb dX12_gift_48 (by decide) ?_
            refine xh_iald C hw 1 5512 h sM_1 (x_lt hN rfl) dX12_gift_49 (fun r49 h => ?_)
            refine lv_bipush (v := (nI 100)) hx hb dX12_gift_50 (by decide) ?_
            refine x_icmp_ne (tgt := 60) hx hb h dX12_gift_52 (by decide) (fun h => ?_) (fun h => ?_)
            · refine lv_ldc hx hb ho (hL _ kc_RX12_86) dX12_gift_55 ?_
              refine lv_goto (tgt := 71) hx hb dX12_gift_57 (by decide) ?_
              exact hret dX12_gift_71 rfl hw h
            · refine lv_aload_n hx hb dX12_gift_60 rfl (lv_at hl 0 rfl) ?_
              refine lv_iconst (v := (nI 2)) hx hb dX12_gift_61 (by decide) ?_
              refine lv_iload_n hx hb dX12_gift_62 rfl (lv_at hl 1 rfl) ?_
              refine lv_iload_n hx hb dX12_gift_63 rfl (lv_at hl 2 rfl) ?_
              refine lv_iload_n hx hb dX12_gift_64 rfl (lv_at hl 3 rfl) ?_
              refine lv_iload hx hb dX12_gift_65 (lv_at hl 4 rfl) ?_
              refine lv_iconst (v := (nI 0)) hx hb dX12_gift_67 (by decide) ?_
              refine xh_cVi C hw (rest := []) h (fun _ hy => c_X12_tells hq hy) ml_RX12_103 mv_X12_tells sM_0 (x_lt hN rfl) rfl ⟨rfl, rfl, by decide, by decide⟩ rfl hl.1 rfl (Nat.le_of_ble_eq_true rfl) dX12_gift_68 (fun H locs r68 M hw h => ?_)
              exact hret dX12_gift_71 rfl hw h
def f_X12_back_50 (M : x_M) : Option (Int32 × x_M) := some ((-1000000001), M)
def f_X12_back (M : x_M) (a1 : Int32) (a2 : Int32) : Option (Int32 × x_M) := x_bn (f_X12_isLine M a1) (fun r2 M => if r2 = 0 then f_X12_back_50 M else x_rd 5512 (M 1) ((nI 50) + ((nI 10) * a1)) (fun r19 => if r19 = (nI 1) then x_bn (f_X12_isPast M a2) (fun r26 M => if r26 = 0 then f_X12_back_50 M else x_rd 5512 (M 1) (((nI 50) + ((nI 10) * a1)) + (nI 2)) (fun r46 => if r46 ≤ a2 then x_rd 5512 (M 1) (nI 5) (fun r58 => if r58 = (nI 100) then some ((-1000000003), M) else x_rd 5512 (M 1) (((nI 50) + ((nI 10) * a1)) + (nI 1)) (fun r84 => x_rd 5512 (M 1) (((nI 50) + ((nI 10) * a1)) + (nI 5)) (fun r99 => x_bn (f_X12_tells M (nI 3) r84 a2 r99 a1 (nI 0)) (fun r102 M => some (r102, M))))) else f_X12_back_50 M)) else f_X12_back_50 M))
abbrev rm_X12_back : Room := { frames := 2, cells := 0, slots := 0, locals := 43 }
set_option maxHeartbeats 4000000 in
set_option maxRecDepth 100000 in
theorem c_X12_back {l : Launch} {D : va_G} {cy : Nat → ClassId} {q ad : Nat → Nat} {s0 : State} (hq : x_Q q 24 s0.heap.size) {M : x_M} {a1 : Int32} {a2 : Int32} {z : Int32 × x_M} (h : f_X12_back M a1 a2 = some z) : x_Ci l D cy q ad x_spM 24 s0 yX12_back (x_uw yX12_back cX12_back 3 (some .int)) rm_X12_back [.ref (q 0), .int a1, .int a2] M z.1 z.2 := by
  have hN : 24 ≤ 24 := Nat.le_refl _
  refine x_meti hq (by decide) (Nat.le_of_ble_eq_true rfl) ?_
  intro p e s m args below meth c ls Q C hret hl hw
  have hx := C.1.1
  have hb := C.1.2.1
  have ho := C.1.2.2.2.1
  have hL := C.1.2.2.2.2
  have hl : lv_has ls 3 [(0, .ref (q 0)), (1, .int a1), (2, .int a2)] := hl
  have w50 : ∀ (M : x_M) (H : Heap) (locs : List Loc) (ls : Array Slot), x_B D cy q ad x_spM 24 s H locs M → lv_has ls 3 [] → f_X12_back_50 M = some z → W p l e rm_X12_back s m args below meth c H locs 0 0 Q (F0 m 50 ls []) := by
    intro M H locs ls hw hl h
    unfold f_X12_back_50 at h
    refine lv_ldc hx hb ho (hL _ kc_RX12_85) dX12_back_50 ?_
    exact hret dX12_back_52 rfl hw h
  unfold f_X12_back at h
  refine lv_aload_n hx hb dX12_back_0 rfl (lv_at hl 0 rfl) ?_
  refine lv_iload_n hx hb dX12_back_1 rfl (lv_at hl 1 rfl) ?_
  refine xh_cVi C hw (rest := []) h (fun _ hy => c_X12_isLine hq hy) ml_RX12_108 mv_X12_isLine sM_0 (x_lt hN rfl) rfl ⟨rfl, rfl, by decide, by decide⟩ rfl hl.1 rfl (Nat.le_of_ble_eq_true rfl) dX12_back_2 (fun H locs r2 M hw h => ?_)
  refine x_if_eq (tgt := 50) hx hb h dX12_back_5 (by decide) (fun h => ?_) (fun h => ?_)
  · exact w50 _ _ _ _ hw (lv_sub hl [] rfl) h
  · refine lv_aload_n hx hb dX12_back_8 rfl (lv_at hl 0 rfl) ?_
    refine xh_getr C hw 0 0 sM_0 (x_lt hN rfl) rfl rfl rfl lk_RX12_7 dX12_back_9 ?_
    refine lv_bipush (v := (nI 50)) hx hb dX12_back_12 (by decide) ?_
    refine lv_bipush (v := (nI 10)) hx hb dX12_back_14 (by decide) ?_
    refine lv_iload_n hx hb dX12_back_16 rfl (lv_at hl 1 rfl) ?_
    refine lv_imul hx hb dX12_back_17 ?_
    refine lv_iadd hx hb dX12_back_18 ?_
    refine xh_iald C hw 1 5512 h sM_1 (x_lt hN rfl) dX12_back_19 (fun r19 h => ?_)
    refine lv_iconst (v := (nI 1)) hx hb dX12_back_20 (by decide) ?_
    refine x_icmp_ne (tgt := 50) hx hb h dX12_back_21 (by decide) (fun h => ?_) (fun h => ?_)
    · refine lv_aload_n hx hb dX12_back_24 rfl (lv_at hl 0 rfl) ?_
      refine lv_iload_n hx hb dX12_back_25 rfl (lv_at hl 2 rfl) ?_
      refine xh_cVi C hw (rest := []) h (fun _ hy => c_X12_isPast hq hy) ml_RX12_100 mv_X12_isPast sM_0 (x_lt hN rfl) rfl ⟨rfl, rfl, by decide, by decide⟩ rfl hl.1 rfl (Nat.le_of_ble_eq_true rfl) dX12_back_26 (fun H locs r26 M hw h => ?_)
      refine x_if_eq (tgt := 50) hx hb h dX12_back_29 (by decide) (fun h => ?_) (fun h => ?_)
      · exact w50 _ _ _ _ hw (lv_sub hl [] rfl) h
      · refine lv_iload_n hx hb dX12_back_32 rfl (lv_at hl 2 rfl) ?_
        refine lv_aload_n hx hb dX12_back_33 rfl (lv_at hl 0 rfl) ?_
        refine xh_getr C hw 0 0 sM_0 (x_lt hN rfl) rfl rfl rfl lk_RX12_7 dX12_back_34 ?_
        refine lv_bipush (v := (nI 50)) hx hb dX12_back_37 (by decide) ?_
        refine lv_bipush (v := (nI 10)) hx hb dX12_back_39 (by decide) ?_
        refine lv_iload_n hx hb dX12_back_41 rfl (lv_at hl 1 rfl) ?_
        refine lv_imul hx hb dX12_back_42 ?_
        refine lv_iadd hx hb dX12_back_43 ?_
        refine lv_iconst (v := (nI 2)) hx hb dX12_back_44 (by decide) ?_
        refine lv_iadd hx hb dX12_back_45 ?_
        refine xh_iald C hw 1 5512 h sM_1 (x_lt hN rfl) dX12_back_46 (fun r46 h => ?_)
        refine x_icmp_ge (tgt := 53) hx hb h dX12_back_47 (by decide) (fun h => ?_) (fun h => ?_)
        · refine lv_aload_n hx hb dX12_back_53 rfl (lv_at hl 0 rfl) ?_
          refine xh_getr C hw 0 0 sM_0 (x_lt hN rfl) rfl rfl rfl lk_RX12_7 dX12_back_54 ?_
          refine lv_iconst (v := (nI 5)) hx hb dX12_back_57 (by decide) ?_
          refine xh_iald C hw 1 5512 h sM_1 (x_lt hN rfl) dX12_back_58 (fun r58 h => ?_)
          refine lv_bipush (v := (nI 100)) hx hb dX12_back_59 (by decide) ?_
          refine x_icmp_ne (tgt := 69) hx hb h dX12_back_61 (by decide) (fun h => ?_) (fun h => ?_)
          · refine lv_ldc hx hb ho (hL _ kc_RX12_86) dX12_back_64 ?_
            refine lv_goto (tgt := 105) hx hb dX12_back_66 (by decide) ?_
            exact hret dX12_back_105 rfl hw h
          · refine lv_aload_n hx hb dX12_back_69 rfl (lv_at hl 0 rfl) ?_
            refine lv_iconst (v := (nI 3)) hx hb dX12_back_70 (by decide) ?_
            refine lv_aload_n hx hb dX12_back_71 rfl (lv_at hl 0 rfl) ?_
            refine xh_getr C hw 0 0 sM_0 (x_lt hN rfl) rfl rfl rfl lk_RX12_7 dX12_back_72 ?_
            refine lv_bipush (v := (nI 50)) hx hb dX12_back_75 (by decide) ?_
            refine lv_bipush (v := (nI 10)) hx hb dX12_back_77 (by decide) ?_
            refine lv_iload_n hx hb dX12_back_79 rfl (lv_at hl 1 rfl) ?_
            refine lv_imul hx hb dX12_back_80 ?_
            refine lv_iadd hx hb dX12_back_81 ?_
            refine lv_iconst (v := (nI 1)) hx hb dX12_back_82 (by decide) ?_
            refine lv_iadd hx hb dX12_back_83 ?_
            refine xh_iald C hw 1 5512 h sM_1 (x_lt hN rfl) dX12_back_84 (fun r84 h => ?_)
            refine lv_iload_n hx hb dX12_back_85 rfl (lv_at hl 2 rfl) ?_
            refine lv_aload_n hx hb dX12_back_86 rfl (lv_at hl 0 rfl) ?_
            refine xh_getr C hw 0 0 sM_0 (x_lt hN rfl) rfl rfl rfl lk_RX12_7 dX12_back_87 ?_
            refine lv_bipush (v := (nI 50)) hx hb dX12_back_90 (by decide) ?_
            refine lv_bipush (v := (nI 10)) hx hb dX12_back_92 (by decide) ?_
            refine lv_iload_n hx hb dX12_back_94 rfl (lv_at hl 1 rfl) ?_
            refine lv_imul hx hb dX12_back_95 ?_
            refine lv_iadd hx hb dX12_back_96 ?_
            refine lv_iconst (v := (nI 5)) hx hb dX12_back_97 (by decide) ?_
            refine lv_iadd hx hb dX12_back_98 ?_
            refine xh_iald C hw 1 5512 h sM_1 (x_lt hN rfl) dX12_back_99 (fun r99 h => ?_)
            refine lv_iload_n hx hb dX12_back_100 rfl (lv_at hl 1 rfl) ?_
            refine lv_iconst (v := (nI 0)) hx hb dX12_back_101 (by decide) ?_
            refine xh_cVi C hw (rest := []) h (fun _ hy => c_X12_tells hq hy) ml_RX12_103 mv_X12_tells sM_0 (x_lt hN rfl) rfl ⟨rfl, rfl, by decide, by decide⟩ rfl hl.1 rfl (Nat.le_of_ble_eq_true rfl) dX12_back_102 (fun H locs r102 M hw h => ?_)
            exact hret dX12_back_105 rfl hw h
        · exact w50 _ _ _ _ hw (lv_sub hl [] rfl) h
    · exact w50 _ _ _ _ hw (lv_sub hl [] rfl) h
def f_X12_withdraw (M : x_M) (a1 : Int32) : Option (Int32 × x_M) := x_bn (f_X12_isLine M a1) (fun r2 M => if r2 = 0 then some ((-1000000001), M) else x_rd 5512 (M 1) (((nI 50) + ((nI 10) * a1)) + (nI 4)) (fun r24 => if r24 = (-1) then x_rd 5512 (M 1) (nI 0) (fun r50 => x_wr 5512 M 1 (((nI 50) + ((nI 10) * a1)) + (nI 4)) r50 (fun M => some ((nI 1), M))) else some ((-1000000002), M)))
abbrev rm_X12_withdraw : Room := { frames := 2, cells := 0, slots := 0, locals := 43 }
set_option maxHeartbeats 4000000 in
set_option maxRecDepth 100000 in
theorem c_X12_withdraw {l : Launch} {D : va_G} {cy : Nat → ClassId} {q ad : Nat → Nat} {s0 : State} (hq : x_Q q 24 s0.heap.size) {M : x_M} {a1 : Int32} {z : Int32 × x_M} (h : f_X12_withdraw M a1 = some z) : x_Ci l D cy q ad x_spM 24 s0 yX12_withdraw (x_uw yX12_withdraw cX12_withdraw 2 (some .int)) rm_X12_withdraw [.ref (q 0), .int a1] M z.1 z.2 := by
  have hN : 24 ≤ 24 := Nat.le_refl _
  refine x_meti hq (by decide) (Nat.le_of_ble_eq_true rfl) ?_
  intro p e s m args below meth c ls Q C hret hl hw
  have hx := C.1.1
  have hb := C.1.2.1
  have ho := C.1.2.2.2.1
  have hL := C.1.2.2.2.2
  have hl : lv_has ls 2 [(0, .ref (q 0)), (1, .int a1)] := hl
  unfold f_X12_withdraw at h
  refine lv_aload_n hx hb dX12_withdraw_0 rfl (lv_at hl 0 rfl) ?_
  refine lv_iload_n hx hb dX12_withdraw_1 rfl (lv_at hl 1 rfl) ?_
  refine xh_cVi C hw (rest := []) h (fun _ hy => c_X12_isLine hq hy) ml_RX12_108 mv_X12_isLine sM_0 (x_lt hN rfl) rfl ⟨rfl, rfl, by decide, by decide⟩ rfl hl.1 rfl (Nat.le_of_ble_eq_true rfl) dX12_withdraw_2 (fun H locs r2 M hw h => ?_)
  refine x_if_ne (tgt := 11) hx hb h dX12_withdraw_5 (by decide) (fun h => ?_) (fun h => ?_)
  · refine lv_ldc hx hb ho (hL _ kc_RX12_85) dX12_withdraw_8 ?_
    exact hret dX12_withdraw_10 rfl hw h
  · refine lv_aload_n hx hb dX12_withdraw_11 rfl (lv_at hl 0 rfl) ?_
    refine xh_getr C hw 0 0 sM_0 (x_lt hN rfl) rfl rfl rfl lk_RX12_7 dX12_withdraw_12 ?_
    refine lv_bipush (v := (nI 50)) hx hb dX12_withdraw_15 (by decide) ?_
    refine lv_bipush (v := (nI 10)) hx hb dX12_withdraw_17 (by decide) ?_
    refine lv_iload_n hx hb dX12_withdraw_19 rfl (lv_at hl 1 rfl) ?_
    refine lv_imul hx hb dX12_withdraw_20 ?_
    refine lv_iadd hx hb dX12_withdraw_21 ?_
    refine lv_iconst (v := (nI 4)) hx hb dX12_withdraw_22 (by decide) ?_
    refine lv_iadd hx hb dX12_withdraw_23 ?_
    refine xh_iald C hw 1 5512 h sM_1 (x_lt hN rfl) dX12_withdraw_24 (fun r24 h => ?_)
    refine lv_iconst (v := (-1)) hx hb dX12_withdraw_25 (by decide) ?_
    refine x_icmp_eq (tgt := 32) hx hb h dX12_withdraw_26 (by decide) (fun h => ?_) (fun h => ?_)
    · refine lv_aload_n hx hb dX12_withdraw_32 rfl (lv_at hl 0 rfl) ?_
      refine xh_getr C hw 0 0 sM_0 (x_lt hN rfl) rfl rfl rfl lk_RX12_7 dX12_withdraw_33 ?_
      refine lv_bipush (v := (nI 50)) hx hb dX12_withdraw_36 (by decide) ?_
      refine lv_bipush (v := (nI 10)) hx hb dX12_withdraw_38 (by decide) ?_
      refine lv_iload_n hx hb dX12_withdraw_40 rfl (lv_at hl 1 rfl) ?_
      refine lv_imul hx hb dX12_withdraw_41 ?_
      refine lv_iadd hx hb dX12_withdraw_42 ?_
      refine lv_iconst (v := (nI 4)) hx hb dX12_withdraw_43 (by decide) ?_
      refine lv_iadd hx hb dX12_withdraw_44 ?_
      refine lv_aload_n hx hb dX12_withdraw_45 rfl (lv_at hl 0 rfl) ?_
      refine xh_getr C hw 0 0 sM_0 (x_lt hN rfl) rfl rfl rfl lk_RX12_7 dX12_withdraw_46 ?_
      refine lv_iconst (v := (nI 0)) hx hb dX12_withdraw_49 (by decide) ?_
      refine xh_iald C hw 1 5512 h sM_1 (x_lt hN rfl) dX12_withdraw_50 (fun r50 h => ?_)
      refine xh_iast C hw 1 5512 h sM_1 (x_lt hN rfl) dX12_withdraw_51 (fun H locs M hw h => ?_)
      refine lv_iconst (v := (nI 1)) hx hb dX12_withdraw_52 (by decide) ?_
      exact hret dX12_withdraw_53 rfl hw h
    · refine lv_ldc hx hb ho (hL _ kc_RX12_111) dX12_withdraw_29 ?_
      exact hret dX12_withdraw_31 rfl hw h
def f_X12_line_18 (M : x_M) : Option (Int32 × x_M) := some ((-1000000001), M)
def f_X12_line (M : x_M) (a1 : Int32) (a2 : Int32) : Option (Int32 × x_M) := x_bn (f_X12_isLine M a1) (fun r2 M => if r2 = 0 then f_X12_line_18 M else x_bn (f_X12_in M a2 (nI 0) (nI 6)) (fun r12 M => if r12 = 0 then f_X12_line_18 M else x_rd 5512 (M 1) (((nI 50) + ((nI 10) * a1)) + a2) (fun r34 => if a2 = (nI 4) then x_bn (f_X12_orNone M r34) (fun r42 M => some (r42, M)) else some (r34, M))))
abbrev rm_X12_line : Room := { frames := 2, cells := 0, slots := 0, locals := 43 }
set_option maxHeartbeats 4000000 in
set_option maxRecDepth 100000 in
theorem c_X12_line {l : Launch} {D : va_G} {cy : Nat → ClassId} {q ad : Nat → Nat} {s0 : State} (hq : x_Q q 24 s0.heap.size) {M : x_M} {a1 : Int32} {a2 : Int32} {z : Int32 × x_M} (h : f_X12_line M a1 a2 = some z) : x_Ci l D cy q ad x_spM 24 s0 yX12_line (x_uw yX12_line cX12_line 4 (some .int)) rm_X12_line [.ref (q 0), .int a1, .int a2] M z.1 z.2 := by
  have hN : 24 ≤ 24 := Nat.le_refl _
  refine x_meti hq (by decide) (Nat.le_of_ble_eq_true rfl) ?_
  intro p e s m args below meth c ls Q C hret hl hw
  have hx := C.1.1
  have hb := C.1.2.1
  have ho := C.1.2.2.2.1
  have hL := C.1.2.2.2.2
  have hl : lv_has ls 4 [(0, .ref (q 0)), (1, .int a1), (2, .int a2)] := hl
  have w18 : ∀ (M : x_M) (H : Heap) (locs : List Loc) (ls : Array Slot), x_B D cy q ad x_spM 24 s H locs M → lv_has ls 4 [] → f_X12_line_18 M = some z → W p l e rm_X12_line s m args below meth c H locs 0 0 Q (F0 m 18 ls []) := by
    intro M H locs ls hw hl h
    unfold f_X12_line_18 at h
    refine lv_ldc hx hb ho (hL _ kc_RX12_85) dX12_line_18 ?_
    exact hret dX12_line_20 rfl hw h
  unfold f_X12_line at h
  refine lv_aload_n hx hb dX12_line_0 rfl (lv_at hl 0 rfl) ?_
  refine lv_iload_n hx hb dX12_line_1 rfl (lv_at hl 1 rfl) ?_
  refine xh_cVi C hw (rest := []) h (fun _ hy => c_X12_isLine hq hy) ml_RX12_108 mv_X12_isLine sM_0 (x_lt hN rfl) rfl ⟨rfl, rfl, by decide, by decide⟩ rfl hl.1 rfl (Nat.le_of_ble_eq_true rfl) dX12_line_2 (fun H locs r2 M hw h => ?_)
  refine x_if_eq (tgt := 18) hx hb h dX12_line_5 (by decide) (fun h => ?_) (fun h => ?_)
  · exact w18 _ _ _ _ hw (lv_sub hl [] rfl) h
  · refine lv_iload_n hx hb dX12_line_8 rfl (lv_at hl 2 rfl) ?_
    refine lv_iconst (v := (nI 0)) hx hb dX12_line_9 (by decide) ?_
    refine lv_bipush (v := (nI 6)) hx hb dX12_line_10 (by decide) ?_
    refine xh_cSi C hw (rest := []) h (fun _ hy => c_X12_in hq hy) ml_RX12_81 st_X12_in ⟨rfl, rfl, by decide, by decide⟩ rfl hl.1 rfl (Nat.le_of_ble_eq_true rfl) dX12_line_12 (fun H locs r12 M hw h => ?_)
    refine x_if_ne (tgt := 21) hx hb h dX12_line_15 (by decide) (fun h => ?_) (fun h => ?_)
    · exact w18 _ _ _ _ hw (lv_sub hl [] rfl) h
    · refine lv_aload_n hx hb dX12_line_21 rfl (lv_at hl 0 rfl) ?_
      refine xh_getr C hw 0 0 sM_0 (x_lt hN rfl) rfl rfl rfl lk_RX12_7 dX12_line_22 ?_
      refine lv_bipush (v := (nI 50)) hx hb dX12_line_25 (by decide) ?_
      refine lv_bipush (v := (nI 10)) hx hb dX12_line_27 (by decide) ?_
      refine lv_iload_n hx hb dX12_line_29 rfl (lv_at hl 1 rfl) ?_
      refine lv_imul hx hb dX12_line_30 ?_
      refine lv_iadd hx hb dX12_line_31 ?_
      refine lv_iload_n hx hb dX12_line_32 rfl (lv_at hl 2 rfl) ?_
      refine lv_iadd hx hb dX12_line_33 ?_
      refine xh_iald C hw 1 5512 h sM_1 (x_lt hN rfl) dX12_line_34 (fun r34 h => ?_)
      refine lv_istore_n (lv' := [(3, .int _), (0, .ref (q 0)), (1, .int _), (2, .int _)]) hx hb dX12_line_35 rfl hl (by decide) rfl (fun ls hl => ?_)
      refine lv_iload_n hx hb dX12_line_36 rfl (lv_at hl 3 rfl) ?_
      refine lv_iconst (v := (nI 4)) hx hb dX12_line_37 (by decide) ?_
      refine x_icmp_ne (tgt := 48) hx hb h dX12_line_38 (by decide) (fun h => ?_) (fun h => ?_)
      · refine lv_iload_n hx hb dX12_line_41 rfl (lv_at hl 0 rfl) ?_
        refine xh_cSi C hw (rest := []) h (fun _ hy => c_X12_orNone hq hy) ml_RX12_91 st_X12_orNone ⟨rfl, rfl, by decide, by decide⟩ rfl hl.1 rfl (Nat.le_of_ble_eq_true rfl) dX12_line_42 (fun H locs r42 M hw h => ?_)
        refine lv_goto (tgt := 49) hx hb dX12_line_45 (by decide) ?_
        exact hret dX12_line_49 rfl hw h
      · refine lv_iload_n hx hb dX12_line_48 rfl (lv_at hl 0 rfl) ?_
        exact hret dX12_line_49 rfl hw h
def f_X12_feed_48 (k19 : x_M → Int32 → Int32 → Int32 → Int32 → Option (Int32 × x_M)) (M : x_M) (v1 : Int32) (v2 : Int32) (v3 : Int32) (v4 : Int32) (t0 : Int32) : Option (Int32 × x_M) := x_gf M 0 4 (fun r55 => x_dv (nI 4) (x_wr 132 M 3 (r55 + v4) ((t0 >>> (((nI 24) - ((v4 - v4 / (nI 4) * (nI 4)) * (nI 8))) &&& 31)) &&& (nI 255)) (fun M => k19 M v1 v2 v3 (v4 + (nI 1)))))
def f_X12_feed_19 : Nat → x_M → Int32 → Int32 → Int32 → Int32 → Option (Int32 × x_M)
  | 0, _, _, _, _, _ => none
  | n + 1, M, v1, v2, v3, v4 => if (nI 12) ≤ v4 then x_gf M 0 4 (fun r87 => x_pf M 0 4 (r87 + (nI 12)) (fun M => x_gf M 0 4 (fun r97 => some (r97, M)))) else if (nI 4) ≤ v4 then if (nI 8) ≤ v4 then f_X12_feed_48 (f_X12_feed_19 n) M v1 v2 v3 v4 v3 else f_X12_feed_48 (f_X12_feed_19 n) M v1 v2 v3 v4 v2 else f_X12_feed_48 (f_X12_feed_19 n) M v1 v2 v3 v4 v1
theorem f_X12_feed_19_0 (M : x_M) (v1 : Int32) (v2 : Int32) (v3 : Int32) (v4 : Int32) : f_X12_feed_19 0 M v1 v2 v3 v4 = none := rfl
theorem f_X12_feed_19_s (n : Nat) (M : x_M) (v1 : Int32) (v2 : Int32) (v3 : Int32) (v4 : Int32) : f_X12_feed_19 (n + 1) M v1 v2 v3 v4 = (if (nI 12) ≤ v4 then x_gf M 0 4 (fun r87 => x_pf M 0 4 (r87 + (nI 12)) (fun M => x_gf M 0 4 (fun r97 => some (r97, M)))) else if (nI 4) ≤ v4 then if (nI 8) ≤ v4 then f_X12_feed_48 (f_X12_feed_19 n) M v1 v2 v3 v4 v3 else f_X12_feed_48 (f_X12_feed_19 n) M v1 v2 v3 v4 v2 else f_X12_feed_48 (f_X12_feed_19 n) M v1 v2 v3 v4 v1) := rfl
def f_X12_feed (M : x_M) (a1 : Int32) (a2 : Int32) (a3 : Int32) : Option (Int32 × x_M) := x_gf M 0 4 (fun r1 => if (r1 + (nI 12)) ≤ (nI 132) then f_X12_feed_19 x_FU M a1 a2 a3 (nI 0) else some ((-1000000003), M))
abbrev rm_X12_feed : Room := { frames := 0, cells := 0, slots := 0, locals := 0 }
set_option maxHeartbeats 4000000 in
set_option maxRecDepth 100000 in
theorem c_X12_feed {l : Launch} {D : va_G} {cy : Nat → ClassId} {q ad : Nat → Nat} {s0 : State} (hq : x_Q q 24 s0.heap.size) {M : x_M} {a1 : Int32} {a2 : Int32} {a3 : Int32} {z : Int32 × x_M} (h : f_X12_feed M a1 a2 a3 = some z) : x_Ci l D cy q ad x_spM 24 s0 yX12_feed (x_uw yX12_feed cX12_feed 6 (some .int)) rm_X12_feed [.ref (q 0), .int a1, .int a2, .int a3] M z.1 z.2 := by
  have hN : 24 ≤ 24 := Nat.le_refl _
  refine x_meti hq (by decide) (Nat.le_of_ble_eq_true rfl) ?_
  intro p e s m args below meth c ls Q C hret hl hw
  have hx := C.1.1
  have hb := C.1.2.1
  have ho := C.1.2.2.2.1
  have hL := C.1.2.2.2.2
  have hl : lv_has ls 6 [(0, .ref (q 0)), (1, .int a1), (2, .int a2), (3, .int a3)] := hl
  have w19 : ∀ (n : Nat) (M : x_M) (v1 : Int32) (v2 : Int32) (v3 : Int32) (v4 : Int32) (H : Heap) (locs : List Loc) (ls : Array Slot), x_B D cy q ad x_spM 24 s H locs M → lv_has ls 6 [(0, .ref (q 0)), (1, .int v1), (2, .int v2), (3, .int v3), (4, .int v4)] → f_X12_feed_19 n M v1 v2 v3 v4 = some z → W p l e rm_X12_feed s m args below meth c H locs 0 0 Q (F0 m 19 ls []) := by
    intro n
    induction n with
    | zero =>
      intro M v1 v2 v3 v4 H locs ls hw hl h
      rw [f_X12_feed_19_0] at h
      cases h
    | succ n19 ih19 =>
      have w48 : ∀ (M : x_M) (v1 : Int32) (v2 : Int32) (v3 : Int32) (v4 : Int32) (t0 : Int32) (H : Heap) (locs : List Loc) (ls : Array Slot), x_B D cy q ad x_spM 24 s H locs M → lv_has ls 6 [(0, .ref (q 0)), (1, .int v1), (2, .int v2), (3, .int v3), (4, .int v4)] → f_X12_feed_48 (f_X12_feed_19 n19) M v1 v2 v3 v4 t0 = some z → W p l e rm_X12_feed s m args below meth c H locs 0 0 Q (F0 m 48 ls [.int t0]) := by
        intro M v1 v2 v3 v4 t0 H locs ls hw hl h
        unfold f_X12_feed_48 at h
        refine lv_istore (lv' := [(5, .int _), (0, .ref (q 0)), (1, .int _), (2, .int _), (3, .int _), (4, .int _)]) hx hb dX12_feed_48 hl (by decide) rfl (fun ls hl => ?_)
        refine lv_aload_n hx hb dX12_feed_50 rfl (lv_at hl 1 rfl) ?_
        refine xh_getr C hw 0 3 sM_0 (x_lt hN rfl) rfl rfl rfl lk_RX12_16 dX12_feed_51 ?_
        refine lv_aload_n hx hb dX12_feed_54 rfl (lv_at hl 1 rfl) ?_
        refine xh_geti C hw 0 4 h sM_0 (x_lt hN rfl) rfl rfl rfl lk_RX12_112 dX12_feed_55 (fun r55 h => ?_)
        refine lv_iload hx hb dX12_feed_58 (lv_at hl 5 rfl) ?_
        refine lv_iadd hx hb dX12_feed_60 ?_
        refine lv_iload hx hb dX12_feed_61 (lv_at hl 0 rfl) ?_
        refine lv_bipush (v := (nI 24)) hx hb dX12_feed_63 (by decide) ?_
        refine lv_iload hx hb dX12_feed_65 (lv_at hl 5 rfl) ?_
        refine lv_iconst (v := (nI 4)) hx hb dX12_feed_67 (by decide) ?_
        refine xh_irem hx hb h dX12_feed_68 (fun h => ?_)
        refine lv_bipush (v := (nI 8)) hx hb dX12_feed_69 (by decide) ?_
        refine lv_imul hx hb dX12_feed_71 ?_
        refine lv_isub hx hb dX12_feed_72 ?_
        refine lv_ishr hx hb dX12_feed_73 ?_
        refine lv_sipush (v := (nI 255)) hx hb dX12_feed_74 (by decide) ?_
        refine lv_iand hx hb dX12_feed_77 ?_
        refine xh_iast C hw 3 132 h sM_3 (x_lt hN rfl) dX12_feed_78 (fun H locs M hw h => ?_)
        refine lv_iinc (lv' := [(4, .int _), (5, .int _), (0, .ref (q 0)), (1, .int _), (2, .int _), (3, .int _)]) hx hb dX12_feed_79 hl (k := 5) rfl (x_inc (show Int32.ofInt 1 = (nI 1) by decide) _) (by decide) rfl (fun ls hl => ?_)
        refine lv_goto (tgt := 19) hx hb dX12_feed_82 (by decide) ?_
        exact ih19 _ _ _ _ _ _ _ _ hw (lv_sub hl [2, 3, 4, 5, 0] rfl) h
      intro M v1 v2 v3 v4 H locs ls hw hl h
      rw [f_X12_feed_19_s] at h
      refine lv_iload hx hb dX12_feed_19 (lv_at hl 4 rfl) ?_
      refine lv_bipush (v := (nI 12)) hx hb dX12_feed_21 (by decide) ?_
      refine x_icmp_ge (tgt := 85) hx hb h dX12_feed_23 (by decide) (fun h => ?_) (fun h => ?_)
      · refine lv_aload_n hx hb dX12_feed_85 rfl (lv_at hl 0 rfl) ?_
        refine lv_dup hx hb dX12_feed_86 rfl ?_
        refine xh_geti C hw 0 4 h sM_0 (x_lt hN rfl) rfl rfl rfl lk_RX12_112 dX12_feed_87 (fun r87 h => ?_)
        refine lv_bipush (v := (nI 12)) hx hb dX12_feed_90 (by decide) ?_
        refine lv_iadd hx hb dX12_feed_92 ?_
        refine xh_puti C hw 0 4 h sM_0 (x_lt hN rfl) rfl rfl rfl lk_RX12_112 rfl rfl dX12_feed_93 (fun H locs M hw h => ?_)
        refine lv_aload_n hx hb dX12_feed_96 rfl (lv_at hl 0 rfl) ?_
        refine xh_geti C hw 0 4 h sM_0 (x_lt hN rfl) rfl rfl rfl lk_RX12_112 dX12_feed_97 (fun r97 h => ?_)
        exact hret dX12_feed_100 rfl hw h
      · refine lv_iload hx hb dX12_feed_26 (lv_at hl 4 rfl) ?_
        refine lv_iconst (v := (nI 4)) hx hb dX12_feed_28 (by decide) ?_
        refine x_icmp_ge (tgt := 36) hx hb h dX12_feed_29 (by decide) (fun h => ?_) (fun h => ?_)
        · refine lv_iload hx hb dX12_feed_36 (lv_at hl 4 rfl) ?_
          refine lv_bipush (v := (nI 8)) hx hb dX12_feed_38 (by decide) ?_
          refine x_icmp_ge (tgt := 47) hx hb h dX12_feed_40 (by decide) (fun h => ?_) (fun h => ?_)
          · refine lv_iload_n hx hb dX12_feed_47 rfl (lv_at hl 3 rfl) ?_
            exact w48 _ _ _ _ _ _ _ _ _ hw (lv_sub hl [0, 1, 2, 3, 4] rfl) h
          · refine lv_iload_n hx hb dX12_feed_43 rfl (lv_at hl 2 rfl) ?_
            refine lv_goto (tgt := 48) hx hb dX12_feed_44 (by decide) ?_
            exact w48 _ _ _ _ _ _ _ _ _ hw (lv_sub hl [0, 1, 2, 3, 4] rfl) h
        · refine lv_iload_n hx hb dX12_feed_32 rfl (lv_at hl 1 rfl) ?_
          refine lv_goto (tgt := 48) hx hb dX12_feed_33 (by decide) ?_
          exact w48 _ _ _ _ _ _ _ _ _ hw (lv_sub hl [0, 1, 2, 3, 4] rfl) h
  unfold f_X12_feed at h
  refine lv_aload_n hx hb dX12_feed_0 rfl (lv_at hl 0 rfl) ?_
  refine xh_geti C hw 0 4 h sM_0 (x_lt hN rfl) rfl rfl rfl lk_RX12_112 dX12_feed_1 (fun r1 h => ?_)
  refine lv_bipush (v := (nI 12)) hx hb dX12_feed_4 (by decide) ?_
  refine lv_iadd hx hb dX12_feed_6 ?_
  refine lv_sipush (v := (nI 132)) hx hb dX12_feed_7 (by decide) ?_
  refine x_icmp_le (tgt := 16) hx hb h dX12_feed_10 (by decide) (fun h => ?_) (fun h => ?_)
  · refine lv_iconst (v := (nI 0)) hx hb dX12_feed_16 (by decide) ?_
    refine lv_istore (lv' := [(4, .int _), (0, .ref (q 0)), (1, .int _), (2, .int _), (3, .int _)]) hx hb dX12_feed_17 hl (by decide) rfl (fun ls hl => ?_)
    exact w19 _ _ _ _ _ _ _ _ _ hw (lv_sub hl [1, 2, 3, 4, 0] rfl) h
  · refine lv_ldc hx hb ho (hL _ kc_RX12_86) dX12_feed_13 ?_
    exact hret dX12_feed_15 rfl hw h
def f_X12_trim (M : x_M) (a1 : Int32) : Option (Int32 × x_M) := x_gf M 0 4 (fun r3 => x_bn (f_X12_in M a1 (nI 0) r3) (fun r6 M => if r6 = 0 then some ((-1000000001), M) else x_pf M 0 4 a1 (fun M => some (a1, M))))
abbrev rm_X12_trim : Room := { frames := 1, cells := 0, slots := 0, locals := 22 }
set_option maxHeartbeats 4000000 in
set_option maxRecDepth 100000 in
theorem c_X12_trim {l : Launch} {D : va_G} {cy : Nat → ClassId} {q ad : Nat → Nat} {s0 : State} (hq : x_Q q 24 s0.heap.size) {M : x_M} {a1 : Int32} {z : Int32 × x_M} (h : f_X12_trim M a1 = some z) : x_Ci l D cy q ad x_spM 24 s0 yX12_trim (x_uw yX12_trim cX12_trim 2 (some .int)) rm_X12_trim [.ref (q 0), .int a1] M z.1 z.2 := by
  have hN : 24 ≤ 24 := Nat.le_refl _
  refine x_meti hq (by decide) (Nat.le_of_ble_eq_true rfl) ?_
  intro p e s m args below meth c ls Q C hret hl hw
  have hx := C.1.1
  have hb := C.1.2.1
  have ho := C.1.2.2.2.1
  have hL := C.1.2.2.2.2
  have hl : lv_has ls 2 [(0, .ref (q 0)), (1, .int a1)] := hl
  unfold f_X12_trim at h
  refine lv_iload_n hx hb dX12_trim_0 rfl (lv_at hl 1 rfl) ?_
  refine lv_iconst (v := (nI 0)) hx hb dX12_trim_1 (by decide) ?_
  refine lv_aload_n hx hb dX12_trim_2 rfl (lv_at hl 0 rfl) ?_
  refine xh_geti C hw 0 4 h sM_0 (x_lt hN rfl) rfl rfl rfl lk_RX12_112 dX12_trim_3 (fun r3 h => ?_)
  refine xh_cSi C hw (rest := []) h (fun _ hy => c_X12_in hq hy) ml_RX12_81 st_X12_in ⟨rfl, rfl, by decide, by decide⟩ rfl hl.1 rfl (Nat.le_of_ble_eq_true rfl) dX12_trim_6 (fun H locs r6 M hw h => ?_)
  refine x_if_ne (tgt := 15) hx hb h dX12_trim_9 (by decide) (fun h => ?_) (fun h => ?_)
  · refine lv_ldc hx hb ho (hL _ kc_RX12_85) dX12_trim_12 ?_
    exact hret dX12_trim_14 rfl hw h
  · refine lv_aload_n hx hb dX12_trim_15 rfl (lv_at hl 0 rfl) ?_
    refine lv_iload_n hx hb dX12_trim_16 rfl (lv_at hl 1 rfl) ?_
    refine xh_puti C hw 0 4 h sM_0 (x_lt hN rfl) rfl rfl rfl lk_RX12_112 rfl rfl dX12_trim_17 (fun H locs M hw h => ?_)
    refine lv_iload_n hx hb dX12_trim_20 rfl (lv_at hl 1 rfl) ?_
    exact hret dX12_trim_21 rfl hw h
def f_X12_wrong_15 (M : x_M) : Option (Unit × x_M) := x_cz (nI 1) (x_pf M 0 10 (nI 1) (fun M => some ((), M)))
def f_X12_wrong (M : x_M) : Option (Unit × x_M) := x_gf M 0 10 (fun r1 => if r1 = 0 then x_gf M 0 5 (fun r9 => x_pf M 0 9 r9 (fun M => f_X12_wrong_15 M)) else f_X12_wrong_15 M)
abbrev rm_X12_wrong : Room := { frames := 0, cells := 0, slots := 0, locals := 0 }
set_option maxHeartbeats 4000000 in
set_option maxRecDepth 100000 in
theorem c_X12_wrong {l : Launch} {D : va_G} {cy : Nat → ClassId} {q ad : Nat → Nat} {s0 : State} (hq : x_Q q 24 s0.heap.size) {M : x_M} {z : Unit × x_M} (h : f_X12_wrong M = some z) : x_Cv l D cy q ad x_spM 24 s0 yX12_wrong (x_uw yX12_wrong cX12_wrong 1 none) rm_X12_wrong [.ref (q 0)] M z.2 := by
  have hN : 24 ≤ 24 := Nat.le_refl _
  refine x_metv hq (by decide) (Nat.le_of_ble_eq_true rfl) ?_
  intro p e s m args below meth c ls Q C hret hl hw
  have hx := C.1.1
  have hb := C.1.2.1
  have ho := C.1.2.2.2.1
  have hL := C.1.2.2.2.2
  have hl : lv_has ls 1 [(0, .ref (q 0))] := hl
  have w15 : ∀ (M : x_M) (H : Heap) (locs : List Loc) (ls : Array Slot), x_B D cy q ad x_spM 24 s H locs M → lv_has ls 1 [(0, .ref (q 0))] → f_X12_wrong_15 M = some z → W p l e rm_X12_wrong s m args below meth c H locs 0 0 Q (F0 m 15 ls []) := by
    intro M H locs ls hw hl h
    unfold f_X12_wrong_15 at h
    refine lv_aload_n hx hb dX12_wrong_15 rfl (lv_at hl 0 rfl) ?_
    refine lv_iconst (v := (nI 1)) hx hb dX12_wrong_16 (by decide) ?_
    refine xh_putz C hw 0 10 h sM_0 (x_lt hN rfl) rfl rfl rfl lk_RX12_116 rfl rfl dX12_wrong_17 (fun H locs M hw h => ?_)
    exact hret dX12_wrong_20 hw h
  unfold f_X12_wrong at h
  refine lv_aload_n hx hb dX12_wrong_0 rfl (lv_at hl 0 rfl) ?_
  refine xh_geti C hw 0 10 h sM_0 (x_lt hN rfl) rfl rfl rfl lk_RX12_116 dX12_wrong_1 (fun r1 h => ?_)
  refine x_if_ne (tgt := 15) hx hb h dX12_wrong_4 (by decide) (fun h => ?_) (fun h => ?_)
  · refine lv_aload_n hx hb dX12_wrong_7 rfl (lv_at hl 0 rfl) ?_
    refine lv_aload_n hx hb dX12_wrong_8 rfl (lv_at hl 0 rfl) ?_
    refine xh_geti C hw 0 5 h sM_0 (x_lt hN rfl) rfl rfl rfl lk_RX12_120 dX12_wrong_9 (fun r9 h => ?_)
    refine xh_puti C hw 0 9 h sM_0 (x_lt hN rfl) rfl rfl rfl lk_RX12_123 rfl rfl dX12_wrong_12 (fun H locs M hw h => ?_)
    exact w15 _ _ _ _ hw (lv_sub hl [0] rfl) h
  · exact w15 _ _ _ _ hw (lv_sub hl [0] rfl) h
def f_X12_sortOf (M : x_M) (a1 : Int32) : Option (Int32 × x_M) := x_bn (f_X12_in M a1 (nI 97) (nI 122)) (fun r5 M => if r5 = 0 then x_bn (f_X12_in M a1 (nI 48) (nI 57)) (fun r20 M => if r20 = 0 then some ((nI 3), M) else some ((nI 2), M)) else some ((nI 1), M))
abbrev rm_X12_sortOf : Room := { frames := 1, cells := 0, slots := 0, locals := 22 }
set_option maxHeartbeats 4000000 in
set_option maxRecDepth 100000 in
theorem c_X12_sortOf {l : Launch} {D : va_G} {cy : Nat → ClassId} {q ad : Nat → Nat} {s0 : State} (hq : x_Q q 24 s0.heap.size) {M : x_M} {a1 : Int32} {z : Int32 × x_M} (h : f_X12_sortOf M a1 = some z) : x_Ci l D cy q ad x_spM 24 s0 yX12_sortOf (x_uw yX12_sortOf cX12_sortOf 1 (some .int)) rm_X12_sortOf [.int a1] M z.1 z.2 := by
  have hN : 24 ≤ 24 := Nat.le_refl _
  refine x_meti hq (by decide) (Nat.le_of_ble_eq_true rfl) ?_
  intro p e s m args below meth c ls Q C hret hl hw
  have hx := C.1.1
  have hb := C.1.2.1
  have ho := C.1.2.2.2.1
  have hL := C.1.2.2.2.2
  have hl : lv_has ls 1 [(0, .int a1)] := hl
  unfold f_X12_sortOf at h
  refine lv_iload_n hx hb dX12_sortOf_0 rfl (lv_at hl 0 rfl) ?_
  refine lv_bipush (v := (nI 97)) hx hb dX12_sortOf_1 (by decide) ?_
  refine lv_bipush (v := (nI 122)) hx hb dX12_sortOf_3 (by decide) ?_
  refine xh_cSi C hw (rest := []) h (fun _ hy => c_X12_in hq hy) ml_RX12_81 st_X12_in ⟨rfl, rfl, by decide, by decide⟩ rfl hl.1 rfl (Nat.le_of_ble_eq_true rfl) dX12_sortOf_5 (fun H locs r5 M hw h => ?_)
  refine x_if_eq (tgt := 15) hx hb h dX12_sortOf_8 (by decide) (fun h => ?_) (fun h => ?_)
  · refine lv_iload_n hx hb dX12_sortOf_15 rfl (lv_at hl 0 rfl) ?_
    refine lv_bipush (v := (nI 48)) hx hb dX12_sortOf_16 (by decide) ?_
    refine lv_bipush (v := (nI 57)) hx hb dX12_sortOf_18 (by decide) ?_
    refine xh_cSi C hw (rest := []) h (fun _ hy => c_X12_in hq hy) ml_RX12_81 st_X12_in ⟨rfl, rfl, by decide, by decide⟩ rfl hl.1 rfl (Nat.le_of_ble_eq_true rfl) dX12_sortOf_20 (fun H locs r20 M hw h => ?_)
    refine x_if_eq (tgt := 30) hx hb h dX12_sortOf_23 (by decide) (fun h => ?_) (fun h => ?_)
    · refine lv_iconst (v := (nI 3)) hx hb dX12_sortOf_30 (by decide) ?_
      exact hret dX12_sortOf_31 rfl hw h
    · refine lv_iconst (v := (nI 2)) hx hb dX12_sortOf_26 (by decide) ?_
      refine lv_goto (tgt := 31) hx hb dX12_sortOf_27 (by decide) ?_
      exact hret dX12_sortOf_31 rfl hw h
  · refine lv_iconst (v := (nI 1)) hx hb dX12_sortOf_11 (by decide) ?_
    refine lv_goto (tgt := 31) hx hb dX12_sortOf_12 (by decide) ?_
    exact hret dX12_sortOf_31 rfl hw h
def f_X12_next_222 (M : x_M) : Option (Unit × x_M) := x_bn (f_X12_wrong M) (fun _ M => some ((), M))
def f_X12_next_202 (M : x_M) (v2 : Int32) : Option (Unit × x_M) := if v2 = 0 then some ((), M) else x_gf M 0 8 (fun r207 => if r207 = (nI 1) then f_X12_next_222 M else x_gf M 0 8 (fun r215 => if r215 = (nI 2) then f_X12_next_222 M else some ((), M)))
def f_X12_next_144 : Nat → x_M → Int32 → Option (Unit × x_M)
  | 0, _, _ => none
  | n + 1, M, v2 => x_gf M 0 8 (fun r145 => if r145 = (nI 3) then f_X12_next_202 M v2 else x_gf M 0 6 (fun r153 => x_gf M 0 7 (fun r157 => if r157 ≤ r153 then f_X12_next_202 M v2 else x_gf M 0 8 (fun r164 => if r164 = 0 then f_X12_next_202 M v2 else x_gf M 0 6 (fun r175 => x_rd 132 (M 3) r175 (fun r178 => x_bn (f_X12_sortOf M r178) (fun r179 M => x_gf M 0 8 (fun r183 => if r179 = r183 then x_gf M 0 6 (fun r191 => x_pf M 0 6 (r191 + (nI 1)) (fun M => (f_X12_next_144 n) M v2)) else f_X12_next_202 M v2))))))))
theorem f_X12_next_144_0 (M : x_M) (v2 : Int32) : f_X12_next_144 0 M v2 = none := rfl
theorem f_X12_next_144_s (n : Nat) (M : x_M) (v2 : Int32) : f_X12_next_144 (n + 1) M v2 = (x_gf M 0 8 (fun r145 => if r145 = (nI 3) then f_X12_next_202 M v2 else x_gf M 0 6 (fun r153 => x_gf M 0 7 (fun r157 => if r157 ≤ r153 then f_X12_next_202 M v2 else x_gf M 0 8 (fun r164 => if r164 = 0 then f_X12_next_202 M v2 else x_gf M 0 6 (fun r175 => x_rd 132 (M 3) r175 (fun r178 => x_bn (f_X12_sortOf M r178) (fun r179 M => x_gf M 0 8 (fun r183 => if r179 = r183 then x_gf M 0 6 (fun r191 => x_pf M 0 6 (r191 + (nI 1)) (fun M => (f_X12_next_144 n) M v2)) else f_X12_next_202 M v2))))))))) := rfl
def f_X12_next_124 (M : x_M) (v2 : Int32) (t1 : Int32) : Option (Unit × x_M) := x_pf M 0 8 t1 (fun M => x_gf M 0 8 (fun r128 => if r128 = 0 then f_X12_next_144 x_FU M v2 else x_gf M 0 6 (fun r136 => x_pf M 0 6 (r136 + (nI 1)) (fun M => f_X12_next_144 x_FU M v2))))
def f_X12_next_95 (M : x_M) (t0 : Int32) : Option (Unit × x_M) := x_gf M 0 5 (fun r98 => x_gf M 0 7 (fun r102 => if r98 = r102 then f_X12_next_124 M t0 (nI 0) else x_gf M 0 5 (fun r117 => x_rd 132 (M 3) r117 (fun r120 => x_bn (f_X12_sortOf M r120) (fun r121 M => f_X12_next_124 M t0 r121)))))
def f_X12_next_94 (M : x_M) : Option (Unit × x_M) := f_X12_next_95 M (nI 0)
def f_X12_next_59 (M : x_M) (v1 : Int32) : Option (Unit × x_M) := x_gf M 0 5 (fun r61 => x_pf M 0 6 r61 (fun M => x_gf M 0 5 (fun r68 => if r68 = v1 then x_gf M 0 8 (fun r76 => if r76 = 0 then f_X12_next_94 M else x_gf M 0 8 (fun r83 => if r83 = (nI 3) then f_X12_next_94 M else f_X12_next_95 M (nI 1))) else f_X12_next_94 M)))
def f_X12_next_21 : Nat → x_M → Int32 → Option (Unit × x_M)
  | 0, _, _ => none
  | n + 1, M, v1 => x_gf M 0 5 (fun r22 => x_gf M 0 7 (fun r26 => if r26 ≤ r22 then f_X12_next_59 M v1 else x_gf M 0 5 (fun r37 => x_rd 132 (M 3) r37 (fun r40 => if r40 = (nI 32) then x_gf M 0 5 (fun r48 => x_pf M 0 5 (r48 + (nI 1)) (fun M => (f_X12_next_21 n) M v1)) else f_X12_next_59 M v1))))
theorem f_X12_next_21_0 (M : x_M) (v1 : Int32) : f_X12_next_21 0 M v1 = none := rfl
theorem f_X12_next_21_s (n : Nat) (M : x_M) (v1 : Int32) : f_X12_next_21 (n + 1) M v1 = (x_gf M 0 5 (fun r22 => x_gf M 0 7 (fun r26 => if r26 ≤ r22 then f_X12_next_59 M v1 else x_gf M 0 5 (fun r37 => x_rd 132 (M 3) r37 (fun r40 => if r40 = (nI 32) then x_gf M 0 5 (fun r48 => x_pf M 0 5 (r48 + (nI 1)) (fun M => (f_X12_next_21 n) M v1)) else f_X12_next_59 M v1))))) := rfl
def f_X12_next (M : x_M) : Option (Unit × x_M) := x_gf M 0 10 (fun r1 => if r1 = 0 then x_gf M 0 6 (fun r9 => x_gf M 0 6 (fun r15 => x_pf M 0 5 r15 (fun M => f_X12_next_21 x_FU M r9))) else some ((), M))
abbrev rm_X12_next : Room := { frames := 2, cells := 0, slots := 0, locals := 42 }
set_option maxHeartbeats 4000000 in
set_option maxRecDepth 100000 in
theorem c_X12_next {l : Launch} {D : va_G} {cy : Nat → ClassId} {q ad : Nat → Nat} {s0 : State} (hq : x_Q q 24 s0.heap.size) {M : x_M} {z : Unit × x_M} (h : f_X12_next M = some z) : x_Cv l D cy q ad x_spM 24 s0 yX12_next (x_uw yX12_next cX12_next 3 none) rm_X12_next [.ref (q 0)] M z.2 := by
  have hN : 24 ≤ 24 := Nat.le_refl _
  refine x_metv hq (by decide) (Nat.le_of_ble_eq_true rfl) ?_
  intro p e s m args below meth c ls Q C hret hl hw
  have hx := C.1.1
  have hb := C.1.2.1
  have ho := C.1.2.2.2.1
  have hL := C.1.2.2.2.2
  have hl : lv_has ls 3 [(0, .ref (q 0))] := hl
  have w21 : ∀ (n : Nat) (M : x_M) (v1 : Int32) (H : Heap) (locs : List Loc) (ls : Array Slot), x_B D cy q ad x_spM 24 s H locs M → lv_has ls 3 [(0, .ref (q 0)), (1, .int v1)] → f_X12_next_21 n M v1 = some z → W p l e rm_X12_next s m args below meth c H locs 0 0 Q (F0 m 21 ls []) := by
    intro n
    induction n with
    | zero =>
      intro M v1 H locs ls hw hl h
      rw [f_X12_next_21_0] at h
      cases h
    | succ n21 ih21 =>
      have w59 : ∀ (M : x_M) (v1 : Int32) (H : Heap) (locs : List Loc) (ls : Array Slot), x_B D cy q ad x_spM 24 s H locs M → lv_has ls 3 [(0, .ref (q 0)), (1, .int v1)] → f_X12_next_59 M v1 = some z → W p l e rm_X12_next s m args below meth c H locs 0 0 Q (F0 m 59 ls []) := by
        have w95 : ∀ (M : x_M) (t0 : Int32) (H : Heap) (locs : List Loc) (ls : Array Slot), x_B D cy q ad x_spM 24 s H locs M → lv_has ls 3 [(0, .ref (q 0))] → f_X12_next_95 M t0 = some z → W p l e rm_X12_next s m args below meth c H locs 0 0 Q (F0 m 95 ls [.int t0]) := by
          have w124 : ∀ (M : x_M) (v2 : Int32) (t1 : Int32) (H : Heap) (locs : List Loc) (ls : Array Slot), x_B D cy q ad x_spM 24 s H locs M → lv_has ls 3 [(0, .ref (q 0)), (2, .int v2)] → f_X12_next_124 M v2 t1 = some z → W p l e rm_X12_next s m args below meth c H locs 0 0 Q (F0 m 124 ls [.int t1, .ref (q 0)]) := by
            have w144 : ∀ (n : Nat) (M : x_M) (v2 : Int32) (H : Heap) (locs : List Loc) (ls : Array Slot), x_B D cy q ad x_spM 24 s H locs M → lv_has ls 3 [(0, .ref (q 0)), (2, .int v2)] → f_X12_next_144 n M v2 = some z → W p l e rm_X12_next s m args below meth c H locs 0 0 Q (F0 m 144 ls []) := by
              intro n
              induction n with
              | zero =>
                intro M v2 H locs ls hw hl h
                rw [f_X12_next_144_0] at h
                cases h
              | succ n144 ih144 =>
                have w202 : ∀ (M : x_M) (v2 : Int32) (H : Heap) (locs : List Loc) (ls : Array Slot), x_B D cy q ad x_spM 24 s H locs M → lv_has ls 3 [(0, .ref (q 0)), (2, .int v2)] → f_X12_next_202 M v2 = some z → W p l e rm_X12_next s m args below meth c H locs 0 0 Q (F0 m 202 ls []) := by
                  have w222 : ∀ (M : x_M) (H : Heap) (locs : List Loc) (ls : Array Slot), x_B D cy q ad x_spM 24 s H locs M → lv_has ls 3 [(0, .ref (q 0))] → f_X12_next_222 M = some z → W p l e rm_X12_next s m args below meth c H locs 0 0 Q (F0 m 222 ls []) := by
                    intro M H locs ls hw hl h
                    unfold f_X12_next_222 at h
                    refine lv_aload_n hx hb dX12_next_222 rfl (lv_at hl 0 rfl) ?_
                    refine xh_cVv C hw (rest := []) h (fun _ hy => c_X12_wrong hq hy) ml_RX12_138 mv_X12_wrong sM_0 (x_lt hN rfl) rfl ⟨rfl, rfl, by decide, by decide⟩ rfl hl.1 rfl (Nat.le_of_ble_eq_true rfl) dX12_next_223 (fun H locs _ M hw h => ?_)
                    exact hret dX12_next_226 hw h
                  intro M v2 H locs ls hw hl h
                  unfold f_X12_next_202 at h
                  refine lv_iload_n hx hb dX12_next_202 rfl (lv_at hl 1 rfl) ?_
                  refine x_if_eq (tgt := 226) hx hb h dX12_next_203 (by decide) (fun h => ?_) (fun h => ?_)
                  · exact hret dX12_next_226 hw h
                  · refine lv_aload_n hx hb dX12_next_206 rfl (lv_at hl 0 rfl) ?_
                    refine xh_geti C hw 0 8 h sM_0 (x_lt hN rfl) rfl rfl rfl lk_RX12_132 dX12_next_207 (fun r207 h => ?_)
                    refine lv_iconst (v := (nI 1)) hx hb dX12_next_210 (by decide) ?_
                    refine x_icmp_eq (tgt := 222) hx hb h dX12_next_211 (by decide) (fun h => ?_) (fun h => ?_)
                    · exact w222 _ _ _ _ hw (lv_sub hl [0] rfl) h
                    · refine lv_aload_n hx hb dX12_next_214 rfl (lv_at hl 0 rfl) ?_
                      refine xh_geti C hw 0 8 h sM_0 (x_lt hN rfl) rfl rfl rfl lk_RX12_132 dX12_next_215 (fun r215 h => ?_)
                      refine lv_iconst (v := (nI 2)) hx hb dX12_next_218 (by decide) ?_
                      refine x_icmp_ne (tgt := 226) hx hb h dX12_next_219 (by decide) (fun h => ?_) (fun h => ?_)
                      · exact w222 _ _ _ _ hw (lv_sub hl [0] rfl) h
                      · exact hret dX12_next_226 hw h
                intro M v2 H locs ls hw hl h
                rw [f_X12_next_144_s] at h
                refine lv_aload_n hx hb dX12_next_144 rfl (lv_at hl 0 rfl) ?_
                refine xh_geti C hw 0 8 h sM_0 (x_lt hN rfl) rfl rfl rfl lk_RX12_132 dX12_next_145 (fun r145 h => ?_)
                refine lv_iconst (v := (nI 3)) hx hb dX12_next_148 (by decide) ?_
                refine x_icmp_eq (tgt := 202) hx hb h dX12_next_149 (by decide) (fun h => ?_) (fun h => ?_)
                · exact w202 _ _ _ _ _ hw (lv_sub hl [0, 1] rfl) h
                · refine lv_aload_n hx hb dX12_next_152 rfl (lv_at hl 0 rfl) ?_
                  refine xh_geti C hw 0 6 h sM_0 (x_lt hN rfl) rfl rfl rfl lk_RX12_126 dX12_next_153 (fun r153 h => ?_)
                  refine lv_aload_n hx hb dX12_next_156 rfl (lv_at hl 0 rfl) ?_
                  refine xh_geti C hw 0 7 h sM_0 (x_lt hN rfl) rfl rfl rfl lk_RX12_129 dX12_next_157 (fun r157 h => ?_)
                  refine x_icmp_ge (tgt := 202) hx hb h dX12_next_160 (by decide) (fun h => ?_) (fun h => ?_)
                  · exact w202 _ _ _ _ _ hw (lv_sub hl [0, 1] rfl) h
                  · refine lv_aload_n hx hb dX12_next_163 rfl (lv_at hl 0 rfl) ?_
                    refine xh_geti C hw 0 8 h sM_0 (x_lt hN rfl) rfl rfl rfl lk_RX12_132 dX12_next_164 (fun r164 h => ?_)
                    refine x_if_eq (tgt := 202) hx hb h dX12_next_167 (by decide) (fun h => ?_) (fun h => ?_)
                    · exact w202 _ _ _ _ _ hw (lv_sub hl [0, 1] rfl) h
                    · refine lv_aload_n hx hb dX12_next_170 rfl (lv_at hl 0 rfl) ?_
                      refine xh_getr C hw 0 3 sM_0 (x_lt hN rfl) rfl rfl rfl lk_RX12_16 dX12_next_171 ?_
                      refine lv_aload_n hx hb dX12_next_174 rfl (lv_at hl 0 rfl) ?_
                      refine xh_geti C hw 0 6 h sM_0 (x_lt hN rfl) rfl rfl rfl lk_RX12_126 dX12_next_175 (fun r175 h => ?_)
                      refine xh_iald C hw 3 132 h sM_3 (x_lt hN rfl) dX12_next_178 (fun r178 h => ?_)
                      refine xh_cSi C hw (rest := []) h (fun _ hy => c_X12_sortOf hq hy) ml_RX12_135 st_X12_sortOf ⟨rfl, rfl, by decide, by decide⟩ rfl hl.1 rfl (Nat.le_of_ble_eq_true rfl) dX12_next_179 (fun H locs r179 M hw h => ?_)
                      refine lv_aload_n hx hb dX12_next_182 rfl (lv_at hl 0 rfl) ?_
                      refine xh_geti C hw 0 8 h sM_0 (x_lt hN rfl) rfl rfl rfl lk_RX12_132 dX12_next_183 (fun r183 h => ?_)
                      refine x_icmp_ne (tgt := 202) hx hb h dX12_next_186 (by decide) (fun h => ?_) (fun h => ?_)
                      · refine lv_aload_n hx hb dX12_next_189 rfl (lv_at hl 0 rfl) ?_
                        refine lv_dup hx hb dX12_next_190 rfl ?_
                        refine xh_geti C hw 0 6 h sM_0 (x_lt hN rfl) rfl rfl rfl lk_RX12_126 dX12_next_191 (fun r191 h => ?_)
                        refine lv_iconst (v := (nI 1)) hx hb dX12_next_194 (by decide) ?_
                        refine lv_iadd hx hb dX12_next_195 ?_
                        refine xh_puti C hw 0 6 h sM_0 (x_lt hN rfl) rfl rfl rfl lk_RX12_126 rfl rfl dX12_next_196 (fun H locs M hw h => ?_)
                        refine lv_goto (tgt := 144) hx hb dX12_next_199 (by decide) ?_
                        exact ih144 _ _ _ _ _ hw (lv_sub hl [0, 1] rfl) h
                      · exact w202 _ _ _ _ _ hw (lv_sub hl [0, 1] rfl) h
            intro M v2 t1 H locs ls hw hl h
            unfold f_X12_next_124 at h
            refine xh_puti C hw 0 8 h sM_0 (x_lt hN rfl) rfl rfl rfl lk_RX12_132 rfl rfl dX12_next_124 (fun H locs M hw h => ?_)
            refine lv_aload_n hx hb dX12_next_127 rfl (lv_at hl 0 rfl) ?_
            refine xh_geti C hw 0 8 h sM_0 (x_lt hN rfl) rfl rfl rfl lk_RX12_132 dX12_next_128 (fun r128 h => ?_)
            refine x_if_eq (tgt := 144) hx hb h dX12_next_131 (by decide) (fun h => ?_) (fun h => ?_)
            · exact w144 _ _ _ _ _ _ hw (lv_sub hl [0, 1] rfl) h
            · refine lv_aload_n hx hb dX12_next_134 rfl (lv_at hl 0 rfl) ?_
              refine lv_dup hx hb dX12_next_135 rfl ?_
              refine xh_geti C hw 0 6 h sM_0 (x_lt hN rfl) rfl rfl rfl lk_RX12_126 dX12_next_136 (fun r136 h => ?_)
              refine lv_iconst (v := (nI 1)) hx hb dX12_next_139 (by decide) ?_
              refine lv_iadd hx hb dX12_next_140 ?_
              refine xh_puti C hw 0 6 h sM_0 (x_lt hN rfl) rfl rfl rfl lk_RX12_126 rfl rfl dX12_next_141 (fun H locs M hw h => ?_)
              exact w144 _ _ _ _ _ _ hw (lv_sub hl [0, 1] rfl) h
          intro M t0 H locs ls hw hl h
          unfold f_X12_next_95 at h
          refine lv_istore_n (lv' := [(2, .int _), (0, .ref (q 0))]) hx hb dX12_next_95 rfl hl (by decide) rfl (fun ls hl => ?_)
          refine lv_aload_n hx hb dX12_next_96 rfl (lv_at hl 1 rfl) ?_
          refine lv_aload_n hx hb dX12_next_97 rfl (lv_at hl 1 rfl) ?_
          refine xh_geti C hw 0 5 h sM_0 (x_lt hN rfl) rfl rfl rfl lk_RX12_120 dX12_next_98 (fun r98 h => ?_)
          refine lv_aload_n hx hb dX12_next_101 rfl (lv_at hl 1 rfl) ?_
          refine xh_geti C hw 0 7 h sM_0 (x_lt hN rfl) rfl rfl rfl lk_RX12_129 dX12_next_102 (fun r102 h => ?_)
          refine x_icmp_ne (tgt := 112) hx hb h dX12_next_105 (by decide) (fun h => ?_) (fun h => ?_)
          · refine lv_iconst (v := (nI 0)) hx hb dX12_next_108 (by decide) ?_
            refine lv_goto (tgt := 124) hx hb dX12_next_109 (by decide) ?_
            exact w124 _ _ _ _ _ _ hw (lv_sub hl [1, 0] rfl) h
          · refine lv_aload_n hx hb dX12_next_112 rfl (lv_at hl 1 rfl) ?_
            refine xh_getr C hw 0 3 sM_0 (x_lt hN rfl) rfl rfl rfl lk_RX12_16 dX12_next_113 ?_
            refine lv_aload_n hx hb dX12_next_116 rfl (lv_at hl 1 rfl) ?_
            refine xh_geti C hw 0 5 h sM_0 (x_lt hN rfl) rfl rfl rfl lk_RX12_120 dX12_next_117 (fun r117 h => ?_)
            refine xh_iald C hw 3 132 h sM_3 (x_lt hN rfl) dX12_next_120 (fun r120 h => ?_)
            refine xh_cSi C hw (rest := [_]) h (fun _ hy => c_X12_sortOf hq hy) ml_RX12_135 st_X12_sortOf ⟨rfl, rfl, by decide, by decide⟩ rfl hl.1 rfl (Nat.le_of_ble_eq_true rfl) dX12_next_121 (fun H locs r121 M hw h => ?_)
            exact w124 _ _ _ _ _ _ hw (lv_sub hl [1, 0] rfl) h
        have w94 : ∀ (M : x_M) (H : Heap) (locs : List Loc) (ls : Array Slot), x_B D cy q ad x_spM 24 s H locs M → lv_has ls 3 [(0, .ref (q 0))] → f_X12_next_94 M = some z → W p l e rm_X12_next s m args below meth c H locs 0 0 Q (F0 m 94 ls []) := by
          intro M H locs ls hw hl h
          unfold f_X12_next_94 at h
          refine lv_iconst (v := (nI 0)) hx hb dX12_next_94 (by decide) ?_
          exact w95 _ _ _ _ _ hw (lv_sub hl [0] rfl) h
        intro M v1 H locs ls hw hl h
        unfold f_X12_next_59 at h
        refine lv_aload_n hx hb dX12_next_59 rfl (lv_at hl 0 rfl) ?_
        refine lv_aload_n hx hb dX12_next_60 rfl (lv_at hl 0 rfl) ?_
        refine xh_geti C hw 0 5 h sM_0 (x_lt hN rfl) rfl rfl rfl lk_RX12_120 dX12_next_61 (fun r61 h => ?_)
        refine xh_puti C hw 0 6 h sM_0 (x_lt hN rfl) rfl rfl rfl lk_RX12_126 rfl rfl dX12_next_64 (fun H locs M hw h => ?_)
        refine lv_aload_n hx hb dX12_next_67 rfl (lv_at hl 0 rfl) ?_
        refine xh_geti C hw 0 5 h sM_0 (x_lt hN rfl) rfl rfl rfl lk_RX12_120 dX12_next_68 (fun r68 h => ?_)
        refine lv_iload_n hx hb dX12_next_71 rfl (lv_at hl 1 rfl) ?_
        refine x_icmp_ne (tgt := 94) hx hb h dX12_next_72 (by decide) (fun h => ?_) (fun h => ?_)
        · refine lv_aload_n hx hb dX12_next_75 rfl (lv_at hl 0 rfl) ?_
          refine xh_geti C hw 0 8 h sM_0 (x_lt hN rfl) rfl rfl rfl lk_RX12_132 dX12_next_76 (fun r76 h => ?_)
          refine x_if_eq (tgt := 94) hx hb h dX12_next_79 (by decide) (fun h => ?_) (fun h => ?_)
          · exact w94 _ _ _ _ hw (lv_sub hl [0] rfl) h
          · refine lv_aload_n hx hb dX12_next_82 rfl (lv_at hl 0 rfl) ?_
            refine xh_geti C hw 0 8 h sM_0 (x_lt hN rfl) rfl rfl rfl lk_RX12_132 dX12_next_83 (fun r83 h => ?_)
            refine lv_iconst (v := (nI 3)) hx hb dX12_next_86 (by decide) ?_
            refine x_icmp_eq (tgt := 94) hx hb h dX12_next_87 (by decide) (fun h => ?_) (fun h => ?_)
            · exact w94 _ _ _ _ hw (lv_sub hl [0] rfl) h
            · refine lv_iconst (v := (nI 1)) hx hb dX12_next_90 (by decide) ?_
              refine lv_goto (tgt := 95) hx hb dX12_next_91 (by decide) ?_
              exact w95 _ _ _ _ _ hw (lv_sub hl [0] rfl) h
        · exact w94 _ _ _ _ hw (lv_sub hl [0] rfl) h
      intro M v1 H locs ls hw hl h
      rw [f_X12_next_21_s] at h
      refine lv_aload_n hx hb dX12_next_21 rfl (lv_at hl 0 rfl) ?_
      refine xh_geti C hw 0 5 h sM_0 (x_lt hN rfl) rfl rfl rfl lk_RX12_120 dX12_next_22 (fun r22 h => ?_)
      refine lv_aload_n hx hb dX12_next_25 rfl (lv_at hl 0 rfl) ?_
      refine xh_geti C hw 0 7 h sM_0 (x_lt hN rfl) rfl rfl rfl lk_RX12_129 dX12_next_26 (fun r26 h => ?_)
      refine x_icmp_ge (tgt := 59) hx hb h dX12_next_29 (by decide) (fun h => ?_) (fun h => ?_)
      · exact w59 _ _ _ _ _ hw (lv_sub hl [0, 1] rfl) h
      · refine lv_aload_n hx hb dX12_next_32 rfl (lv_at hl 0 rfl) ?_
        refine xh_getr C hw 0 3 sM_0 (x_lt hN rfl) rfl rfl rfl lk_RX12_16 dX12_next_33 ?_
        refine lv_aload_n hx hb dX12_next_36 rfl (lv_at hl 0 rfl) ?_
        refine xh_geti C hw 0 5 h sM_0 (x_lt hN rfl) rfl rfl rfl lk_RX12_120 dX12_next_37 (fun r37 h => ?_)
        refine xh_iald C hw 3 132 h sM_3 (x_lt hN rfl) dX12_next_40 (fun r40 h => ?_)
        refine lv_bipush (v := (nI 32)) hx hb dX12_next_41 (by decide) ?_
        refine x_icmp_ne (tgt := 59) hx hb h dX12_next_43 (by decide) (fun h => ?_) (fun h => ?_)
        · refine lv_aload_n hx hb dX12_next_46 rfl (lv_at hl 0 rfl) ?_
          refine lv_dup hx hb dX12_next_47 rfl ?_
          refine xh_geti C hw 0 5 h sM_0 (x_lt hN rfl) rfl rfl rfl lk_RX12_120 dX12_next_48 (fun r48 h => ?_)
          refine lv_iconst (v := (nI 1)) hx hb dX12_next_51 (by decide) ?_
          refine lv_iadd hx hb dX12_next_52 ?_
          refine xh_puti C hw 0 5 h sM_0 (x_lt hN rfl) rfl rfl rfl lk_RX12_120 rfl rfl dX12_next_53 (fun H locs M hw h => ?_)
          refine lv_goto (tgt := 21) hx hb dX12_next_56 (by decide) ?_
          exact ih21 _ _ _ _ _ hw (lv_sub hl [0, 1] rfl) h
        · exact w59 _ _ _ _ _ hw (lv_sub hl [0, 1] rfl) h
  unfold f_X12_next at h
  refine lv_aload_n hx hb dX12_next_0 rfl (lv_at hl 0 rfl) ?_
  refine xh_geti C hw 0 10 h sM_0 (x_lt hN rfl) rfl rfl rfl lk_RX12_116 dX12_next_1 (fun r1 h => ?_)
  refine x_if_eq (tgt := 8) hx hb h dX12_next_4 (by decide) (fun h => ?_) (fun h => ?_)
  · refine lv_aload_n hx hb dX12_next_8 rfl (lv_at hl 0 rfl) ?_
    refine xh_geti C hw 0 6 h sM_0 (x_lt hN rfl) rfl rfl rfl lk_RX12_126 dX12_next_9 (fun r9 h => ?_)
    refine lv_istore_n (lv' := [(1, .int _), (0, .ref (q 0))]) hx hb dX12_next_12 rfl hl (by decide) rfl (fun ls hl => ?_)
    refine lv_aload_n hx hb dX12_next_13 rfl (lv_at hl 1 rfl) ?_
    refine lv_aload_n hx hb dX12_next_14 rfl (lv_at hl 1 rfl) ?_
    refine xh_geti C hw 0 6 h sM_0 (x_lt hN rfl) rfl rfl rfl lk_RX12_126 dX12_next_15 (fun r15 h => ?_)
    refine xh_puti C hw 0 5 h sM_0 (x_lt hN rfl) rfl rfl rfl lk_RX12_120 rfl rfl dX12_next_18 (fun H locs M hw h => ?_)
    exact w21 _ _ _ _ _ _ hw (lv_sub hl [1, 0] rfl) h
  · exact hret dX12_next_7 hw h
def f_X12_isSign_25 (M : x_M) : Option (Int32 × x_M) := some ((nI 0), M)
def f_X12_isSign (M : x_M) (a1 : Int32) : Option (Int32 × x_M) := x_gf M 0 8 (fun r1 => if r1 = (nI 3) then x_gf M 0 5 (fun r13 => x_rd 132 (M 3) r13 (fun r16 => if r16 = a1 then some ((nI 1), M) else f_X12_isSign_25 M)) else f_X12_isSign_25 M)
abbrev rm_X12_isSign : Room := { frames := 0, cells := 0, slots := 0, locals := 0 }
set_option maxHeartbeats 4000000 in
set_option maxRecDepth 100000 in
theorem c_X12_isSign {l : Launch} {D : va_G} {cy : Nat → ClassId} {q ad : Nat → Nat} {s0 : State} (hq : x_Q q 24 s0.heap.size) {M : x_M} {a1 : Int32} {z : Int32 × x_M} (h : f_X12_isSign M a1 = some z) : x_Ci l D cy q ad x_spM 24 s0 yX12_isSign (x_uw yX12_isSign cX12_isSign 2 (some .boolean)) rm_X12_isSign [.ref (q 0), .int a1] M z.1 z.2 := by
  have hN : 24 ≤ 24 := Nat.le_refl _
  refine x_meti hq (by decide) (Nat.le_of_ble_eq_true rfl) ?_
  intro p e s m args below meth c ls Q C hret hl hw
  have hx := C.1.1
  have hb := C.1.2.1
  have ho := C.1.2.2.2.1
  have hL := C.1.2.2.2.2
  have hl : lv_has ls 2 [(0, .ref (q 0)), (1, .int a1)] := hl
  have w25 : ∀ (M : x_M) (H : Heap) (locs : List Loc) (ls : Array Slot), x_B D cy q ad x_spM 24 s H locs M → lv_has ls 2 [] → f_X12_isSign_25 M = some z → W p l e rm_X12_isSign s m args below meth c H locs 0 0 Q (F0 m 25 ls []) := by
    intro M H locs ls hw hl h
    unfold f_X12_isSign_25 at h
    refine lv_iconst (v := (nI 0)) hx hb dX12_isSign_25 (by decide) ?_
    exact hret dX12_isSign_26 rfl hw h
  unfold f_X12_isSign at h
  refine lv_aload_n hx hb dX12_isSign_0 rfl (lv_at hl 0 rfl) ?_
  refine xh_geti C hw 0 8 h sM_0 (x_lt hN rfl) rfl rfl rfl lk_RX12_132 dX12_isSign_1 (fun r1 h => ?_)
  refine lv_iconst (v := (nI 3)) hx hb dX12_isSign_4 (by decide) ?_
  refine x_icmp_ne (tgt := 25) hx hb h dX12_isSign_5 (by decide) (fun h => ?_) (fun h => ?_)
  · refine lv_aload_n hx hb dX12_isSign_8 rfl (lv_at hl 0 rfl) ?_
    refine xh_getr C hw 0 3 sM_0 (x_lt hN rfl) rfl rfl rfl lk_RX12_16 dX12_isSign_9 ?_
    refine lv_aload_n hx hb dX12_isSign_12 rfl (lv_at hl 0 rfl) ?_
    refine xh_geti C hw 0 5 h sM_0 (x_lt hN rfl) rfl rfl rfl lk_RX12_120 dX12_isSign_13 (fun r13 h => ?_)
    refine xh_iald C hw 3 132 h sM_3 (x_lt hN rfl) dX12_isSign_16 (fun r16 h => ?_)
    refine lv_iload_n hx hb dX12_isSign_17 rfl (lv_at hl 1 rfl) ?_
    refine x_icmp_ne (tgt := 25) hx hb h dX12_isSign_18 (by decide) (fun h => ?_) (fun h => ?_)
    · refine lv_iconst (v := (nI 1)) hx hb dX12_isSign_21 (by decide) ?_
      refine lv_goto (tgt := 26) hx hb dX12_isSign_22 (by decide) ?_
      exact hret dX12_isSign_26 rfl hw h
    · exact w25 _ _ _ _ hw (lv_sub hl [] rfl) h
  · exact w25 _ _ _ _ hw (lv_sub hl [] rfl) h
def f_X12_isLetter_42 (M : x_M) : Option (Int32 × x_M) := some ((nI 0), M)
def f_X12_isLetter (M : x_M) (a1 : Int32) (a2 : Int32) : Option (Int32 × x_M) := if a2 = 0 then x_gf M 0 6 (fun r6 => if a1 = r6 then some ((nI 1), M) else some ((nI 0), M)) else x_gf M 0 6 (fun r22 => if r22 ≤ a1 then f_X12_isLetter_42 M else x_rd 132 (M 3) a1 (fun r33 => if r33 = a2 then some ((nI 1), M) else f_X12_isLetter_42 M))
abbrev rm_X12_isLetter : Room := { frames := 0, cells := 0, slots := 0, locals := 0 }
set_option maxHeartbeats 4000000 in
set_option maxRecDepth 100000 in
theorem c_X12_isLetter {l : Launch} {D : va_G} {cy : Nat → ClassId} {q ad : Nat → Nat} {s0 : State} (hq : x_Q q 24 s0.heap.size) {M : x_M} {a1 : Int32} {a2 : Int32} {z : Int32 × x_M} (h : f_X12_isLetter M a1 a2 = some z) : x_Ci l D cy q ad x_spM 24 s0 yX12_isLetter (x_uw yX12_isLetter cX12_isLetter 3 (some .boolean)) rm_X12_isLetter [.ref (q 0), .int a1, .int a2] M z.1 z.2 := by
  have hN : 24 ≤ 24 := Nat.le_refl _
  refine x_meti hq (by decide) (Nat.le_of_ble_eq_true rfl) ?_
  intro p e s m args below meth c ls Q C hret hl hw
  have hx := C.1.1
  have hb := C.1.2.1
  have ho := C.1.2.2.2.1
  have hL := C.1.2.2.2.2
  have hl : lv_has ls 3 [(0, .ref (q 0)), (1, .int a1), (2, .int a2)] := hl
  have w42 : ∀ (M : x_M) (H : Heap) (locs : List Loc) (ls : Array Slot), x_B D cy q ad x_spM 24 s H locs M → lv_has ls 3 [] → f_X12_isLetter_42 M = some z → W p l e rm_X12_isLetter s m args below meth c H locs 0 0 Q (F0 m 42 ls []) := by
    intro M H locs ls hw hl h
    unfold f_X12_isLetter_42 at h
    refine lv_iconst (v := (nI 0)) hx hb dX12_isLetter_42 (by decide) ?_
    exact hret dX12_isLetter_43 rfl hw h
  unfold f_X12_isLetter at h
  refine lv_iload_n hx hb dX12_isLetter_0 rfl (lv_at hl 2 rfl) ?_
  refine x_if_ne (tgt := 20) hx hb h dX12_isLetter_1 (by decide) (fun h => ?_) (fun h => ?_)
  · refine lv_iload_n hx hb dX12_isLetter_4 rfl (lv_at hl 1 rfl) ?_
    refine lv_aload_n hx hb dX12_isLetter_5 rfl (lv_at hl 0 rfl) ?_
    refine xh_geti C hw 0 6 h sM_0 (x_lt hN rfl) rfl rfl rfl lk_RX12_126 dX12_isLetter_6 (fun r6 h => ?_)
    refine x_icmp_ne (tgt := 16) hx hb h dX12_isLetter_9 (by decide) (fun h => ?_) (fun h => ?_)
    · refine lv_iconst (v := (nI 1)) hx hb dX12_isLetter_12 (by decide) ?_
      refine lv_goto (tgt := 43) hx hb dX12_isLetter_13 (by decide) ?_
      exact hret dX12_isLetter_43 rfl hw h
    · refine lv_iconst (v := (nI 0)) hx hb dX12_isLetter_16 (by decide) ?_
      refine lv_goto (tgt := 43) hx hb dX12_isLetter_17 (by decide) ?_
      exact hret dX12_isLetter_43 rfl hw h
  · refine lv_iload_n hx hb dX12_isLetter_20 rfl (lv_at hl 1 rfl) ?_
    refine lv_aload_n hx hb dX12_isLetter_21 rfl (lv_at hl 0 rfl) ?_
    refine xh_geti C hw 0 6 h sM_0 (x_lt hN rfl) rfl rfl rfl lk_RX12_126 dX12_isLetter_22 (fun r22 h => ?_)
    refine x_icmp_ge (tgt := 42) hx hb h dX12_isLetter_25 (by decide) (fun h => ?_) (fun h => ?_)
    · exact w42 _ _ _ _ hw (lv_sub hl [] rfl) h
    · refine lv_aload_n hx hb dX12_isLetter_28 rfl (lv_at hl 0 rfl) ?_
      refine xh_getr C hw 0 3 sM_0 (x_lt hN rfl) rfl rfl rfl lk_RX12_16 dX12_isLetter_29 ?_
      refine lv_iload_n hx hb dX12_isLetter_32 rfl (lv_at hl 1 rfl) ?_
      refine xh_iald C hw 3 132 h sM_3 (x_lt hN rfl) dX12_isLetter_33 (fun r33 h => ?_)
      refine lv_iload_n hx hb dX12_isLetter_34 rfl (lv_at hl 2 rfl) ?_
      refine x_icmp_ne (tgt := 42) hx hb h dX12_isLetter_35 (by decide) (fun h => ?_) (fun h => ?_)
      · refine lv_iconst (v := (nI 1)) hx hb dX12_isLetter_38 (by decide) ?_
        refine lv_goto (tgt := 43) hx hb dX12_isLetter_39 (by decide) ?_
        exact hret dX12_isLetter_43 rfl hw h
      · exact w42 _ _ _ _ hw (lv_sub hl [] rfl) h
def f_X12_isWord_129 (M : x_M) : Option (Int32 × x_M) := some ((nI 1), M)
def f_X12_isWord_133 (M : x_M) : Option (Int32 × x_M) := some ((nI 0), M)
def f_X12_isWord_111 (M : x_M) (v5 : Int32) : Option (Int32 × x_M) := if v5 = 0 then f_X12_isWord_129 M else x_gf M 0 6 (fun r117 => x_gf M 0 5 (fun r121 => if r117 = (r121 + (nI 5)) then f_X12_isWord_129 M else f_X12_isWord_133 M))
def f_X12_isWord_84 (M : x_M) (v4 : Int32) (v5 : Int32) (t0 : Int32) : Option (Int32 × x_M) := if t0 = 0 then f_X12_isWord_133 M else if v4 = 0 then f_X12_isWord_111 M v5 else x_gf M 0 5 (fun r98 => x_bn (f_X12_isLetter M (r98 + (nI 4)) v5) (fun r105 M => if r105 = 0 then f_X12_isWord_133 M else f_X12_isWord_111 M v5))
def f_X12_isWord_79 (M : x_M) (v4 : Int32) (v5 : Int32) : Option (Int32 × x_M) := f_X12_isWord_84 M v4 v5 (nI 1)
def f_X12_isWord_83 (M : x_M) (v4 : Int32) (v5 : Int32) : Option (Int32 × x_M) := f_X12_isWord_84 M v4 v5 (nI 0)
def f_X12_isWord_53 (M : x_M) (v3 : Int32) (v4 : Int32) (v5 : Int32) (t0 : Int32) : Option (Int32 × x_M) := if t0 = 0 then f_X12_isWord_83 M v4 v5 else if v3 = 0 then f_X12_isWord_79 M v4 v5 else x_gf M 0 5 (fun r66 => x_bn (f_X12_isLetter M (r66 + (nI 3)) v4) (fun r73 M => if r73 = 0 then f_X12_isWord_83 M v4 v5 else f_X12_isWord_79 M v4 v5))
def f_X12_isWord_52 (M : x_M) (v3 : Int32) (v4 : Int32) (v5 : Int32) : Option (Int32 × x_M) := f_X12_isWord_53 M v3 v4 v5 (nI 0)
def f_X12_isWord (M : x_M) (a1 : Int32) (a2 : Int32) (a3 : Int32) (a4 : Int32) (a5 : Int32) : Option (Int32 × x_M) := x_gf M 0 8 (fun r1 => if r1 = (nI 1) then x_gf M 0 5 (fun r10 => x_bn (f_X12_isLetter M r10 a1) (fun r14 M => if r14 = 0 then f_X12_isWord_52 M a3 a4 a5 else x_gf M 0 5 (fun r22 => x_bn (f_X12_isLetter M (r22 + (nI 1)) a2) (fun r28 M => if r28 = 0 then f_X12_isWord_52 M a3 a4 a5 else x_gf M 0 5 (fun r36 => x_bn (f_X12_isLetter M (r36 + (nI 2)) a3) (fun r42 M => if r42 = 0 then f_X12_isWord_52 M a3 a4 a5 else f_X12_isWord_53 M a3 a4 a5 (nI 1))))))) else f_X12_isWord_52 M a3 a4 a5)
abbrev rm_X12_isWord : Room := { frames := 1, cells := 0, slots := 0, locals := 22 }
set_option maxHeartbeats 4000000 in
set_option maxRecDepth 100000 in
theorem c_X12_isWord {l : Launch} {D : va_G} {cy : Nat → ClassId} {q ad : Nat → Nat} {s0 : State} (hq : x_Q q 24 s0.heap.size) {M : x_M} {a1 : Int32} {a2 : Int32} {a3 : Int32} {a4 : Int32} {a5 : Int32} {z : Int32 × x_M} (h : f_X12_isWord M a1 a2 a3 a4 a5 = some z) : x_Ci l D cy q ad x_spM 24 s0 yX12_isWord (x_uw yX12_isWord cX12_isWord 7 (some .boolean)) rm_X12_isWord [.ref (q 0), .int a1, .int a2, .int a3, .int a4, .int a5] M z.1 z.2 := by
  have hN : 24 ≤ 24 := Nat.le_refl _
  refine x_meti hq (by decide) (Nat.le_of_ble_eq_true rfl) ?_
  intro p e s m args below meth c ls Q C hret hl hw
  have hx := C.1.1
  have hb := C.1.2.1
  have ho := C.1.2.2.2.1
  have hL := C.1.2.2.2.2
  have hl : lv_has ls 7 [(0, .ref (q 0)), (1, .int a1), (2, .int a2), (3, .int a3), (4, .int a4), (5, .int a5)] := hl
  have w53 : ∀ (M : x_M) (v3 : Int32) (v4 : Int32) (v5 : Int32) (t0 : Int32) (H : Heap) (locs : List Loc) (ls : Array Slot), x_B D cy q ad x_spM 24 s H locs M → lv_has ls 7 [(0, .ref (q 0)), (3, .int v3), (4, .int v4), (5, .int v5)] → f_X12_isWord_53 M v3 v4 v5 t0 = some z → W p l e rm_X12_isWord s m args below meth c H locs 0 0 Q (F0 m 53 ls [.int t0]) := by
    have w84 : ∀ (M : x_M) (v4 : Int32) (v5 : Int32) (t0 : Int32) (H : Heap) (locs : List Loc) (ls : Array Slot), x_B D cy q ad x_spM 24 s H locs M → lv_has ls 7 [(0, .ref (q 0)), (4, .int v4), (5, .int v5)] → f_X12_isWord_84 M v4 v5 t0 = some z → W p l e rm_X12_isWord s m args below meth c H locs 0 0 Q (F0 m 84 ls [.int t0]) := by
      have w133 : ∀ (M : x_M) (H : Heap) (locs : List Loc) (ls : Array Slot), x_B D cy q ad x_spM 24 s H locs M → lv_has ls 7 [] → f_X12_isWord_133 M = some z → W p l e rm_X12_isWord s m args below meth c H locs 0 0 Q (F0 m 133 ls []) := by
        intro M H locs ls hw hl h
        unfold f_X12_isWord_133 at h
        refine lv_iconst (v := (nI 0)) hx hb dX12_isWord_133 (by decide) ?_
        exact hret dX12_isWord_134 rfl hw h
      have w111 : ∀ (M : x_M) (v5 : Int32) (H : Heap) (locs : List Loc) (ls : Array Slot), x_B D cy q ad x_spM 24 s H locs M → lv_has ls 7 [(0, .ref (q 0)), (5, .int v5)] → f_X12_isWord_111 M v5 = some z → W p l e rm_X12_isWord s m args below meth c H locs 0 0 Q (F0 m 111 ls []) := by
        have w129 : ∀ (M : x_M) (H : Heap) (locs : List Loc) (ls : Array Slot), x_B D cy q ad x_spM 24 s H locs M → lv_has ls 7 [] → f_X12_isWord_129 M = some z → W p l e rm_X12_isWord s m args below meth c H locs 0 0 Q (F0 m 129 ls []) := by
          intro M H locs ls hw hl h
          unfold f_X12_isWord_129 at h
          refine lv_iconst (v := (nI 1)) hx hb dX12_isWord_129 (by decide) ?_
          refine lv_goto (tgt := 134) hx hb dX12_isWord_130 (by decide) ?_
          exact hret dX12_isWord_134 rfl hw h
        intro M v5 H locs ls hw hl h
        unfold f_X12_isWord_111 at h
        refine lv_iload hx hb dX12_isWord_111 (lv_at hl 1 rfl) ?_
        refine x_if_eq (tgt := 129) hx hb h dX12_isWord_113 (by decide) (fun h => ?_) (fun h => ?_)
        · exact w129 _ _ _ _ hw (lv_sub hl [] rfl) h
        · refine lv_aload_n hx hb dX12_isWord_116 rfl (lv_at hl 0 rfl) ?_
          refine xh_geti C hw 0 6 h sM_0 (x_lt hN rfl) rfl rfl rfl lk_RX12_126 dX12_isWord_117 (fun r117 h => ?_)
          refine lv_aload_n hx hb dX12_isWord_120 rfl (lv_at hl 0 rfl) ?_
          refine xh_geti C hw 0 5 h sM_0 (x_lt hN rfl) rfl rfl rfl lk_RX12_120 dX12_isWord_121 (fun r121 h => ?_)
          refine lv_iconst (v := (nI 5)) hx hb dX12_isWord_124 (by decide) ?_
          refine lv_iadd hx hb dX12_isWord_125 ?_
          refine x_icmp_ne (tgt := 133) hx hb h dX12_isWord_126 (by decide) (fun h => ?_) (fun h => ?_)
          · exact w129 _ _ _ _ hw (lv_sub hl [] rfl) h
          · exact w133 _ _ _ _ hw (lv_sub hl [] rfl) h
      intro M v4 v5 t0 H locs ls hw hl h
      unfold f_X12_isWord_84 at h
      refine lv_istore (lv' := [(6, .int _), (0, .ref (q 0)), (4, .int _), (5, .int _)]) hx hb dX12_isWord_84 hl (by decide) rfl (fun ls hl => ?_)
      refine lv_iload hx hb dX12_isWord_86 (lv_at hl 0 rfl) ?_
      refine x_if_eq (tgt := 133) hx hb h dX12_isWord_88 (by decide) (fun h => ?_) (fun h => ?_)
      · exact w133 _ _ _ _ hw (lv_sub hl [] rfl) h
      · refine lv_iload hx hb dX12_isWord_91 (lv_at hl 2 rfl) ?_
        refine x_if_eq (tgt := 111) hx hb h dX12_isWord_93 (by decide) (fun h => ?_) (fun h => ?_)
        · exact w111 _ _ _ _ _ hw (lv_sub hl [1, 3] rfl) h
        · refine lv_aload_n hx hb dX12_isWord_96 rfl (lv_at hl 1 rfl) ?_
          refine lv_aload_n hx hb dX12_isWord_97 rfl (lv_at hl 1 rfl) ?_
          refine xh_geti C hw 0 5 h sM_0 (x_lt hN rfl) rfl rfl rfl lk_RX12_120 dX12_isWord_98 (fun r98 h => ?_)
          refine lv_iconst (v := (nI 4)) hx hb dX12_isWord_101 (by decide) ?_
          refine lv_iadd hx hb dX12_isWord_102 ?_
          refine lv_iload hx hb dX12_isWord_103 (lv_at hl 3 rfl) ?_
          refine xh_cVi C hw (rest := []) h (fun _ hy => c_X12_isLetter hq hy) ml_RX12_141 mv_X12_isLetter sM_0 (x_lt hN rfl) rfl ⟨rfl, rfl, by decide, by decide⟩ rfl hl.1 rfl (Nat.le_of_ble_eq_true rfl) dX12_isWord_105 (fun H locs r105 M hw h => ?_)
          refine x_if_eq (tgt := 133) hx hb h dX12_isWord_108 (by decide) (fun h => ?_) (fun h => ?_)
          · exact w133 _ _ _ _ hw (lv_sub hl [] rfl) h
          · exact w111 _ _ _ _ _ hw (lv_sub hl [1, 3] rfl) h
    have w79 : ∀ (M : x_M) (v4 : Int32) (v5 : Int32) (H : Heap) (locs : List Loc) (ls : Array Slot), x_B D cy q ad x_spM 24 s H locs M → lv_has ls 7 [(0, .ref (q 0)), (4, .int v4), (5, .int v5)] → f_X12_isWord_79 M v4 v5 = some z → W p l e rm_X12_isWord s m args below meth c H locs 0 0 Q (F0 m 79 ls []) := by
      intro M v4 v5 H locs ls hw hl h
      unfold f_X12_isWord_79 at h
      refine lv_iconst (v := (nI 1)) hx hb dX12_isWord_79 (by decide) ?_
      refine lv_goto (tgt := 84) hx hb dX12_isWord_80 (by decide) ?_
      exact w84 _ _ _ _ _ _ _ hw (lv_sub hl [0, 1, 2] rfl) h
    have w83 : ∀ (M : x_M) (v4 : Int32) (v5 : Int32) (H : Heap) (locs : List Loc) (ls : Array Slot), x_B D cy q ad x_spM 24 s H locs M → lv_has ls 7 [(0, .ref (q 0)), (4, .int v4), (5, .int v5)] → f_X12_isWord_83 M v4 v5 = some z → W p l e rm_X12_isWord s m args below meth c H locs 0 0 Q (F0 m 83 ls []) := by
      intro M v4 v5 H locs ls hw hl h
      unfold f_X12_isWord_83 at h
      refine lv_iconst (v := (nI 0)) hx hb dX12_isWord_83 (by decide) ?_
      exact w84 _ _ _ _ _ _ _ hw (lv_sub hl [0, 1, 2] rfl) h
    intro M v3 v4 v5 t0 H locs ls hw hl h
    unfold f_X12_isWord_53 at h
    refine lv_istore (lv' := [(6, .int _), (0, .ref (q 0)), (3, .int _), (4, .int _), (5, .int _)]) hx hb dX12_isWord_53 hl (by decide) rfl (fun ls hl => ?_)
    refine lv_iload hx hb dX12_isWord_55 (lv_at hl 0 rfl) ?_
    refine x_if_eq (tgt := 83) hx hb h dX12_isWord_57 (by decide) (fun h => ?_) (fun h => ?_)
    · exact w83 _ _ _ _ _ _ hw (lv_sub hl [1, 3, 4] rfl) h
    · refine lv_iload_n hx hb dX12_isWord_60 rfl (lv_at hl 2 rfl) ?_
      refine x_if_eq (tgt := 79) hx hb h dX12_isWord_61 (by decide) (fun h => ?_) (fun h => ?_)
      · exact w79 _ _ _ _ _ _ hw (lv_sub hl [1, 3, 4] rfl) h
      · refine lv_aload_n hx hb dX12_isWord_64 rfl (lv_at hl 1 rfl) ?_
        refine lv_aload_n hx hb dX12_isWord_65 rfl (lv_at hl 1 rfl) ?_
        refine xh_geti C hw 0 5 h sM_0 (x_lt hN rfl) rfl rfl rfl lk_RX12_120 dX12_isWord_66 (fun r66 h => ?_)
        refine lv_iconst (v := (nI 3)) hx hb dX12_isWord_69 (by decide) ?_
        refine lv_iadd hx hb dX12_isWord_70 ?_
        refine lv_iload hx hb dX12_isWord_71 (lv_at hl 3 rfl) ?_
        refine xh_cVi C hw (rest := []) h (fun _ hy => c_X12_isLetter hq hy) ml_RX12_141 mv_X12_isLetter sM_0 (x_lt hN rfl) rfl ⟨rfl, rfl, by decide, by decide⟩ rfl hl.1 rfl (Nat.le_of_ble_eq_true rfl) dX12_isWord_73 (fun H locs r73 M hw h => ?_)
        refine x_if_eq (tgt := 83) hx hb h dX12_isWord_76 (by decide) (fun h => ?_) (fun h => ?_)
        · exact w83 _ _ _ _ _ _ hw (lv_sub hl [1, 3, 4] rfl) h
        · exact w79 _ _ _ _ _ _ hw (lv_sub hl [1, 3, 4] rfl) h
  have w52 : ∀ (M : x_M) (v3 : Int32) (v4 : Int32) (v5 : Int32) (H : Heap) (locs : List Loc) (ls : Array Slot), x_B D cy q ad x_spM 24 s H locs M → lv_has ls 7 [(0, .ref (q 0)), (3, .int v3), (4, .int v4), (5, .int v5)] → f_X12_isWord_52 M v3 v4 v5 = some z → W p l e rm_X12_isWord s m args below meth c H locs 0 0 Q (F0 m 52 ls []) := by
    intro M v3 v4 v5 H locs ls hw hl h
    unfold f_X12_isWord_52 at h
    refine lv_iconst (v := (nI 0)) hx hb dX12_isWord_52 (by decide) ?_
    exact w53 _ _ _ _ _ _ _ _ hw (lv_sub hl [0, 1, 2, 3] rfl) h
  unfold f_X12_isWord at h
  refine lv_aload_n hx hb dX12_isWord_0 rfl (lv_at hl 0 rfl) ?_
  refine xh_geti C hw 0 8 h sM_0 (x_lt hN rfl) rfl rfl rfl lk_RX12_132 dX12_isWord_1 (fun r1 h => ?_)
  refine lv_iconst (v := (nI 1)) hx hb dX12_isWord_4 (by decide) ?_
  refine x_icmp_ne (tgt := 52) hx hb h dX12_isWord_5 (by decide) (fun h => ?_) (fun h => ?_)
  · refine lv_aload_n hx hb dX12_isWord_8 rfl (lv_at hl 0 rfl) ?_
    refine lv_aload_n hx hb dX12_isWord_9 rfl (lv_at hl 0 rfl) ?_
    refine xh_geti C hw 0 5 h sM_0 (x_lt hN rfl) rfl rfl rfl lk_RX12_120 dX12_isWord_10 (fun r10 h => ?_)
    refine lv_iload_n hx hb dX12_isWord_13 rfl (lv_at hl 1 rfl) ?_
    refine xh_cVi C hw (rest := []) h (fun _ hy => c_X12_isLetter hq hy) ml_RX12_141 mv_X12_isLetter sM_0 (x_lt hN rfl) rfl ⟨rfl, rfl, by decide, by decide⟩ rfl hl.1 rfl (Nat.le_of_ble_eq_true rfl) dX12_isWord_14 (fun H locs r14 M hw h => ?_)
    refine x_if_eq (tgt := 52) hx hb h dX12_isWord_17 (by decide) (fun h => ?_) (fun h => ?_)
    · exact w52 _ _ _ _ _ _ _ hw (lv_sub hl [0, 3, 4, 5] rfl) h
    · refine lv_aload_n hx hb dX12_isWord_20 rfl (lv_at hl 0 rfl) ?_
      refine lv_aload_n hx hb dX12_isWord_21 rfl (lv_at hl 0 rfl) ?_
      refine xh_geti C hw 0 5 h sM_0 (x_lt hN rfl) rfl rfl rfl lk_RX12_120 dX12_isWord_22 (fun r22 h => ?_)
      refine lv_iconst (v := (nI 1)) hx hb dX12_isWord_25 (by decide) ?_
      refine lv_iadd hx hb dX12_isWord_26 ?_
      refine lv_iload_n hx hb dX12_isWord_27 rfl (lv_at hl 2 rfl) ?_
      refine xh_cVi C hw (rest := []) h (fun _ hy => c_X12_isLetter hq hy) ml_RX12_141 mv_X12_isLetter sM_0 (x_lt hN rfl) rfl ⟨rfl, rfl, by decide, by decide⟩ rfl hl.1 rfl (Nat.le_of_ble_eq_true rfl) dX12_isWord_28 (fun H locs r28 M hw h => ?_)
      refine x_if_eq (tgt := 52) hx hb h dX12_isWord_31 (by decide) (fun h => ?_) (fun h => ?_)
      · exact w52 _ _ _ _ _ _ _ hw (lv_sub hl [0, 3, 4, 5] rfl) h
      · refine lv_aload_n hx hb dX12_isWord_34 rfl (lv_at hl 0 rfl) ?_
        refine lv_aload_n hx hb dX12_isWord_35 rfl (lv_at hl 0 rfl) ?_
        refine xh_geti C hw 0 5 h sM_0 (x_lt hN rfl) rfl rfl rfl lk_RX12_120 dX12_isWord_36 (fun r36 h => ?_)
        refine lv_iconst (v := (nI 2)) hx hb dX12_isWord_39 (by decide) ?_
        refine lv_iadd hx hb dX12_isWord_40 ?_
        refine lv_iload_n hx hb dX12_isWord_41 rfl (lv_at hl 3 rfl) ?_
        refine xh_cVi C hw (rest := []) h (fun _ hy => c_X12_isLetter hq hy) ml_RX12_141 mv_X12_isLetter sM_0 (x_lt hN rfl) rfl ⟨rfl, rfl, by decide, by decide⟩ rfl hl.1 rfl (Nat.le_of_ble_eq_true rfl) dX12_isWord_42 (fun H locs r42 M hw h => ?_)
        refine x_if_eq (tgt := 52) hx hb h dX12_isWord_45 (by decide) (fun h => ?_) (fun h => ?_)
        · exact w52 _ _ _ _ _ _ _ hw (lv_sub hl [0, 3, 4, 5] rfl) h
        · refine lv_iconst (v := (nI 1)) hx hb dX12_isWord_48 (by decide) ?_
          refine lv_goto (tgt := 53) hx hb dX12_isWord_49 (by decide) ?_
          exact w53 _ _ _ _ _ _ _ _ hw (lv_sub hl [0, 3, 4, 5] rfl) h
  · exact w52 _ _ _ _ _ _ _ hw (lv_sub hl [0, 3, 4, 5] rfl) h
def f_X12_emit (M : x_M) (a1 : Int32) (a2 : Int32) : Option (Unit × x_M) := x_gf M 0 11 (fun r4 => x_gf M 0 12 (fun r12 => x_wr 1060 M 4 ((((nI 265) * r4) + (nI 1)) + ((nI 2) * r12)) a1 (fun M => x_wr 1060 M 4 (((((nI 265) * r4) + (nI 1)) + ((nI 2) * r12)) + (nI 1)) a2 (fun M => x_gf M 0 12 (fun r36 => x_pf M 0 12 (r36 + (nI 1)) (fun M => some ((), M)))))))
abbrev rm_X12_emit : Room := { frames := 0, cells := 0, slots := 0, locals := 0 }
set_option maxHeartbeats 4000000 in
set_option maxRecDepth 100000 in
theorem c_X12_emit {l : Launch} {D : va_G} {cy : Nat → ClassId} {q ad : Nat → Nat} {s0 : State} (hq : x_Q q 24 s0.heap.size) {M : x_M} {a1 : Int32} {a2 : Int32} {z : Unit × x_M} (h : f_X12_emit M a1 a2 = some z) : x_Cv l D cy q ad x_spM 24 s0 yX12_emit (x_uw yX12_emit cX12_emit 4 none) rm_X12_emit [.ref (q 0), .int a1, .int a2] M z.2 := by
  have hN : 24 ≤ 24 := Nat.le_refl _
  refine x_metv hq (by decide) (Nat.le_of_ble_eq_true rfl) ?_
  intro p e s m args below meth c ls Q C hret hl hw
  have hx := C.1.1
  have hb := C.1.2.1
  have ho := C.1.2.2.2.1
  have hL := C.1.2.2.2.2
  have hl : lv_has ls 4 [(0, .ref (q 0)), (1, .int a1), (2, .int a2)] := hl
  unfold f_X12_emit at h
  refine lv_sipush (v := (nI 265)) hx hb dX12_emit_0 (by decide) ?_
  refine lv_aload_n hx hb dX12_emit_3 rfl (lv_at hl 0 rfl) ?_
  refine xh_geti C hw 0 11 h sM_0 (x_lt hN rfl) rfl rfl rfl lk_RX12_145 dX12_emit_4 (fun r4 h => ?_)
  refine lv_imul hx hb dX12_emit_7 ?_
  refine lv_iconst (v := (nI 1)) hx hb dX12_emit_8 (by decide) ?_
  refine lv_iadd hx hb dX12_emit_9 ?_
  refine lv_iconst (v := (nI 2)) hx hb dX12_emit_10 (by decide) ?_
  refine lv_aload_n hx hb dX12_emit_11 rfl (lv_at hl 0 rfl) ?_
  refine xh_geti C hw 0 12 h sM_0 (x_lt hN rfl) rfl rfl rfl lk_RX12_148 dX12_emit_12 (fun r12 h => ?_)
  refine lv_imul hx hb dX12_emit_15 ?_
  refine lv_iadd hx hb dX12_emit_16 ?_
  refine lv_istore_n (lv' := [(3, .int _), (0, .ref (q 0)), (1, .int _), (2, .int _)]) hx hb dX12_emit_17 rfl hl (by decide) rfl (fun ls hl => ?_)
  refine lv_aload_n hx hb dX12_emit_18 rfl (lv_at hl 1 rfl) ?_
  refine xh_getr C hw 0 14 sM_0 (x_lt hN rfl) rfl rfl rfl lk_RX12_19 dX12_emit_19 ?_
  refine lv_iload_n hx hb dX12_emit_22 rfl (lv_at hl 0 rfl) ?_
  refine lv_iload_n hx hb dX12_emit_23 rfl (lv_at hl 2 rfl) ?_
  refine xh_iast C hw 4 1060 h sM_4 (x_lt hN rfl) dX12_emit_24 (fun H locs M hw h => ?_)
  refine lv_aload_n hx hb dX12_emit_25 rfl (lv_at hl 1 rfl) ?_
  refine xh_getr C hw 0 14 sM_0 (x_lt hN rfl) rfl rfl rfl lk_RX12_19 dX12_emit_26 ?_
  refine lv_iload_n hx hb dX12_emit_29 rfl (lv_at hl 0 rfl) ?_
  refine lv_iconst (v := (nI 1)) hx hb dX12_emit_30 (by decide) ?_
  refine lv_iadd hx hb dX12_emit_31 ?_
  refine lv_iload_n hx hb dX12_emit_32 rfl (lv_at hl 3 rfl) ?_
  refine xh_iast C hw 4 1060 h sM_4 (x_lt hN rfl) dX12_emit_33 (fun H locs M hw h => ?_)
  refine lv_aload_n hx hb dX12_emit_34 rfl (lv_at hl 1 rfl) ?_
  refine lv_dup hx hb dX12_emit_35 rfl ?_
  refine xh_geti C hw 0 12 h sM_0 (x_lt hN rfl) rfl rfl rfl lk_RX12_148 dX12_emit_36 (fun r36 h => ?_)
  refine lv_iconst (v := (nI 1)) hx hb dX12_emit_39 (by decide) ?_
  refine lv_iadd hx hb dX12_emit_40 ?_
  refine xh_puti C hw 0 12 h sM_0 (x_lt hN rfl) rfl rfl rfl lk_RX12_148 rfl rfl dX12_emit_41 (fun H locs M hw h => ?_)
  exact hret dX12_emit_44 hw h
def f_X12_works_0 : Nat → x_M → Int32 → Option (Unit × x_M)
  | 0, _, _ => none
  | n + 1, M, v1 => x_gf M 0 16 (fun r1 => if r1 ≤ 0 then some ((), M) else x_gf M 0 16 (fun r12 => x_rd 140 (M 5) (r12 - (nI 1)) (fun r17 => if r17 < (nI 10) then some ((), M) else x_gf M 0 16 (fun r28 => x_rd 140 (M 5) (r28 - (nI 1)) (fun r33 => x_dv (nI 10) (if (r33 / (nI 10)) < v1 then some ((), M) else x_gf M 0 16 (fun r43 => x_pf M 0 16 (r43 - (nI 1)) (fun M => x_gf M 0 16 (fun r57 => x_rd 140 (M 5) r57 (fun r60 => x_bn (f_X12_emit M r60 (nI 0)) (fun _ M => (f_X12_works_0 n) M v1)))))))))))
theorem f_X12_works_0_0 (M : x_M) (v1 : Int32) : f_X12_works_0 0 M v1 = none := rfl
theorem f_X12_works_0_s (n : Nat) (M : x_M) (v1 : Int32) : f_X12_works_0 (n + 1) M v1 = (x_gf M 0 16 (fun r1 => if r1 ≤ 0 then some ((), M) else x_gf M 0 16 (fun r12 => x_rd 140 (M 5) (r12 - (nI 1)) (fun r17 => if r17 < (nI 10) then some ((), M) else x_gf M 0 16 (fun r28 => x_rd 140 (M 5) (r28 - (nI 1)) (fun r33 => x_dv (nI 10) (if (r33 / (nI 10)) < v1 then some ((), M) else x_gf M 0 16 (fun r43 => x_pf M 0 16 (r43 - (nI 1)) (fun M => x_gf M 0 16 (fun r57 => x_rd 140 (M 5) r57 (fun r60 => x_bn (f_X12_emit M r60 (nI 0)) (fun _ M => (f_X12_works_0 n) M v1)))))))))))) := rfl
def f_X12_works (M : x_M) (a1 : Int32) : Option (Unit × x_M) := f_X12_works_0 x_FU M a1
abbrev rm_X12_works : Room := { frames := 1, cells := 0, slots := 0, locals := 23 }
set_option maxHeartbeats 4000000 in
set_option maxRecDepth 100000 in
theorem c_X12_works {l : Launch} {D : va_G} {cy : Nat → ClassId} {q ad : Nat → Nat} {s0 : State} (hq : x_Q q 24 s0.heap.size) {M : x_M} {a1 : Int32} {z : Unit × x_M} (h : f_X12_works M a1 = some z) : x_Cv l D cy q ad x_spM 24 s0 yX12_works (x_uw yX12_works cX12_works 2 none) rm_X12_works [.ref (q 0), .int a1] M z.2 := by
  have hN : 24 ≤ 24 := Nat.le_refl _
  refine x_metv hq (by decide) (Nat.le_of_ble_eq_true rfl) ?_
  intro p e s m args below meth c ls Q C hret hl hw
  have hx := C.1.1
  have hb := C.1.2.1
  have ho := C.1.2.2.2.1
  have hL := C.1.2.2.2.2
  have hl : lv_has ls 2 [(0, .ref (q 0)), (1, .int a1)] := hl
  have w0 : ∀ (n : Nat) (M : x_M) (v1 : Int32) (H : Heap) (locs : List Loc) (ls : Array Slot), x_B D cy q ad x_spM 24 s H locs M → lv_has ls 2 [(0, .ref (q 0)), (1, .int v1)] → f_X12_works_0 n M v1 = some z → W p l e rm_X12_works s m args below meth c H locs 0 0 Q (F0 m 0 ls []) := by
    intro n
    induction n with
    | zero =>
      intro M v1 H locs ls hw hl h
      rw [f_X12_works_0_0] at h
      cases h
    | succ n0 ih0 =>
      intro M v1 H locs ls hw hl h
      rw [f_X12_works_0_s] at h
      refine lv_aload_n hx hb dX12_works_0 rfl (lv_at hl 0 rfl) ?_
      refine xh_geti C hw 0 16 h sM_0 (x_lt hN rfl) rfl rfl rfl lk_RX12_151 dX12_works_1 (fun r1 h => ?_)
      refine x_if_le (tgt := 68) hx hb h dX12_works_4 (by decide) (fun h => ?_) (fun h => ?_)
      · exact hret dX12_works_68 hw h
      · refine lv_aload_n hx hb dX12_works_7 rfl (lv_at hl 0 rfl) ?_
        refine xh_getr C hw 0 15 sM_0 (x_lt hN rfl) rfl rfl rfl lk_RX12_22 dX12_works_8 ?_
        refine lv_aload_n hx hb dX12_works_11 rfl (lv_at hl 0 rfl) ?_
        refine xh_geti C hw 0 16 h sM_0 (x_lt hN rfl) rfl rfl rfl lk_RX12_151 dX12_works_12 (fun r12 h => ?_)
        refine lv_iconst (v := (nI 1)) hx hb dX12_works_15 (by decide) ?_
        refine lv_isub hx hb dX12_works_16 ?_
        refine xh_iald C hw 5 140 h sM_5 (x_lt hN rfl) dX12_works_17 (fun r17 h => ?_)
        refine lv_bipush (v := (nI 10)) hx hb dX12_works_18 (by decide) ?_
        refine x_icmp_lt (tgt := 68) hx hb h dX12_works_20 (by decide) (fun h => ?_) (fun h => ?_)
        · exact hret dX12_works_68 hw h
        · refine lv_aload_n hx hb dX12_works_23 rfl (lv_at hl 0 rfl) ?_
          refine xh_getr C hw 0 15 sM_0 (x_lt hN rfl) rfl rfl rfl lk_RX12_22 dX12_works_24 ?_
          refine lv_aload_n hx hb dX12_works_27 rfl (lv_at hl 0 rfl) ?_
          refine xh_geti C hw 0 16 h sM_0 (x_lt hN rfl) rfl rfl rfl lk_RX12_151 dX12_works_28 (fun r28 h => ?_)
          refine lv_iconst (v := (nI 1)) hx hb dX12_works_31 (by decide) ?_
          refine lv_isub hx hb dX12_works_32 ?_
          refine xh_iald C hw 5 140 h sM_5 (x_lt hN rfl) dX12_works_33 (fun r33 h => ?_)
          refine lv_bipush (v := (nI 10)) hx hb dX12_works_34 (by decide) ?_
          refine xh_idiv hx hb h dX12_works_36 (fun h => ?_)
          refine lv_iload_n hx hb dX12_works_37 rfl (lv_at hl 1 rfl) ?_
          refine x_icmp_lt (tgt := 68) hx hb h dX12_works_38 (by decide) (fun h => ?_) (fun h => ?_)
          · exact hret dX12_works_68 hw h
          · refine lv_aload_n hx hb dX12_works_41 rfl (lv_at hl 0 rfl) ?_
            refine lv_dup hx hb dX12_works_42 rfl ?_
            refine xh_geti C hw 0 16 h sM_0 (x_lt hN rfl) rfl rfl rfl lk_RX12_151 dX12_works_43 (fun r43 h => ?_)
            refine lv_iconst (v := (nI 1)) hx hb dX12_works_46 (by decide) ?_
            refine lv_isub hx hb dX12_works_47 ?_
            refine xh_puti C hw 0 16 h sM_0 (x_lt hN rfl) rfl rfl rfl lk_RX12_151 rfl rfl dX12_works_48 (fun H locs M hw h => ?_)
            refine lv_aload_n hx hb dX12_works_51 rfl (lv_at hl 0 rfl) ?_
            refine lv_aload_n hx hb dX12_works_52 rfl (lv_at hl 0 rfl) ?_
            refine xh_getr C hw 0 15 sM_0 (x_lt hN rfl) rfl rfl rfl lk_RX12_22 dX12_works_53 ?_
            refine lv_aload_n hx hb dX12_works_56 rfl (lv_at hl 0 rfl) ?_
            refine xh_geti C hw 0 16 h sM_0 (x_lt hN rfl) rfl rfl rfl lk_RX12_151 dX12_works_57 (fun r57 h => ?_)
            refine xh_iald C hw 5 140 h sM_5 (x_lt hN rfl) dX12_works_60 (fun r60 h => ?_)
            refine lv_iconst (v := (nI 0)) hx hb dX12_works_61 (by decide) ?_
            refine xh_cVv C hw (rest := []) h (fun _ hy => c_X12_emit hq hy) ml_RX12_154 mv_X12_emit sM_0 (x_lt hN rfl) rfl ⟨rfl, rfl, by decide, by decide⟩ rfl hl.1 rfl (Nat.le_of_ble_eq_true rfl) dX12_works_62 (fun H locs _ M hw h => ?_)
            refine lv_goto (tgt := 0) hx hb dX12_works_65 (by decide) ?_
            exact ih0 _ _ _ _ _ hw (lv_sub hl [0, 1] rfl) h
  unfold f_X12_works at h
  exact w0 _ _ _ _ _ _ hw (lv_sub hl [0, 1] rfl) h
def f_X12_parted_0 : Nat → x_M → Option (Unit × x_M)
  | 0, _ => none
  | n + 1, M => x_gf M 0 16 (fun r1 => if r1 ≤ 0 then some ((), M) else x_gf M 0 16 (fun r12 => x_rd 140 (M 5) (r12 - (nI 1)) (fun r17 => if r17 = (nI 3) then x_gf M 0 16 (fun r24 => x_pf M 0 16 (r24 - (nI 1)) (fun M => x_gf M 0 18 (fun r34 => x_pf M 0 18 (r34 - (nI 1)) (fun M => x_bn (f_X12_emit M (nI 3) (nI 0)) (fun _ M => (f_X12_parted_0 n) M))))) else some ((), M))))
theorem f_X12_parted_0_0 (M : x_M) : f_X12_parted_0 0 M = none := rfl
theorem f_X12_parted_0_s (n : Nat) (M : x_M) : f_X12_parted_0 (n + 1) M = (x_gf M 0 16 (fun r1 => if r1 ≤ 0 then some ((), M) else x_gf M 0 16 (fun r12 => x_rd 140 (M 5) (r12 - (nI 1)) (fun r17 => if r17 = (nI 3) then x_gf M 0 16 (fun r24 => x_pf M 0 16 (r24 - (nI 1)) (fun M => x_gf M 0 18 (fun r34 => x_pf M 0 18 (r34 - (nI 1)) (fun M => x_bn (f_X12_emit M (nI 3) (nI 0)) (fun _ M => (f_X12_parted_0 n) M))))) else some ((), M))))) := rfl
def f_X12_parted (M : x_M) : Option (Unit × x_M) := f_X12_parted_0 x_FU M
abbrev rm_X12_parted : Room := { frames := 1, cells := 0, slots := 0, locals := 23 }
set_option maxHeartbeats 4000000 in
set_option maxRecDepth 100000 in
theorem c_X12_parted {l : Launch} {D : va_G} {cy : Nat → ClassId} {q ad : Nat → Nat} {s0 : State} (hq : x_Q q 24 s0.heap.size) {M : x_M} {z : Unit × x_M} (h : f_X12_parted M = some z) : x_Cv l D cy q ad x_spM 24 s0 yX12_parted (x_uw yX12_parted cX12_parted 1 none) rm_X12_parted [.ref (q 0)] M z.2 := by
  have hN : 24 ≤ 24 := Nat.le_refl _
  refine x_metv hq (by decide) (Nat.le_of_ble_eq_true rfl) ?_
  intro p e s m args below meth c ls Q C hret hl hw
  have hx := C.1.1
  have hb := C.1.2.1
  have ho := C.1.2.2.2.1
  have hL := C.1.2.2.2.2
  have hl : lv_has ls 1 [(0, .ref (q 0))] := hl
  have w0 : ∀ (n : Nat) (M : x_M) (H : Heap) (locs : List Loc) (ls : Array Slot), x_B D cy q ad x_spM 24 s H locs M → lv_has ls 1 [(0, .ref (q 0))] → f_X12_parted_0 n M = some z → W p l e rm_X12_parted s m args below meth c H locs 0 0 Q (F0 m 0 ls []) := by
    intro n
    induction n with
    | zero =>
      intro M H locs ls hw hl h
      rw [f_X12_parted_0_0] at h
      cases h
    | succ n0 ih0 =>
      intro M H locs ls hw hl h
      rw [f_X12_parted_0_s] at h
      refine lv_aload_n hx hb dX12_parted_0 rfl (lv_at hl 0 rfl) ?_
      refine xh_geti C hw 0 16 h sM_0 (x_lt hN rfl) rfl rfl rfl lk_RX12_151 dX12_parted_1 (fun r1 h => ?_)
      refine x_if_le (tgt := 51) hx hb h dX12_parted_4 (by decide) (fun h => ?_) (fun h => ?_)
      · exact hret dX12_parted_51 hw h
      · refine lv_aload_n hx hb dX12_parted_7 rfl (lv_at hl 0 rfl) ?_
        refine xh_getr C hw 0 15 sM_0 (x_lt hN rfl) rfl rfl rfl lk_RX12_22 dX12_parted_8 ?_
        refine lv_aload_n hx hb dX12_parted_11 rfl (lv_at hl 0 rfl) ?_
        refine xh_geti C hw 0 16 h sM_0 (x_lt hN rfl) rfl rfl rfl lk_RX12_151 dX12_parted_12 (fun r12 h => ?_)
        refine lv_iconst (v := (nI 1)) hx hb dX12_parted_15 (by decide) ?_
        refine lv_isub hx hb dX12_parted_16 ?_
        refine xh_iald C hw 5 140 h sM_5 (x_lt hN rfl) dX12_parted_17 (fun r17 h => ?_)
        refine lv_iconst (v := (nI 3)) hx hb dX12_parted_18 (by decide) ?_
        refine x_icmp_ne (tgt := 51) hx hb h dX12_parted_19 (by decide) (fun h => ?_) (fun h => ?_)
        · refine lv_aload_n hx hb dX12_parted_22 rfl (lv_at hl 0 rfl) ?_
          refine lv_dup hx hb dX12_parted_23 rfl ?_
          refine xh_geti C hw 0 16 h sM_0 (x_lt hN rfl) rfl rfl rfl lk_RX12_151 dX12_parted_24 (fun r24 h => ?_)
          refine lv_iconst (v := (nI 1)) hx hb dX12_parted_27 (by decide) ?_
          refine lv_isub hx hb dX12_parted_28 ?_
          refine xh_puti C hw 0 16 h sM_0 (x_lt hN rfl) rfl rfl rfl lk_RX12_151 rfl rfl dX12_parted_29 (fun H locs M hw h => ?_)
          refine lv_aload_n hx hb dX12_parted_32 rfl (lv_at hl 0 rfl) ?_
          refine lv_dup hx hb dX12_parted_33 rfl ?_
          refine xh_geti C hw 0 18 h sM_0 (x_lt hN rfl) rfl rfl rfl lk_RX12_158 dX12_parted_34 (fun r34 h => ?_)
          refine lv_iconst (v := (nI 1)) hx hb dX12_parted_37 (by decide) ?_
          refine lv_isub hx hb dX12_parted_38 ?_
          refine xh_puti C hw 0 18 h sM_0 (x_lt hN rfl) rfl rfl rfl lk_RX12_158 rfl rfl dX12_parted_39 (fun H locs M hw h => ?_)
          refine lv_aload_n hx hb dX12_parted_42 rfl (lv_at hl 0 rfl) ?_
          refine lv_iconst (v := (nI 3)) hx hb dX12_parted_43 (by decide) ?_
          refine lv_iconst (v := (nI 0)) hx hb dX12_parted_44 (by decide) ?_
          refine xh_cVv C hw (rest := []) h (fun _ hy => c_X12_emit hq hy) ml_RX12_154 mv_X12_emit sM_0 (x_lt hN rfl) rfl ⟨rfl, rfl, by decide, by decide⟩ rfl hl.1 rfl (Nat.le_of_ble_eq_true rfl) dX12_parted_45 (fun H locs _ M hw h => ?_)
          refine lv_goto (tgt := 0) hx hb dX12_parted_48 (by decide) ?_
          exact ih0 _ _ _ _ hw (lv_sub hl [0] rfl) h
        · exact hret dX12_parted_51 hw h
  unfold f_X12_parted at h
  exact w0 _ _ _ _ _ hw (lv_sub hl [0] rfl) h
def f_X12_isName_20 (M : x_M) : Option (Int32 × x_M) := some ((nI 1), M)
def f_X12_isName_53 (M : x_M) : Option (Int32 × x_M) := some ((nI 1), M)
def f_X12_isName_91 (M : x_M) : Option (Int32 × x_M) := some ((nI 1), M)
def f_X12_isName_117 (M : x_M) : Option (Int32 × x_M) := some ((nI 0), M)
def f_X12_isName_22 (M : x_M) (v1 : Int32) : Option (Int32 × x_M) := x_gf M 0 11 (fun r23 => if r23 = 0 then if v1 = (nI 108) then f_X12_isName_53 M else if v1 = (nI 102) then f_X12_isName_53 M else if v1 = (nI 112) then f_X12_isName_53 M else if v1 = (nI 99) then f_X12_isName_53 M else some ((nI 0), M) else x_gf M 0 11 (fun r60 => if r60 = (nI 2) then if v1 = (nI 108) then f_X12_isName_91 M else if v1 = (nI 102) then f_X12_isName_91 M else if v1 = (nI 111) then f_X12_isName_91 M else if v1 = (nI 100) then f_X12_isName_91 M else some ((nI 0), M) else x_gf M 0 11 (fun r100 => if r100 = (nI 3) then if v1 = (nI 113) then some ((nI 1), M) else f_X12_isName_117 M else f_X12_isName_117 M)))
def f_X12_isName (M : x_M) (a1 : Int32) : Option (Int32 × x_M) := x_gf M 0 11 (fun r1 => if (nI 3) ≤ r1 then f_X12_isName_22 M a1 else if a1 = (nI 116) then f_X12_isName_20 M else if a1 = (nI 107) then f_X12_isName_20 M else f_X12_isName_22 M a1)
abbrev rm_X12_isName : Room := { frames := 0, cells := 0, slots := 0, locals := 0 }
set_option maxHeartbeats 4000000 in
set_option maxRecDepth 100000 in
theorem c_X12_isName {l : Launch} {D : va_G} {cy : Nat → ClassId} {q ad : Nat → Nat} {s0 : State} (hq : x_Q q 24 s0.heap.size) {M : x_M} {a1 : Int32} {z : Int32 × x_M} (h : f_X12_isName M a1 = some z) : x_Ci l D cy q ad x_spM 24 s0 yX12_isName (x_uw yX12_isName cX12_isName 2 (some .boolean)) rm_X12_isName [.ref (q 0), .int a1] M z.1 z.2 := by
  have hN : 24 ≤ 24 := Nat.le_refl _
  refine x_meti hq (by decide) (Nat.le_of_ble_eq_true rfl) ?_
  intro p e s m args below meth c ls Q C hret hl hw
  have hx := C.1.1
  have hb := C.1.2.1
  have ho := C.1.2.2.2.1
  have hL := C.1.2.2.2.2
  have hl : lv_has ls 2 [(0, .ref (q 0)), (1, .int a1)] := hl
  have w20 : ∀ (M : x_M) (H : Heap) (locs : List Loc) (ls : Array Slot), x_B D cy q ad x_spM 24 s H locs M → lv_has ls 2 [] → f_X12_isName_20 M = some z → W p l e rm_X12_isName s m args below meth c H locs 0 0 Q (F0 m 20 ls []) := by
    intro M H locs ls hw hl h
    unfold f_X12_isName_20 at h
    refine lv_iconst (v := (nI 1)) hx hb dX12_isName_20 (by decide) ?_
    exact hret dX12_isName_21 rfl hw h
  have w22 : ∀ (M : x_M) (v1 : Int32) (H : Heap) (locs : List Loc) (ls : Array Slot), x_B D cy q ad x_spM 24 s H locs M → lv_has ls 2 [(0, .ref (q 0)), (1, .int v1)] → f_X12_isName_22 M v1 = some z → W p l e rm_X12_isName s m args below meth c H locs 0 0 Q (F0 m 22 ls []) := by
    have w53 : ∀ (M : x_M) (H : Heap) (locs : List Loc) (ls : Array Slot), x_B D cy q ad x_spM 24 s H locs M → lv_has ls 2 [] → f_X12_isName_53 M = some z → W p l e rm_X12_isName s m args below meth c H locs 0 0 Q (F0 m 53 ls []) := by
      intro M H locs ls hw hl h
      unfold f_X12_isName_53 at h
      refine lv_iconst (v := (nI 1)) hx hb dX12_isName_53 (by decide) ?_
      refine lv_goto (tgt := 58) hx hb dX12_isName_54 (by decide) ?_
      exact hret dX12_isName_58 rfl hw h
    have w91 : ∀ (M : x_M) (H : Heap) (locs : List Loc) (ls : Array Slot), x_B D cy q ad x_spM 24 s H locs M → lv_has ls 2 [] → f_X12_isName_91 M = some z → W p l e rm_X12_isName s m args below meth c H locs 0 0 Q (F0 m 91 ls []) := by
      intro M H locs ls hw hl h
      unfold f_X12_isName_91 at h
      refine lv_iconst (v := (nI 1)) hx hb dX12_isName_91 (by decide) ?_
      refine lv_goto (tgt := 118) hx hb dX12_isName_92 (by decide) ?_
      exact hret dX12_isName_118 rfl hw h
    have w117 : ∀ (M : x_M) (H : Heap) (locs : List Loc) (ls : Array Slot), x_B D cy q ad x_spM 24 s H locs M → lv_has ls 2 [] → f_X12_isName_117 M = some z → W p l e rm_X12_isName s m args below meth c H locs 0 0 Q (F0 m 117 ls []) := by
      intro M H locs ls hw hl h
      unfold f_X12_isName_117 at h
      refine lv_iconst (v := (nI 0)) hx hb dX12_isName_117 (by decide) ?_
      exact hret dX12_isName_118 rfl hw h
    intro M v1 H locs ls hw hl h
    unfold f_X12_isName_22 at h
    refine lv_aload_n hx hb dX12_isName_22 rfl (lv_at hl 0 rfl) ?_
    refine xh_geti C hw 0 11 h sM_0 (x_lt hN rfl) rfl rfl rfl lk_RX12_145 dX12_isName_23 (fun r23 h => ?_)
    refine x_if_ne (tgt := 59) hx hb h dX12_isName_26 (by decide) (fun h => ?_) (fun h => ?_)
    · refine lv_iload_n hx hb dX12_isName_29 rfl (lv_at hl 1 rfl) ?_
      refine lv_bipush (v := (nI 108)) hx hb dX12_isName_30 (by decide) ?_
      refine x_icmp_eq (tgt := 53) hx hb h dX12_isName_32 (by decide) (fun h => ?_) (fun h => ?_)
      · exact w53 _ _ _ _ hw (lv_sub hl [] rfl) h
      · refine lv_iload_n hx hb dX12_isName_35 rfl (lv_at hl 1 rfl) ?_
        refine lv_bipush (v := (nI 102)) hx hb dX12_isName_36 (by decide) ?_
        refine x_icmp_eq (tgt := 53) hx hb h dX12_isName_38 (by decide) (fun h => ?_) (fun h => ?_)
        · exact w53 _ _ _ _ hw (lv_sub hl [] rfl) h
        · refine lv_iload_n hx hb dX12_isName_41 rfl (lv_at hl 1 rfl) ?_
          refine lv_bipush (v := (nI 112)) hx hb dX12_isName_42 (by decide) ?_
          refine x_icmp_eq (tgt := 53) hx hb h dX12_isName_44 (by decide) (fun h => ?_) (fun h => ?_)
          · exact w53 _ _ _ _ hw (lv_sub hl [] rfl) h
          · refine lv_iload_n hx hb dX12_isName_47 rfl (lv_at hl 1 rfl) ?_
            refine lv_bipush (v := (nI 99)) hx hb dX12_isName_48 (by decide) ?_
            refine x_icmp_ne (tgt := 57) hx hb h dX12_isName_50 (by decide) (fun h => ?_) (fun h => ?_)
            · exact w53 _ _ _ _ hw (lv_sub hl [] rfl) h
            · refine lv_iconst (v := (nI 0)) hx hb dX12_isName_57 (by decide) ?_
              exact hret dX12_isName_58 rfl hw h
    · refine lv_aload_n hx hb dX12_isName_59 rfl (lv_at hl 0 rfl) ?_
      refine xh_geti C hw 0 11 h sM_0 (x_lt hN rfl) rfl rfl rfl lk_RX12_145 dX12_isName_60 (fun r60 h => ?_)
      refine lv_iconst (v := (nI 2)) hx hb dX12_isName_63 (by decide) ?_
      refine x_icmp_ne (tgt := 99) hx hb h dX12_isName_64 (by decide) (fun h => ?_) (fun h => ?_)
      · refine lv_iload_n hx hb dX12_isName_67 rfl (lv_at hl 1 rfl) ?_
        refine lv_bipush (v := (nI 108)) hx hb dX12_isName_68 (by decide) ?_
        refine x_icmp_eq (tgt := 91) hx hb h dX12_isName_70 (by decide) (fun h => ?_) (fun h => ?_)
        · exact w91 _ _ _ _ hw (lv_sub hl [] rfl) h
        · refine lv_iload_n hx hb dX12_isName_73 rfl (lv_at hl 1 rfl) ?_
          refine lv_bipush (v := (nI 102)) hx hb dX12_isName_74 (by decide) ?_
          refine x_icmp_eq (tgt := 91) hx hb h dX12_isName_76 (by decide) (fun h => ?_) (fun h => ?_)
          · exact w91 _ _ _ _ hw (lv_sub hl [] rfl) h
          · refine lv_iload_n hx hb dX12_isName_79 rfl (lv_at hl 1 rfl) ?_
            refine lv_bipush (v := (nI 111)) hx hb dX12_isName_80 (by decide) ?_
            refine x_icmp_eq (tgt := 91) hx hb h dX12_isName_82 (by decide) (fun h => ?_) (fun h => ?_)
            · exact w91 _ _ _ _ hw (lv_sub hl [] rfl) h
            · refine lv_iload_n hx hb dX12_isName_85 rfl (lv_at hl 1 rfl) ?_
              refine lv_bipush (v := (nI 100)) hx hb dX12_isName_86 (by decide) ?_
              refine x_icmp_ne (tgt := 95) hx hb h dX12_isName_88 (by decide) (fun h => ?_) (fun h => ?_)
              · exact w91 _ _ _ _ hw (lv_sub hl [] rfl) h
              · refine lv_iconst (v := (nI 0)) hx hb dX12_isName_95 (by decide) ?_
                refine lv_goto (tgt := 118) hx hb dX12_isName_96 (by decide) ?_
                exact hret dX12_isName_118 rfl hw h
      · refine lv_aload_n hx hb dX12_isName_99 rfl (lv_at hl 0 rfl) ?_
        refine xh_geti C hw 0 11 h sM_0 (x_lt hN rfl) rfl rfl rfl lk_RX12_145 dX12_isName_100 (fun r100 h => ?_)
        refine lv_iconst (v := (nI 3)) hx hb dX12_isName_103 (by decide) ?_
        refine x_icmp_ne (tgt := 117) hx hb h dX12_isName_104 (by decide) (fun h => ?_) (fun h => ?_)
        · refine lv_iload_n hx hb dX12_isName_107 rfl (lv_at hl 1 rfl) ?_
          refine lv_bipush (v := (nI 113)) hx hb dX12_isName_108 (by decide) ?_
          refine x_icmp_ne (tgt := 117) hx hb h dX12_isName_110 (by decide) (fun h => ?_) (fun h => ?_)
          · refine lv_iconst (v := (nI 1)) hx hb dX12_isName_113 (by decide) ?_
            refine lv_goto (tgt := 118) hx hb dX12_isName_114 (by decide) ?_
            exact hret dX12_isName_118 rfl hw h
          · exact w117 _ _ _ _ hw (lv_sub hl [] rfl) h
        · exact w117 _ _ _ _ hw (lv_sub hl [] rfl) h
  unfold f_X12_isName at h
  refine lv_aload_n hx hb dX12_isName_0 rfl (lv_at hl 0 rfl) ?_
  refine xh_geti C hw 0 11 h sM_0 (x_lt hN rfl) rfl rfl rfl lk_RX12_145 dX12_isName_1 (fun r1 h => ?_)
  refine lv_iconst (v := (nI 3)) hx hb dX12_isName_4 (by decide) ?_
  refine x_icmp_ge (tgt := 22) hx hb h dX12_isName_5 (by decide) (fun h => ?_) (fun h => ?_)
  · exact w22 _ _ _ _ _ hw (lv_sub hl [0, 1] rfl) h
  · refine lv_iload_n hx hb dX12_isName_8 rfl (lv_at hl 1 rfl) ?_
    refine lv_bipush (v := (nI 116)) hx hb dX12_isName_9 (by decide) ?_
    refine x_icmp_eq (tgt := 20) hx hb h dX12_isName_11 (by decide) (fun h => ?_) (fun h => ?_)
    · exact w20 _ _ _ _ hw (lv_sub hl [] rfl) h
    · refine lv_iload_n hx hb dX12_isName_14 rfl (lv_at hl 1 rfl) ?_
      refine lv_bipush (v := (nI 107)) hx hb dX12_isName_15 (by decide) ?_
      refine x_icmp_ne (tgt := 22) hx hb h dX12_isName_17 (by decide) (fun h => ?_) (fun h => ?_)
      · exact w20 _ _ _ _ hw (lv_sub hl [] rfl) h
      · exact w22 _ _ _ _ _ hw (lv_sub hl [0, 1] rfl) h
def f_X12_begins_111 (M : x_M) (t1 : Int32) (t2 : Int32) : Option (Int32 × x_M) := x_pf M 0 17 (t1 + t2) (fun M => x_bn (f_X12_next M) (fun _ M => some ((nI 1), M)))
def f_X12_begins_93 (M : x_M) (v1 : Int32) (t1 : Int32) (t2 : Int32) : Option (Int32 × x_M) := x_pf M 0 18 (t1 + t2) (fun M => x_gf M 0 17 (fun r99 => if v1 = 0 then f_X12_begins_111 M r99 (nI 1) else f_X12_begins_111 M r99 (nI 0)))
def f_X12_begins_68 (M : x_M) (v1 : Int32) (t1 : Int32) (t2 : Int32) : Option (Int32 × x_M) := x_wr 140 M 5 t1 t2 (fun M => x_gf M 0 16 (fun r71 => x_pf M 0 16 (r71 + (nI 1)) (fun M => x_gf M 0 18 (fun r81 => if v1 = 0 then f_X12_begins_93 M v1 r81 (nI 0) else f_X12_begins_93 M v1 r81 (nI 1)))))
def f_X12_begins_40 (M : x_M) (v1 : Int32) (t0 : Int32) : Option (Int32 × x_M) := if t0 = (nI 8) then x_bn (f_X12_wrong M) (fun _ M => some ((nI 0), M)) else x_gf M 0 16 (fun r56 => if v1 = 0 then f_X12_begins_68 M v1 r56 (nI 1) else f_X12_begins_68 M v1 r56 (nI 3))
def f_X12_begins_18 (M : x_M) : Option (Int32 × x_M) := x_bn (f_X12_isSign M (nI 33)) (fun r21 M => if r21 = 0 then x_gf M 0 17 (fun r37 => f_X12_begins_40 M r21 r37) else x_gf M 0 18 (fun r30 => f_X12_begins_40 M r21 r30))
def f_X12_begins_247 (M : x_M) : Option (Int32 × x_M) := x_gf M 0 13 (fun r249 => x_pf M 0 13 (r249 + (nI 1)) (fun M => x_bn (f_X12_next M) (fun _ M => x_bn (f_X12_parted M) (fun _ M => some ((nI 0), M)))))
def f_X12_begins_149 : Nat → x_M → Int32 → Int32 → Option (Int32 × x_M)
  | 0, _, _, _ => none
  | n + 1, M, v1, v2 => x_gf M 0 6 (fun r151 => if r151 ≤ v2 then x_bn (f_X12_emit M (nI 1) v1) (fun _ M => f_X12_begins_247 M) else x_rd 132 (M 3) v2 (fun r166 => (f_X12_begins_149 n) M ((((nI 10) * v1) + r166) - (nI 48)) (v2 + (nI 1))))
theorem f_X12_begins_149_0 (M : x_M) (v1 : Int32) (v2 : Int32) : f_X12_begins_149 0 M v1 v2 = none := rfl
theorem f_X12_begins_149_s (n : Nat) (M : x_M) (v1 : Int32) (v2 : Int32) : f_X12_begins_149 (n + 1) M v1 v2 = (x_gf M 0 6 (fun r151 => if r151 ≤ v2 then x_bn (f_X12_emit M (nI 1) v1) (fun _ M => f_X12_begins_247 M) else x_rd 132 (M 3) v2 (fun r166 => (f_X12_begins_149 n) M ((((nI 10) * v1) + r166) - (nI 48)) (v2 + (nI 1))))) := rfl
def f_X12_begins_241 (M : x_M) : Option (Int32 × x_M) := x_bn (f_X12_wrong M) (fun _ M => some ((nI 0), M))
def f_X12_begins_187 (M : x_M) : Option (Int32 × x_M) := x_gf M 0 8 (fun r188 => if r188 = (nI 1) then x_gf M 0 6 (fun r196 => x_gf M 0 5 (fun r200 => if (r196 - r200) = (nI 1) then x_gf M 0 5 (fun r214 => x_rd 132 (M 3) r214 (fun r217 => x_bn (f_X12_isName M r217) (fun r218 M => if r218 = 0 then f_X12_begins_241 M else x_gf M 0 5 (fun r231 => x_rd 132 (M 3) r231 (fun r234 => x_bn (f_X12_emit M (nI 2) r234) (fun _ M => f_X12_begins_247 M)))))) else f_X12_begins_241 M)) else f_X12_begins_241 M)
def f_X12_begins (M : x_M) : Option (Int32 × x_M) := x_bn (f_X12_isSign M (nI 33)) (fun r3 M => if r3 = 0 then x_bn (f_X12_isSign M (nI 40)) (fun r12 M => if r12 = 0 then x_gf M 0 8 (fun r122 => if r122 = (nI 2) then x_gf M 0 6 (fun r130 => x_gf M 0 5 (fun r134 => if (nI 5) < (r130 - r134) then f_X12_begins_187 M else x_gf M 0 5 (fun r145 => f_X12_begins_149 x_FU M (nI 0) r145))) else f_X12_begins_187 M) else f_X12_begins_18 M) else f_X12_begins_18 M)
abbrev rm_X12_begins : Room := { frames := 3, cells := 0, slots := 0, locals := 64 }
set_option maxHeartbeats 4000000 in
set_option maxRecDepth 100000 in
theorem c_X12_begins {l : Launch} {D : va_G} {cy : Nat → ClassId} {q ad : Nat → Nat} {s0 : State} (hq : x_Q q 24 s0.heap.size) {M : x_M} {z : Int32 × x_M} (h : f_X12_begins M = some z) : x_Ci l D cy q ad x_spM 24 s0 yX12_begins (x_uw yX12_begins cX12_begins 3 (some .boolean)) rm_X12_begins [.ref (q 0)] M z.1 z.2 := by
  have hN : 24 ≤ 24 := Nat.le_refl _
  refine x_meti hq (by decide) (Nat.le_of_ble_eq_true rfl) ?_
  intro p e s m args below meth c ls Q C hret hl hw
  have hx := C.1.1
  have hb := C.1.2.1
  have ho := C.1.2.2.2.1
  have hL := C.1.2.2.2.2
  have hl : lv_has ls 3 [(0, .ref (q 0))] := hl
  have w18 : ∀ (M : x_M) (H : Heap) (locs : List Loc) (ls : Array Slot), x_B D cy q ad x_spM 24 s H locs M → lv_has ls 3 [(0, .ref (q 0))] → f_X12_begins_18 M = some z → W p l e rm_X12_begins s m args below meth c H locs 0 0 Q (F0 m 18 ls []) := by
    have w40 : ∀ (M : x_M) (v1 : Int32) (t0 : Int32) (H : Heap) (locs : List Loc) (ls : Array Slot), x_B D cy q ad x_spM 24 s H locs M → lv_has ls 3 [(0, .ref (q 0)), (1, .int v1)] → f_X12_begins_40 M v1 t0 = some z → W p l e rm_X12_begins s m args below meth c H locs 0 0 Q (F0 m 40 ls [.int t0]) := by
      have w68 : ∀ (M : x_M) (v1 : Int32) (t1 : Int32) (t2 : Int32) (H : Heap) (locs : List Loc) (ls : Array Slot), x_B D cy q ad x_spM 24 s H locs M → lv_has ls 3 [(0, .ref (q 0)), (1, .int v1)] → f_X12_begins_68 M v1 t1 t2 = some z → W p l e rm_X12_begins s m args below meth c H locs 0 0 Q (F0 m 68 ls [.int t2, .int t1, .ref (q 5)]) := by
        have w93 : ∀ (M : x_M) (v1 : Int32) (t1 : Int32) (t2 : Int32) (H : Heap) (locs : List Loc) (ls : Array Slot), x_B D cy q ad x_spM 24 s H locs M → lv_has ls 3 [(0, .ref (q 0)), (1, .int v1)] → f_X12_begins_93 M v1 t1 t2 = some z → W p l e rm_X12_begins s m args below meth c H locs 0 0 Q (F0 m 93 ls [.int t2, .int t1, .ref (q 0)]) := by
          have w111 : ∀ (M : x_M) (t1 : Int32) (t2 : Int32) (H : Heap) (locs : List Loc) (ls : Array Slot), x_B D cy q ad x_spM 24 s H locs M → lv_has ls 3 [(0, .ref (q 0))] → f_X12_begins_111 M t1 t2 = some z → W p l e rm_X12_begins s m args below meth c H locs 0 0 Q (F0 m 111 ls [.int t2, .int t1, .ref (q 0)]) := by
            intro M t1 t2 H locs ls hw hl h
            unfold f_X12_begins_111 at h
            refine lv_iadd hx hb dX12_begins_111 ?_
            refine xh_puti C hw 0 17 h sM_0 (x_lt hN rfl) rfl rfl rfl lk_RX12_164 rfl rfl dX12_begins_112 (fun H locs M hw h => ?_)
            refine lv_aload_n hx hb dX12_begins_115 rfl (lv_at hl 0 rfl) ?_
            refine xh_cVv C hw (rest := []) h (fun _ hy => c_X12_next hq hy) ml_RX12_167 mv_X12_next sM_0 (x_lt hN rfl) rfl ⟨rfl, rfl, by decide, by decide⟩ rfl hl.1 rfl (Nat.le_of_ble_eq_true rfl) dX12_begins_116 (fun H locs _ M hw h => ?_)
            refine lv_iconst (v := (nI 1)) hx hb dX12_begins_119 (by decide) ?_
            exact hret dX12_begins_120 rfl hw h
          intro M v1 t1 t2 H locs ls hw hl h
          unfold f_X12_begins_93 at h
          refine lv_iadd hx hb dX12_begins_93 ?_
          refine xh_puti C hw 0 18 h sM_0 (x_lt hN rfl) rfl rfl rfl lk_RX12_158 rfl rfl dX12_begins_94 (fun H locs M hw h => ?_)
          refine lv_aload_n hx hb dX12_begins_97 rfl (lv_at hl 0 rfl) ?_
          refine lv_dup hx hb dX12_begins_98 rfl ?_
          refine xh_geti C hw 0 17 h sM_0 (x_lt hN rfl) rfl rfl rfl lk_RX12_164 dX12_begins_99 (fun r99 h => ?_)
          refine lv_iload_n hx hb dX12_begins_102 rfl (lv_at hl 1 rfl) ?_
          refine x_if_eq (tgt := 110) hx hb h dX12_begins_103 (by decide) (fun h => ?_) (fun h => ?_)
          · refine lv_iconst (v := (nI 1)) hx hb dX12_begins_110 (by decide) ?_
            exact w111 _ _ _ _ _ _ hw (lv_sub hl [0] rfl) h
          · refine lv_iconst (v := (nI 0)) hx hb dX12_begins_106 (by decide) ?_
            refine lv_goto (tgt := 111) hx hb dX12_begins_107 (by decide) ?_
            exact w111 _ _ _ _ _ _ hw (lv_sub hl [0] rfl) h
        intro M v1 t1 t2 H locs ls hw hl h
        unfold f_X12_begins_68 at h
        refine xh_iast C hw 5 140 h sM_5 (x_lt hN rfl) dX12_begins_68 (fun H locs M hw h => ?_)
        refine lv_aload_n hx hb dX12_begins_69 rfl (lv_at hl 0 rfl) ?_
        refine lv_dup hx hb dX12_begins_70 rfl ?_
        refine xh_geti C hw 0 16 h sM_0 (x_lt hN rfl) rfl rfl rfl lk_RX12_151 dX12_begins_71 (fun r71 h => ?_)
        refine lv_iconst (v := (nI 1)) hx hb dX12_begins_74 (by decide) ?_
        refine lv_iadd hx hb dX12_begins_75 ?_
        refine xh_puti C hw 0 16 h sM_0 (x_lt hN rfl) rfl rfl rfl lk_RX12_151 rfl rfl dX12_begins_76 (fun H locs M hw h => ?_)
        refine lv_aload_n hx hb dX12_begins_79 rfl (lv_at hl 0 rfl) ?_
        refine lv_dup hx hb dX12_begins_80 rfl ?_
        refine xh_geti C hw 0 18 h sM_0 (x_lt hN rfl) rfl rfl rfl lk_RX12_158 dX12_begins_81 (fun r81 h => ?_)
        refine lv_iload_n hx hb dX12_begins_84 rfl (lv_at hl 1 rfl) ?_
        refine x_if_eq (tgt := 92) hx hb h dX12_begins_85 (by decide) (fun h => ?_) (fun h => ?_)
        · refine lv_iconst (v := (nI 0)) hx hb dX12_begins_92 (by decide) ?_
          exact w93 _ _ _ _ _ _ _ hw (lv_sub hl [0, 1] rfl) h
        · refine lv_iconst (v := (nI 1)) hx hb dX12_begins_88 (by decide) ?_
          refine lv_goto (tgt := 93) hx hb dX12_begins_89 (by decide) ?_
          exact w93 _ _ _ _ _ _ _ hw (lv_sub hl [0, 1] rfl) h
      intro M v1 t0 H locs ls hw hl h
      unfold f_X12_begins_40 at h
      refine lv_bipush (v := (nI 8)) hx hb dX12_begins_40 (by decide) ?_
      refine x_icmp_ne (tgt := 51) hx hb h dX12_begins_42 (by decide) (fun h => ?_) (fun h => ?_)
      · refine lv_aload_n hx hb dX12_begins_45 rfl (lv_at hl 0 rfl) ?_
        refine xh_cVv C hw (rest := []) h (fun _ hy => c_X12_wrong hq hy) ml_RX12_138 mv_X12_wrong sM_0 (x_lt hN rfl) rfl ⟨rfl, rfl, by decide, by decide⟩ rfl hl.1 rfl (Nat.le_of_ble_eq_true rfl) dX12_begins_46 (fun H locs _ M hw h => ?_)
        refine lv_iconst (v := (nI 0)) hx hb dX12_begins_49 (by decide) ?_
        exact hret dX12_begins_50 rfl hw h
      · refine lv_aload_n hx hb dX12_begins_51 rfl (lv_at hl 0 rfl) ?_
        refine xh_getr C hw 0 15 sM_0 (x_lt hN rfl) rfl rfl rfl lk_RX12_22 dX12_begins_52 ?_
        refine lv_aload_n hx hb dX12_begins_55 rfl (lv_at hl 0 rfl) ?_
        refine xh_geti C hw 0 16 h sM_0 (x_lt hN rfl) rfl rfl rfl lk_RX12_151 dX12_begins_56 (fun r56 h => ?_)
        refine lv_iload_n hx hb dX12_begins_59 rfl (lv_at hl 1 rfl) ?_
        refine x_if_eq (tgt := 67) hx hb h dX12_begins_60 (by decide) (fun h => ?_) (fun h => ?_)
        · refine lv_iconst (v := (nI 1)) hx hb dX12_begins_67 (by decide) ?_
          exact w68 _ _ _ _ _ _ _ hw (lv_sub hl [0, 1] rfl) h
        · refine lv_iconst (v := (nI 3)) hx hb dX12_begins_63 (by decide) ?_
          refine lv_goto (tgt := 68) hx hb dX12_begins_64 (by decide) ?_
          exact w68 _ _ _ _ _ _ _ hw (lv_sub hl [0, 1] rfl) h
    intro M H locs ls hw hl h
    unfold f_X12_begins_18 at h
    refine lv_aload_n hx hb dX12_begins_18 rfl (lv_at hl 0 rfl) ?_
    refine lv_bipush (v := (nI 33)) hx hb dX12_begins_19 (by decide) ?_
    refine xh_cVi C hw (rest := []) h (fun _ hy => c_X12_isSign hq hy) ml_RX12_161 mv_X12_isSign sM_0 (x_lt hN rfl) rfl ⟨rfl, rfl, by decide, by decide⟩ rfl hl.1 rfl (Nat.le_of_ble_eq_true rfl) dX12_begins_21 (fun H locs r21 M hw h => ?_)
    refine lv_istore_n (lv' := [(1, .int _), (0, .ref (q 0))]) hx hb dX12_begins_24 rfl hl (by decide) rfl (fun ls hl => ?_)
    refine lv_iload_n hx hb dX12_begins_25 rfl (lv_at hl 0 rfl) ?_
    refine x_if_eq (tgt := 36) hx hb h dX12_begins_26 (by decide) (fun h => ?_) (fun h => ?_)
    · refine lv_aload_n hx hb dX12_begins_36 rfl (lv_at hl 1 rfl) ?_
      refine xh_geti C hw 0 17 h sM_0 (x_lt hN rfl) rfl rfl rfl lk_RX12_164 dX12_begins_37 (fun r37 h => ?_)
      exact w40 _ _ _ _ _ _ hw (lv_sub hl [1, 0] rfl) h
    · refine lv_aload_n hx hb dX12_begins_29 rfl (lv_at hl 1 rfl) ?_
      refine xh_geti C hw 0 18 h sM_0 (x_lt hN rfl) rfl rfl rfl lk_RX12_158 dX12_begins_30 (fun r30 h => ?_)
      refine lv_goto (tgt := 40) hx hb dX12_begins_33 (by decide) ?_
      exact w40 _ _ _ _ _ _ hw (lv_sub hl [1, 0] rfl) h
  have w247 : ∀ (M : x_M) (H : Heap) (locs : List Loc) (ls : Array Slot), x_B D cy q ad x_spM 24 s H locs M → lv_has ls 3 [(0, .ref (q 0))] → f_X12_begins_247 M = some z → W p l e rm_X12_begins s m args below meth c H locs 0 0 Q (F0 m 247 ls []) := by
    intro M H locs ls hw hl h
    unfold f_X12_begins_247 at h
    refine lv_aload_n hx hb dX12_begins_247 rfl (lv_at hl 0 rfl) ?_
    refine lv_dup hx hb dX12_begins_248 rfl ?_
    refine xh_geti C hw 0 13 h sM_0 (x_lt hN rfl) rfl rfl rfl lk_RX12_173 dX12_begins_249 (fun r249 h => ?_)
    refine lv_iconst (v := (nI 1)) hx hb dX12_begins_252 (by decide) ?_
    refine lv_iadd hx hb dX12_begins_253 ?_
    refine xh_puti C hw 0 13 h sM_0 (x_lt hN rfl) rfl rfl rfl lk_RX12_173 rfl rfl dX12_begins_254 (fun H locs M hw h => ?_)
    refine lv_aload_n hx hb dX12_begins_257 rfl (lv_at hl 0 rfl) ?_
    refine xh_cVv C hw (rest := []) h (fun _ hy => c_X12_next hq hy) ml_RX12_167 mv_X12_next sM_0 (x_lt hN rfl) rfl ⟨rfl, rfl, by decide, by decide⟩ rfl hl.1 rfl (Nat.le_of_ble_eq_true rfl) dX12_begins_258 (fun H locs _ M hw h => ?_)
    refine lv_aload_n hx hb dX12_begins_261 rfl (lv_at hl 0 rfl) ?_
    refine xh_cVv C hw (rest := []) h (fun _ hy => c_X12_parted hq hy) ml_RX12_176 mv_X12_parted sM_0 (x_lt hN rfl) rfl ⟨rfl, rfl, by decide, by decide⟩ rfl hl.1 rfl (Nat.le_of_ble_eq_true rfl) dX12_begins_262 (fun H locs _ M hw h => ?_)
    refine lv_iconst (v := (nI 0)) hx hb dX12_begins_265 (by decide) ?_
    exact hret dX12_begins_266 rfl hw h
  have w149 : ∀ (n : Nat) (M : x_M) (v1 : Int32) (v2 : Int32) (H : Heap) (locs : List Loc) (ls : Array Slot), x_B D cy q ad x_spM 24 s H locs M → lv_has ls 3 [(0, .ref (q 0)), (1, .int v1), (2, .int v2)] → f_X12_begins_149 n M v1 v2 = some z → W p l e rm_X12_begins s m args below meth c H locs 0 0 Q (F0 m 149 ls []) := by
    intro n
    induction n with
    | zero =>
      intro M v1 v2 H locs ls hw hl h
      rw [f_X12_begins_149_0] at h
      cases h
    | succ n149 ih149 =>
      intro M v1 v2 H locs ls hw hl h
      rw [f_X12_begins_149_s] at h
      refine lv_iload_n hx hb dX12_begins_149 rfl (lv_at hl 2 rfl) ?_
      refine lv_aload_n hx hb dX12_begins_150 rfl (lv_at hl 0 rfl) ?_
      refine xh_geti C hw 0 6 h sM_0 (x_lt hN rfl) rfl rfl rfl lk_RX12_126 dX12_begins_151 (fun r151 h => ?_)
      refine x_icmp_ge (tgt := 178) hx hb h dX12_begins_154 (by decide) (fun h => ?_) (fun h => ?_)
      · refine lv_aload_n hx hb dX12_begins_178 rfl (lv_at hl 0 rfl) ?_
        refine lv_iconst (v := (nI 1)) hx hb dX12_begins_179 (by decide) ?_
        refine lv_iload_n hx hb dX12_begins_180 rfl (lv_at hl 1 rfl) ?_
        refine xh_cVv C hw (rest := []) h (fun _ hy => c_X12_emit hq hy) ml_RX12_154 mv_X12_emit sM_0 (x_lt hN rfl) rfl ⟨rfl, rfl, by decide, by decide⟩ rfl hl.1 rfl (Nat.le_of_ble_eq_true rfl) dX12_begins_181 (fun H locs _ M hw h => ?_)
        refine lv_goto (tgt := 247) hx hb dX12_begins_184 (by decide) ?_
        exact w247 _ _ _ _ hw (lv_sub hl [0] rfl) h
      · refine lv_bipush (v := (nI 10)) hx hb dX12_begins_157 (by decide) ?_
        refine lv_iload_n hx hb dX12_begins_159 rfl (lv_at hl 1 rfl) ?_
        refine lv_imul hx hb dX12_begins_160 ?_
        refine lv_aload_n hx hb dX12_begins_161 rfl (lv_at hl 0 rfl) ?_
        refine xh_getr C hw 0 3 sM_0 (x_lt hN rfl) rfl rfl rfl lk_RX12_16 dX12_begins_162 ?_
        refine lv_iload_n hx hb dX12_begins_165 rfl (lv_at hl 2 rfl) ?_
        refine xh_iald C hw 3 132 h sM_3 (x_lt hN rfl) dX12_begins_166 (fun r166 h => ?_)
        refine lv_iadd hx hb dX12_begins_167 ?_
        refine lv_bipush (v := (nI 48)) hx hb dX12_begins_168 (by decide) ?_
        refine lv_isub hx hb dX12_begins_170 ?_
        refine lv_istore_n (lv' := [(1, .int _), (0, .ref (q 0)), (2, .int _)]) hx hb dX12_begins_171 rfl hl (by decide) rfl (fun ls hl => ?_)
        refine lv_iinc (lv' := [(2, .int _), (1, .int _), (0, .ref (q 0))]) hx hb dX12_begins_172 hl (k := 2) rfl (x_inc (show Int32.ofInt 1 = (nI 1) by decide) _) (by decide) rfl (fun ls hl => ?_)
        refine lv_goto (tgt := 149) hx hb dX12_begins_175 (by decide) ?_
        exact ih149 _ _ _ _ _ _ hw (lv_sub hl [2, 1, 0] rfl) h
  have w187 : ∀ (M : x_M) (H : Heap) (locs : List Loc) (ls : Array Slot), x_B D cy q ad x_spM 24 s H locs M → lv_has ls 3 [(0, .ref (q 0))] → f_X12_begins_187 M = some z → W p l e rm_X12_begins s m args below meth c H locs 0 0 Q (F0 m 187 ls []) := by
    have w241 : ∀ (M : x_M) (H : Heap) (locs : List Loc) (ls : Array Slot), x_B D cy q ad x_spM 24 s H locs M → lv_has ls 3 [(0, .ref (q 0))] → f_X12_begins_241 M = some z → W p l e rm_X12_begins s m args below meth c H locs 0 0 Q (F0 m 241 ls []) := by
      intro M H locs ls hw hl h
      unfold f_X12_begins_241 at h
      refine lv_aload_n hx hb dX12_begins_241 rfl (lv_at hl 0 rfl) ?_
      refine xh_cVv C hw (rest := []) h (fun _ hy => c_X12_wrong hq hy) ml_RX12_138 mv_X12_wrong sM_0 (x_lt hN rfl) rfl ⟨rfl, rfl, by decide, by decide⟩ rfl hl.1 rfl (Nat.le_of_ble_eq_true rfl) dX12_begins_242 (fun H locs _ M hw h => ?_)
      refine lv_iconst (v := (nI 0)) hx hb dX12_begins_245 (by decide) ?_
      exact hret dX12_begins_246 rfl hw h
    intro M H locs ls hw hl h
    unfold f_X12_begins_187 at h
    refine lv_aload_n hx hb dX12_begins_187 rfl (lv_at hl 0 rfl) ?_
    refine xh_geti C hw 0 8 h sM_0 (x_lt hN rfl) rfl rfl rfl lk_RX12_132 dX12_begins_188 (fun r188 h => ?_)
    refine lv_iconst (v := (nI 1)) hx hb dX12_begins_191 (by decide) ?_
    refine x_icmp_ne (tgt := 241) hx hb h dX12_begins_192 (by decide) (fun h => ?_) (fun h => ?_)
    · refine lv_aload_n hx hb dX12_begins_195 rfl (lv_at hl 0 rfl) ?_
      refine xh_geti C hw 0 6 h sM_0 (x_lt hN rfl) rfl rfl rfl lk_RX12_126 dX12_begins_196 (fun r196 h => ?_)
      refine lv_aload_n hx hb dX12_begins_199 rfl (lv_at hl 0 rfl) ?_
      refine xh_geti C hw 0 5 h sM_0 (x_lt hN rfl) rfl rfl rfl lk_RX12_120 dX12_begins_200 (fun r200 h => ?_)
      refine lv_isub hx hb dX12_begins_203 ?_
      refine lv_iconst (v := (nI 1)) hx hb dX12_begins_204 (by decide) ?_
      refine x_icmp_ne (tgt := 241) hx hb h dX12_begins_205 (by decide) (fun h => ?_) (fun h => ?_)
      · refine lv_aload_n hx hb dX12_begins_208 rfl (lv_at hl 0 rfl) ?_
        refine lv_aload_n hx hb dX12_begins_209 rfl (lv_at hl 0 rfl) ?_
        refine xh_getr C hw 0 3 sM_0 (x_lt hN rfl) rfl rfl rfl lk_RX12_16 dX12_begins_210 ?_
        refine lv_aload_n hx hb dX12_begins_213 rfl (lv_at hl 0 rfl) ?_
        refine xh_geti C hw 0 5 h sM_0 (x_lt hN rfl) rfl rfl rfl lk_RX12_120 dX12_begins_214 (fun r214 h => ?_)
        refine xh_iald C hw 3 132 h sM_3 (x_lt hN rfl) dX12_begins_217 (fun r217 h => ?_)
        refine xh_cVi C hw (rest := []) h (fun _ hy => c_X12_isName hq hy) ml_RX12_170 mv_X12_isName sM_0 (x_lt hN rfl) rfl ⟨rfl, rfl, by decide, by decide⟩ rfl hl.1 rfl (Nat.le_of_ble_eq_true rfl) dX12_begins_218 (fun H locs r218 M hw h => ?_)
        refine x_if_eq (tgt := 241) hx hb h dX12_begins_221 (by decide) (fun h => ?_) (fun h => ?_)
        · exact w241 _ _ _ _ hw (lv_sub hl [0] rfl) h
        · refine lv_aload_n hx hb dX12_begins_224 rfl (lv_at hl 0 rfl) ?_
          refine lv_iconst (v := (nI 2)) hx hb dX12_begins_225 (by decide) ?_
          refine lv_aload_n hx hb dX12_begins_226 rfl (lv_at hl 0 rfl) ?_
          refine xh_getr C hw 0 3 sM_0 (x_lt hN rfl) rfl rfl rfl lk_RX12_16 dX12_begins_227 ?_
          refine lv_aload_n hx hb dX12_begins_230 rfl (lv_at hl 0 rfl) ?_
          refine xh_geti C hw 0 5 h sM_0 (x_lt hN rfl) rfl rfl rfl lk_RX12_120 dX12_begins_231 (fun r231 h => ?_)
          refine xh_iald C hw 3 132 h sM_3 (x_lt hN rfl) dX12_begins_234 (fun r234 h => ?_)
          refine xh_cVv C hw (rest := []) h (fun _ hy => c_X12_emit hq hy) ml_RX12_154 mv_X12_emit sM_0 (x_lt hN rfl) rfl ⟨rfl, rfl, by decide, by decide⟩ rfl hl.1 rfl (Nat.le_of_ble_eq_true rfl) dX12_begins_235 (fun H locs _ M hw h => ?_)
          refine lv_goto (tgt := 247) hx hb dX12_begins_238 (by decide) ?_
          exact w247 _ _ _ _ hw (lv_sub hl [0] rfl) h
      · exact w241 _ _ _ _ hw (lv_sub hl [0] rfl) h
    · exact w241 _ _ _ _ hw (lv_sub hl [0] rfl) h
  unfold f_X12_begins at h
  refine lv_aload_n hx hb dX12_begins_0 rfl (lv_at hl 0 rfl) ?_
  refine lv_bipush (v := (nI 33)) hx hb dX12_begins_1 (by decide) ?_
  refine xh_cVi C hw (rest := []) h (fun _ hy => c_X12_isSign hq hy) ml_RX12_161 mv_X12_isSign sM_0 (x_lt hN rfl) rfl ⟨rfl, rfl, by decide, by decide⟩ rfl hl.1 rfl (Nat.le_of_ble_eq_true rfl) dX12_begins_3 (fun H locs r3 M hw h => ?_)
  refine x_if_ne (tgt := 18) hx hb h dX12_begins_6 (by decide) (fun h => ?_) (fun h => ?_)
  · refine lv_aload_n hx hb dX12_begins_9 rfl (lv_at hl 0 rfl) ?_
    refine lv_bipush (v := (nI 40)) hx hb dX12_begins_10 (by decide) ?_
    refine xh_cVi C hw (rest := []) h (fun _ hy => c_X12_isSign hq hy) ml_RX12_161 mv_X12_isSign sM_0 (x_lt hN rfl) rfl ⟨rfl, rfl, by decide, by decide⟩ rfl hl.1 rfl (Nat.le_of_ble_eq_true rfl) dX12_begins_12 (fun H locs r12 M hw h => ?_)
    refine x_if_eq (tgt := 121) hx hb h dX12_begins_15 (by decide) (fun h => ?_) (fun h => ?_)
    · refine lv_aload_n hx hb dX12_begins_121 rfl (lv_at hl 0 rfl) ?_
      refine xh_geti C hw 0 8 h sM_0 (x_lt hN rfl) rfl rfl rfl lk_RX12_132 dX12_begins_122 (fun r122 h => ?_)
      refine lv_iconst (v := (nI 2)) hx hb dX12_begins_125 (by decide) ?_
      refine x_icmp_ne (tgt := 187) hx hb h dX12_begins_126 (by decide) (fun h => ?_) (fun h => ?_)
      · refine lv_aload_n hx hb dX12_begins_129 rfl (lv_at hl 0 rfl) ?_
        refine xh_geti C hw 0 6 h sM_0 (x_lt hN rfl) rfl rfl rfl lk_RX12_126 dX12_begins_130 (fun r130 h => ?_)
        refine lv_aload_n hx hb dX12_begins_133 rfl (lv_at hl 0 rfl) ?_
        refine xh_geti C hw 0 5 h sM_0 (x_lt hN rfl) rfl rfl rfl lk_RX12_120 dX12_begins_134 (fun r134 h => ?_)
        refine lv_isub hx hb dX12_begins_137 ?_
        refine lv_iconst (v := (nI 5)) hx hb dX12_begins_138 (by decide) ?_
        refine x_icmp_gt (tgt := 187) hx hb h dX12_begins_139 (by decide) (fun h => ?_) (fun h => ?_)
        · exact w187 _ _ _ _ hw (lv_sub hl [0] rfl) h
        · refine lv_iconst (v := (nI 0)) hx hb dX12_begins_142 (by decide) ?_
          refine lv_istore_n (lv' := [(1, .int _), (0, .ref (q 0))]) hx hb dX12_begins_143 rfl hl (by decide) rfl (fun ls hl => ?_)
          refine lv_aload_n hx hb dX12_begins_144 rfl (lv_at hl 1 rfl) ?_
          refine xh_geti C hw 0 5 h sM_0 (x_lt hN rfl) rfl rfl rfl lk_RX12_120 dX12_begins_145 (fun r145 h => ?_)
          refine lv_istore_n (lv' := [(2, .int _), (1, .int _), (0, .ref (q 0))]) hx hb dX12_begins_148 rfl hl (by decide) rfl (fun ls hl => ?_)
          exact w149 _ _ _ _ _ _ _ hw (lv_sub hl [2, 1, 0] rfl) h
      · exact w187 _ _ _ _ hw (lv_sub hl [0] rfl) h
    · exact w18 _ _ _ _ hw (lv_sub hl [0] rfl) h
  · exact w18 _ _ _ _ hw (lv_sub hl [0] rfl) h
def f_X12_signHere (M : x_M) : Option (Int32 × x_M) := x_gf M 0 8 (fun r1 => if r1 = (nI 3) then x_gf M 0 5 (fun r15 => x_rd 132 (M 3) r15 (fun r18 => if r18 = (nI 38) then some ((nI 20), M) else if r18 = (nI 42) then some ((nI 50), M) else if r18 = (nI 43) then some ((nI 40), M) else if r18 = (nI 45) then some ((nI 41), M) else if r18 = (nI 47) then some ((nI 51), M) else if r18 = (nI 60) then some ((nI 30), M) else if r18 = (nI 61) then some ((nI 31), M) else if r18 = (nI 62) then some ((nI 32), M) else if r18 = (nI 124) then some ((nI 10), M) else some ((nI 0), M))) else some ((nI 0), M))
abbrev rm_X12_signHere : Room := { frames := 0, cells := 0, slots := 0, locals := 0 }
set_option maxHeartbeats 4000000 in
set_option maxRecDepth 100000 in
theorem c_X12_signHere {l : Launch} {D : va_G} {cy : Nat → ClassId} {q ad : Nat → Nat} {s0 : State} (hq : x_Q q 24 s0.heap.size) {M : x_M} {z : Int32 × x_M} (h : f_X12_signHere M = some z) : x_Ci l D cy q ad x_spM 24 s0 yX12_signHere (x_uw yX12_signHere cX12_signHere 1 (some .int)) rm_X12_signHere [.ref (q 0)] M z.1 z.2 := by
  have hN : 24 ≤ 24 := Nat.le_refl _
  refine x_meti hq (by decide) (Nat.le_of_ble_eq_true rfl) ?_
  intro p e s m args below meth c ls Q C hret hl hw
  have hx := C.1.1
  have hb := C.1.2.1
  have ho := C.1.2.2.2.1
  have hL := C.1.2.2.2.2
  have hl : lv_has ls 1 [(0, .ref (q 0))] := hl
  unfold f_X12_signHere at h
  refine lv_aload_n hx hb dX12_signHere_0 rfl (lv_at hl 0 rfl) ?_
  refine xh_geti C hw 0 8 h sM_0 (x_lt hN rfl) rfl rfl rfl lk_RX12_132 dX12_signHere_1 (fun r1 h => ?_)
  refine lv_iconst (v := (nI 3)) hx hb dX12_signHere_4 (by decide) ?_
  refine x_icmp_eq (tgt := 10) hx hb h dX12_signHere_5 (by decide) (fun h => ?_) (fun h => ?_)
  · refine lv_aload_n hx hb dX12_signHere_10 rfl (lv_at hl 0 rfl) ?_
    refine xh_getr C hw 0 3 sM_0 (x_lt hN rfl) rfl rfl rfl lk_RX12_16 dX12_signHere_11 ?_
    refine lv_aload_n hx hb dX12_signHere_14 rfl (lv_at hl 0 rfl) ?_
    refine xh_geti C hw 0 5 h sM_0 (x_lt hN rfl) rfl rfl rfl lk_RX12_120 dX12_signHere_15 (fun r15 h => ?_)
    refine xh_iald C hw 3 132 h sM_3 (x_lt hN rfl) dX12_signHere_18 (fun r18 h => ?_)
    refine (Decidable.em (r18 = (nI 38))).elim (fun c19_38 => ?_) (fun c19_38 => ?_)
    · rw [if_pos c19_38] at h
      rw [c19_38]
      refine lv_lookup (off := 84) (tgt := 103) hx hb dX12_signHere_19 (by decide) (by decide) (by decide) ?_
      refine lv_bipush (v := (nI 20)) hx hb dX12_signHere_103 (by decide) ?_
      exact hret dX12_signHere_105 rfl hw h
    rw [if_neg c19_38] at h
    refine (Decidable.em (r18 = (nI 42))).elim (fun c19_42 => ?_) (fun c19_42 => ?_)
    · rw [if_pos c19_42] at h
      rw [c19_42]
      refine lv_lookup (off := 102) (tgt := 121) hx hb dX12_signHere_19 (by decide) (by decide) (by decide) ?_
      refine lv_bipush (v := (nI 50)) hx hb dX12_signHere_121 (by decide) ?_
      exact hret dX12_signHere_123 rfl hw h
    rw [if_neg c19_42] at h
    refine (Decidable.em (r18 = (nI 43))).elim (fun c19_43 => ?_) (fun c19_43 => ?_)
    · rw [if_pos c19_43] at h
      rw [c19_43]
      refine lv_lookup (off := 96) (tgt := 115) hx hb dX12_signHere_19 (by decide) (by decide) (by decide) ?_
      refine lv_bipush (v := (nI 40)) hx hb dX12_signHere_115 (by decide) ?_
      exact hret dX12_signHere_117 rfl hw h
    rw [if_neg c19_43] at h
    refine (Decidable.em (r18 = (nI 45))).elim (fun c19_45 => ?_) (fun c19_45 => ?_)
    · rw [if_pos c19_45] at h
      rw [c19_45]
      refine lv_lookup (off := 99) (tgt := 118) hx hb dX12_signHere_19 (by decide) (by decide) (by decide) ?_
      refine lv_bipush (v := (nI 41)) hx hb dX12_signHere_118 (by decide) ?_
      exact hret dX12_signHere_120 rfl hw h
    rw [if_neg c19_45] at h
    refine (Decidable.em (r18 = (nI 47))).elim (fun c19_47 => ?_) (fun c19_47 => ?_)
    · rw [if_pos c19_47] at h
      rw [c19_47]
      refine lv_lookup (off := 105) (tgt := 124) hx hb dX12_signHere_19 (by decide) (by decide) (by decide) ?_
      refine lv_bipush (v := (nI 51)) hx hb dX12_signHere_124 (by decide) ?_
      exact hret dX12_signHere_126 rfl hw h
    rw [if_neg c19_47] at h
    refine (Decidable.em (r18 = (nI 60))).elim (fun c19_60 => ?_) (fun c19_60 => ?_)
    · rw [if_pos c19_60] at h
      rw [c19_60]
      refine lv_lookup (off := 87) (tgt := 106) hx hb dX12_signHere_19 (by decide) (by decide) (by decide) ?_
      refine lv_bipush (v := (nI 30)) hx hb dX12_signHere_106 (by decide) ?_
      exact hret dX12_signHere_108 rfl hw h
    rw [if_neg c19_60] at h
    refine (Decidable.em (r18 = (nI 61))).elim (fun c19_61 => ?_) (fun c19_61 => ?_)
    · rw [if_pos c19_61] at h
      rw [c19_61]
      refine lv_lookup (off := 90) (tgt := 109) hx hb dX12_signHere_19 (by decide) (by decide) (by decide) ?_
      refine lv_bipush (v := (nI 31)) hx hb dX12_signHere_109 (by decide) ?_
      exact hret dX12_signHere_111 rfl hw h
    rw [if_neg c19_61] at h
    refine (Decidable.em (r18 = (nI 62))).elim (fun c19_62 => ?_) (fun c19_62 => ?_)
    · rw [if_pos c19_62] at h
      rw [c19_62]
      refine lv_lookup (off := 93) (tgt := 112) hx hb dX12_signHere_19 (by decide) (by decide) (by decide) ?_
      refine lv_bipush (v := (nI 32)) hx hb dX12_signHere_112 (by decide) ?_
      exact hret dX12_signHere_114 rfl hw h
    rw [if_neg c19_62] at h
    refine (Decidable.em (r18 = (nI 124))).elim (fun c19_124 => ?_) (fun c19_124 => ?_)
    · rw [if_pos c19_124] at h
      rw [c19_124]
      refine lv_lookup (off := 81) (tgt := 100) hx hb dX12_signHere_19 (by decide) (by decide) (by decide) ?_
      refine lv_bipush (v := (nI 10)) hx hb dX12_signHere_100 (by decide) ?_
      exact hret dX12_signHere_102 rfl hw h
    rw [if_neg c19_124] at h
    refine lv_lookup (off := 108) (tgt := 127) hx hb dX12_signHere_19 (by decide) (by show Op.lookupswitch.offset [(38, 84), (42, 102), (43, 96), (45, 99), (47, 105), (60, 87), (61, 90), (62, 93), (124, 81)] 108 _ = _; rw [lv_osw c19_38 (show ((nI 38) : Int32).toInt = 38 by decide), lv_osw c19_42 (show ((nI 42) : Int32).toInt = 42 by decide), lv_osw c19_43 (show ((nI 43) : Int32).toInt = 43 by decide), lv_osw c19_45 (show ((nI 45) : Int32).toInt = 45 by decide), lv_osw c19_47 (show ((nI 47) : Int32).toInt = 47 by decide), lv_osw c19_60 (show ((nI 60) : Int32).toInt = 60 by decide), lv_osw c19_61 (show ((nI 61) : Int32).toInt = 61 by decide), lv_osw c19_62 (show ((nI 62) : Int32).toInt = 62 by decide), lv_osw c19_124 (show ((nI 124) : Int32).toInt = 124 by decide)]; rfl) (by decide) ?_
    refine lv_iconst (v := (nI 0)) hx hb dX12_signHere_127 (by decide) ?_
    exact hret dX12_signHere_128 rfl hw h
  · refine lv_iconst (v := (nI 0)) hx hb dX12_signHere_8 (by decide) ?_
    exact hret dX12_signHere_9 rfl hw h
def f_X12_expression_205 (k19 : x_M → Int32 → Int32 → Option (Unit × x_M)) (M : x_M) (v1 : Int32) (v2 : Int32) : Option (Unit × x_M) := k19 M v1 v2
def f_X12_expression_111 (k19 : x_M → Int32 → Int32 → Option (Unit × x_M)) (M : x_M) (v2 : Int32) (v3 : Int32) : Option (Unit × x_M) := x_gf M 0 16 (fun r116 => x_wr 140 M 5 r116 v3 (fun M => x_gf M 0 16 (fun r123 => x_pf M 0 16 (r123 + (nI 1)) (fun M => x_bn (f_X12_next M) (fun _ M => f_X12_expression_205 k19 M (nI 1) v2)))))
def f_X12_expression_68 (k19 : x_M → Int32 → Int32 → Option (Unit × x_M)) (M : x_M) (v1 : Int32) (v2 : Int32) (v3 : Int32) (t1 : Int32) : Option (Unit × x_M) := x_bn (f_X12_works M t1) (fun _ M => x_dv (nI 10) (if (v3 / (nI 10)) = (nI 3) then x_gf M 0 16 (fun r80 => if r80 ≤ 0 then f_X12_expression_111 k19 M v2 v3 else x_gf M 0 16 (fun r91 => x_rd 140 (M 5) (r91 - (nI 1)) (fun r96 => x_dv (nI 10) (if (r96 / (nI 10)) = (nI 3) then x_bn (f_X12_wrong M) (fun _ M => f_X12_expression_205 k19 M v1 v2) else f_X12_expression_111 k19 M v2 v3)))) else f_X12_expression_111 k19 M v2 v3))
def f_X12_expression_192 (k19 : x_M → Int32 → Int32 → Option (Unit × x_M)) (M : x_M) (v1 : Int32) : Option (Unit × x_M) := x_gf M 0 17 (fun r195 => if r195 ≤ 0 then f_X12_expression_205 k19 M v1 (nI 0) else x_bn (f_X12_wrong M) (fun _ M => f_X12_expression_205 k19 M v1 (nI 0)))
def f_X12_expression_208 (M : x_M) : Option (Unit × x_M) := x_gf M 0 10 (fun r209 => if r209 = 0 then x_bn (f_X12_works M (nI 1)) (fun _ M => some ((), M)) else some ((), M))
def f_X12_expression_19 : Nat → x_M → Int32 → Int32 → Option (Unit × x_M)
  | 0, _, _, _ => none
  | n + 1, M, v1, v2 => if v2 = 0 then f_X12_expression_208 M else x_gf M 0 10 (fun r24 => if r24 = 0 then if v1 = 0 then x_bn (f_X12_signHere M) (fun r43 M => if r43 = 0 then x_bn (f_X12_isSign M (nI 41)) (fun r143 M => if r143 = 0 then f_X12_expression_192 (f_X12_expression_19 n) M v1 else x_gf M 0 17 (fun r150 => if r150 ≤ 0 then f_X12_expression_192 (f_X12_expression_19 n) M v1 else x_bn (f_X12_works M (nI 1)) (fun _ M => x_gf M 0 16 (fun r163 => x_pf M 0 16 (r163 - (nI 1)) (fun M => x_gf M 0 17 (fun r173 => x_pf M 0 17 (r173 - (nI 1)) (fun M => x_bn (f_X12_next M) (fun _ M => x_bn (f_X12_parted M) (fun _ M => f_X12_expression_205 (f_X12_expression_19 n) M v1 v2))))))))) else x_dv (nI 10) (if (r43 / (nI 10)) = (nI 3) then f_X12_expression_68 (f_X12_expression_19 n) M v1 v2 r43 (nI 4) else x_dv (nI 10) (f_X12_expression_68 (f_X12_expression_19 n) M v1 v2 r43 (r43 / (nI 10))))) else x_bn (f_X12_begins M) (fun r35 M => (f_X12_expression_19 n) M r35 v2) else f_X12_expression_208 M)
theorem f_X12_expression_19_0 (M : x_M) (v1 : Int32) (v2 : Int32) : f_X12_expression_19 0 M v1 v2 = none := rfl
theorem f_X12_expression_19_s (n : Nat) (M : x_M) (v1 : Int32) (v2 : Int32) : f_X12_expression_19 (n + 1) M v1 v2 = (if v2 = 0 then f_X12_expression_208 M else x_gf M 0 10 (fun r24 => if r24 = 0 then if v1 = 0 then x_bn (f_X12_signHere M) (fun r43 M => if r43 = 0 then x_bn (f_X12_isSign M (nI 41)) (fun r143 M => if r143 = 0 then f_X12_expression_192 (f_X12_expression_19 n) M v1 else x_gf M 0 17 (fun r150 => if r150 ≤ 0 then f_X12_expression_192 (f_X12_expression_19 n) M v1 else x_bn (f_X12_works M (nI 1)) (fun _ M => x_gf M 0 16 (fun r163 => x_pf M 0 16 (r163 - (nI 1)) (fun M => x_gf M 0 17 (fun r173 => x_pf M 0 17 (r173 - (nI 1)) (fun M => x_bn (f_X12_next M) (fun _ M => x_bn (f_X12_parted M) (fun _ M => f_X12_expression_205 (f_X12_expression_19 n) M v1 v2))))))))) else x_dv (nI 10) (if (r43 / (nI 10)) = (nI 3) then f_X12_expression_68 (f_X12_expression_19 n) M v1 v2 r43 (nI 4) else x_dv (nI 10) (f_X12_expression_68 (f_X12_expression_19 n) M v1 v2 r43 (r43 / (nI 10))))) else x_bn (f_X12_begins M) (fun r35 M => (f_X12_expression_19 n) M r35 v2) else f_X12_expression_208 M)) := rfl
def f_X12_expression (M : x_M) : Option (Unit × x_M) := x_pf M 0 16 (nI 0) (fun M => x_pf M 0 17 (nI 0) (fun M => x_pf M 0 18 (nI 0) (fun M => f_X12_expression_19 x_FU M (nI 1) (nI 1))))
abbrev rm_X12_expression : Room := { frames := 4, cells := 0, slots := 0, locals := 86 }
set_option maxHeartbeats 4000000 in
set_option maxRecDepth 100000 in
theorem c_X12_expression {l : Launch} {D : va_G} {cy : Nat → ClassId} {q ad : Nat → Nat} {s0 : State} (hq : x_Q q 24 s0.heap.size) {M : x_M} {z : Unit × x_M} (h : f_X12_expression M = some z) : x_Cv l D cy q ad x_spM 24 s0 yX12_expression (x_uw yX12_expression cX12_expression 4 none) rm_X12_expression [.ref (q 0)] M z.2 := by
  have hN : 24 ≤ 24 := Nat.le_refl _
  refine x_metv hq (by decide) (Nat.le_of_ble_eq_true rfl) ?_
  intro p e s m args below meth c ls Q C hret hl hw
  have hx := C.1.1
  have hb := C.1.2.1
  have ho := C.1.2.2.2.1
  have hL := C.1.2.2.2.2
  have hl : lv_has ls 4 [(0, .ref (q 0))] := hl
  have w19 : ∀ (n : Nat) (M : x_M) (v1 : Int32) (v2 : Int32) (H : Heap) (locs : List Loc) (ls : Array Slot), x_B D cy q ad x_spM 24 s H locs M → lv_has ls 4 [(0, .ref (q 0)), (1, .int v1), (2, .int v2)] → f_X12_expression_19 n M v1 v2 = some z → W p l e rm_X12_expression s m args below meth c H locs 0 0 Q (F0 m 19 ls []) := by
    intro n
    induction n with
    | zero =>
      intro M v1 v2 H locs ls hw hl h
      rw [f_X12_expression_19_0] at h
      cases h
    | succ n19 ih19 =>
      have w205 : ∀ (M : x_M) (v1 : Int32) (v2 : Int32) (H : Heap) (locs : List Loc) (ls : Array Slot), x_B D cy q ad x_spM 24 s H locs M → lv_has ls 4 [(0, .ref (q 0)), (1, .int v1), (2, .int v2)] → f_X12_expression_205 (f_X12_expression_19 n19) M v1 v2 = some z → W p l e rm_X12_expression s m args below meth c H locs 0 0 Q (F0 m 205 ls []) := by
        intro M v1 v2 H locs ls hw hl h
        unfold f_X12_expression_205 at h
        refine lv_goto (tgt := 19) hx hb dX12_expression_205 (by decide) ?_
        exact ih19 _ _ _ _ _ _ hw (lv_sub hl [0, 1, 2] rfl) h
      have w68 : ∀ (M : x_M) (v1 : Int32) (v2 : Int32) (v3 : Int32) (t1 : Int32) (H : Heap) (locs : List Loc) (ls : Array Slot), x_B D cy q ad x_spM 24 s H locs M → lv_has ls 4 [(0, .ref (q 0)), (1, .int v1), (2, .int v2), (3, .int v3)] → f_X12_expression_68 (f_X12_expression_19 n19) M v1 v2 v3 t1 = some z → W p l e rm_X12_expression s m args below meth c H locs 0 0 Q (F0 m 68 ls [.int t1, .ref (q 0)]) := by
        have w111 : ∀ (M : x_M) (v2 : Int32) (v3 : Int32) (H : Heap) (locs : List Loc) (ls : Array Slot), x_B D cy q ad x_spM 24 s H locs M → lv_has ls 4 [(0, .ref (q 0)), (2, .int v2), (3, .int v3)] → f_X12_expression_111 (f_X12_expression_19 n19) M v2 v3 = some z → W p l e rm_X12_expression s m args below meth c H locs 0 0 Q (F0 m 111 ls []) := by
          intro M v2 v3 H locs ls hw hl h
          unfold f_X12_expression_111 at h
          refine lv_aload_n hx hb dX12_expression_111 rfl (lv_at hl 0 rfl) ?_
          refine xh_getr C hw 0 15 sM_0 (x_lt hN rfl) rfl rfl rfl lk_RX12_22 dX12_expression_112 ?_
          refine lv_aload_n hx hb dX12_expression_115 rfl (lv_at hl 0 rfl) ?_
          refine xh_geti C hw 0 16 h sM_0 (x_lt hN rfl) rfl rfl rfl lk_RX12_151 dX12_expression_116 (fun r116 h => ?_)
          refine lv_iload_n hx hb dX12_expression_119 rfl (lv_at hl 2 rfl) ?_
          refine xh_iast C hw 5 140 h sM_5 (x_lt hN rfl) dX12_expression_120 (fun H locs M hw h => ?_)
          refine lv_aload_n hx hb dX12_expression_121 rfl (lv_at hl 0 rfl) ?_
          refine lv_dup hx hb dX12_expression_122 rfl ?_
          refine xh_geti C hw 0 16 h sM_0 (x_lt hN rfl) rfl rfl rfl lk_RX12_151 dX12_expression_123 (fun r123 h => ?_)
          refine lv_iconst (v := (nI 1)) hx hb dX12_expression_126 (by decide) ?_
          refine lv_iadd hx hb dX12_expression_127 ?_
          refine xh_puti C hw 0 16 h sM_0 (x_lt hN rfl) rfl rfl rfl lk_RX12_151 rfl rfl dX12_expression_128 (fun H locs M hw h => ?_)
          refine lv_iconst (v := (nI 1)) hx hb dX12_expression_131 (by decide) ?_
          refine lv_istore_n (lv' := [(1, .int _), (0, .ref (q 0)), (2, .int _), (3, .int _)]) hx hb dX12_expression_132 rfl hl (by decide) rfl (fun ls hl => ?_)
          refine lv_aload_n hx hb dX12_expression_133 rfl (lv_at hl 1 rfl) ?_
          refine xh_cVv C hw (rest := []) h (fun _ hy => c_X12_next hq hy) ml_RX12_167 mv_X12_next sM_0 (x_lt hN rfl) rfl ⟨rfl, rfl, by decide, by decide⟩ rfl hl.1 rfl (Nat.le_of_ble_eq_true rfl) dX12_expression_134 (fun H locs _ M hw h => ?_)
          refine lv_goto (tgt := 205) hx hb dX12_expression_137 (by decide) ?_
          exact w205 _ _ _ _ _ _ hw (lv_sub hl [1, 0, 2] rfl) h
        intro M v1 v2 v3 t1 H locs ls hw hl h
        unfold f_X12_expression_68 at h
        refine xh_cVv C hw (rest := []) h (fun _ hy => c_X12_works hq hy) ml_RX12_187 mv_X12_works sM_0 (x_lt hN rfl) rfl ⟨rfl, rfl, by decide, by decide⟩ rfl hl.1 rfl (Nat.le_of_ble_eq_true rfl) dX12_expression_68 (fun H locs _ M hw h => ?_)
        refine lv_iload_n hx hb dX12_expression_71 rfl (lv_at hl 3 rfl) ?_
        refine lv_bipush (v := (nI 10)) hx hb dX12_expression_72 (by decide) ?_
        refine xh_idiv hx hb h dX12_expression_74 (fun h => ?_)
        refine lv_iconst (v := (nI 3)) hx hb dX12_expression_75 (by decide) ?_
        refine x_icmp_ne (tgt := 111) hx hb h dX12_expression_76 (by decide) (fun h => ?_) (fun h => ?_)
        · refine lv_aload_n hx hb dX12_expression_79 rfl (lv_at hl 0 rfl) ?_
          refine xh_geti C hw 0 16 h sM_0 (x_lt hN rfl) rfl rfl rfl lk_RX12_151 dX12_expression_80 (fun r80 h => ?_)
          refine x_if_le (tgt := 111) hx hb h dX12_expression_83 (by decide) (fun h => ?_) (fun h => ?_)
          · exact w111 _ _ _ _ _ _ hw (lv_sub hl [0, 2, 3] rfl) h
          · refine lv_aload_n hx hb dX12_expression_86 rfl (lv_at hl 0 rfl) ?_
            refine xh_getr C hw 0 15 sM_0 (x_lt hN rfl) rfl rfl rfl lk_RX12_22 dX12_expression_87 ?_
            refine lv_aload_n hx hb dX12_expression_90 rfl (lv_at hl 0 rfl) ?_
            refine xh_geti C hw 0 16 h sM_0 (x_lt hN rfl) rfl rfl rfl lk_RX12_151 dX12_expression_91 (fun r91 h => ?_)
            refine lv_iconst (v := (nI 1)) hx hb dX12_expression_94 (by decide) ?_
            refine lv_isub hx hb dX12_expression_95 ?_
            refine xh_iald C hw 5 140 h sM_5 (x_lt hN rfl) dX12_expression_96 (fun r96 h => ?_)
            refine lv_bipush (v := (nI 10)) hx hb dX12_expression_97 (by decide) ?_
            refine xh_idiv hx hb h dX12_expression_99 (fun h => ?_)
            refine lv_iconst (v := (nI 3)) hx hb dX12_expression_100 (by decide) ?_
            refine x_icmp_ne (tgt := 111) hx hb h dX12_expression_101 (by decide) (fun h => ?_) (fun h => ?_)
            · refine lv_aload_n hx hb dX12_expression_104 rfl (lv_at hl 0 rfl) ?_
              refine xh_cVv C hw (rest := []) h (fun _ hy => c_X12_wrong hq hy) ml_RX12_138 mv_X12_wrong sM_0 (x_lt hN rfl) rfl ⟨rfl, rfl, by decide, by decide⟩ rfl hl.1 rfl (Nat.le_of_ble_eq_true rfl) dX12_expression_105 (fun H locs _ M hw h => ?_)
              refine lv_goto (tgt := 205) hx hb dX12_expression_108 (by decide) ?_
              exact w205 _ _ _ _ _ _ hw (lv_sub hl [0, 1, 2] rfl) h
            · exact w111 _ _ _ _ _ _ hw (lv_sub hl [0, 2, 3] rfl) h
        · exact w111 _ _ _ _ _ _ hw (lv_sub hl [0, 2, 3] rfl) h
      have w192 : ∀ (M : x_M) (v1 : Int32) (H : Heap) (locs : List Loc) (ls : Array Slot), x_B D cy q ad x_spM 24 s H locs M → lv_has ls 4 [(0, .ref (q 0)), (1, .int v1)] → f_X12_expression_192 (f_X12_expression_19 n19) M v1 = some z → W p l e rm_X12_expression s m args below meth c H locs 0 0 Q (F0 m 192 ls []) := by
        intro M v1 H locs ls hw hl h
        unfold f_X12_expression_192 at h
        refine lv_iconst (v := (nI 0)) hx hb dX12_expression_192 (by decide) ?_
        refine lv_istore_n (lv' := [(2, .int _), (0, .ref (q 0)), (1, .int _)]) hx hb dX12_expression_193 rfl hl (by decide) rfl (fun ls hl => ?_)
        refine lv_aload_n hx hb dX12_expression_194 rfl (lv_at hl 1 rfl) ?_
        refine xh_geti C hw 0 17 h sM_0 (x_lt hN rfl) rfl rfl rfl lk_RX12_164 dX12_expression_195 (fun r195 h => ?_)
        refine x_if_le (tgt := 205) hx hb h dX12_expression_198 (by decide) (fun h => ?_) (fun h => ?_)
        · exact w205 _ _ _ _ _ _ hw (lv_sub hl [1, 2, 0] rfl) h
        · refine lv_aload_n hx hb dX12_expression_201 rfl (lv_at hl 1 rfl) ?_
          refine xh_cVv C hw (rest := []) h (fun _ hy => c_X12_wrong hq hy) ml_RX12_138 mv_X12_wrong sM_0 (x_lt hN rfl) rfl ⟨rfl, rfl, by decide, by decide⟩ rfl hl.1 rfl (Nat.le_of_ble_eq_true rfl) dX12_expression_202 (fun H locs _ M hw h => ?_)
          exact w205 _ _ _ _ _ _ hw (lv_sub hl [1, 2, 0] rfl) h
      have w208 : ∀ (M : x_M) (H : Heap) (locs : List Loc) (ls : Array Slot), x_B D cy q ad x_spM 24 s H locs M → lv_has ls 4 [(0, .ref (q 0))] → f_X12_expression_208 M = some z → W p l e rm_X12_expression s m args below meth c H locs 0 0 Q (F0 m 208 ls []) := by
        intro M H locs ls hw hl h
        unfold f_X12_expression_208 at h
        refine lv_aload_n hx hb dX12_expression_208 rfl (lv_at hl 0 rfl) ?_
        refine xh_geti C hw 0 10 h sM_0 (x_lt hN rfl) rfl rfl rfl lk_RX12_116 dX12_expression_209 (fun r209 h => ?_)
        refine x_if_ne (tgt := 220) hx hb h dX12_expression_212 (by decide) (fun h => ?_) (fun h => ?_)
        · refine lv_aload_n hx hb dX12_expression_215 rfl (lv_at hl 0 rfl) ?_
          refine lv_iconst (v := (nI 1)) hx hb dX12_expression_216 (by decide) ?_
          refine xh_cVv C hw (rest := []) h (fun _ hy => c_X12_works hq hy) ml_RX12_187 mv_X12_works sM_0 (x_lt hN rfl) rfl ⟨rfl, rfl, by decide, by decide⟩ rfl hl.1 rfl (Nat.le_of_ble_eq_true rfl) dX12_expression_217 (fun H locs _ M hw h => ?_)
          exact hret dX12_expression_220 hw h
        · exact hret dX12_expression_220 hw h
      intro M v1 v2 H locs ls hw hl h
      rw [f_X12_expression_19_s] at h
      refine lv_iload_n hx hb dX12_expression_19 rfl (lv_at hl 2 rfl) ?_
      refine x_if_eq (tgt := 208) hx hb h dX12_expression_20 (by decide) (fun h => ?_) (fun h => ?_)
      · exact w208 _ _ _ _ hw (lv_sub hl [0] rfl) h
      · refine lv_aload_n hx hb dX12_expression_23 rfl (lv_at hl 0 rfl) ?_
        refine xh_geti C hw 0 10 h sM_0 (x_lt hN rfl) rfl rfl rfl lk_RX12_116 dX12_expression_24 (fun r24 h => ?_)
        refine x_if_ne (tgt := 208) hx hb h dX12_expression_27 (by decide) (fun h => ?_) (fun h => ?_)
        · refine lv_iload_n hx hb dX12_expression_30 rfl (lv_at hl 1 rfl) ?_
          refine x_if_eq (tgt := 42) hx hb h dX12_expression_31 (by decide) (fun h => ?_) (fun h => ?_)
          · refine lv_aload_n hx hb dX12_expression_42 rfl (lv_at hl 0 rfl) ?_
            refine xh_cVi C hw (rest := []) h (fun _ hy => c_X12_signHere hq hy) ml_RX12_183 mv_X12_signHere sM_0 (x_lt hN rfl) rfl ⟨rfl, rfl, by decide, by decide⟩ rfl hl.1 rfl (Nat.le_of_ble_eq_true rfl) dX12_expression_43 (fun H locs r43 M hw h => ?_)
            refine lv_istore_n (lv' := [(3, .int _), (0, .ref (q 0)), (1, .int _), (2, .int _)]) hx hb dX12_expression_46 rfl hl (by decide) rfl (fun ls hl => ?_)
            refine lv_iload_n hx hb dX12_expression_47 rfl (lv_at hl 0 rfl) ?_
            refine x_if_eq (tgt := 140) hx hb h dX12_expression_48 (by decide) (fun h => ?_) (fun h => ?_)
            · refine lv_aload_n hx hb dX12_expression_140 rfl (lv_at hl 1 rfl) ?_
              refine lv_bipush (v := (nI 41)) hx hb dX12_expression_141 (by decide) ?_
              refine xh_cVi C hw (rest := []) h (fun _ hy => c_X12_isSign hq hy) ml_RX12_161 mv_X12_isSign sM_0 (x_lt hN rfl) rfl ⟨rfl, rfl, by decide, by decide⟩ rfl hl.1 rfl (Nat.le_of_ble_eq_true rfl) dX12_expression_143 (fun H locs r143 M hw h => ?_)
              refine x_if_eq (tgt := 192) hx hb h dX12_expression_146 (by decide) (fun h => ?_) (fun h => ?_)
              · exact w192 _ _ _ _ _ hw (lv_sub hl [1, 2] rfl) h
              · refine lv_aload_n hx hb dX12_expression_149 rfl (lv_at hl 1 rfl) ?_
                refine xh_geti C hw 0 17 h sM_0 (x_lt hN rfl) rfl rfl rfl lk_RX12_164 dX12_expression_150 (fun r150 h => ?_)
                refine x_if_le (tgt := 192) hx hb h dX12_expression_153 (by decide) (fun h => ?_) (fun h => ?_)
                · exact w192 _ _ _ _ _ hw (lv_sub hl [1, 2] rfl) h
                · refine lv_aload_n hx hb dX12_expression_156 rfl (lv_at hl 1 rfl) ?_
                  refine lv_iconst (v := (nI 1)) hx hb dX12_expression_157 (by decide) ?_
                  refine xh_cVv C hw (rest := []) h (fun _ hy => c_X12_works hq hy) ml_RX12_187 mv_X12_works sM_0 (x_lt hN rfl) rfl ⟨rfl, rfl, by decide, by decide⟩ rfl hl.1 rfl (Nat.le_of_ble_eq_true rfl) dX12_expression_158 (fun H locs _ M hw h => ?_)
                  refine lv_aload_n hx hb dX12_expression_161 rfl (lv_at hl 1 rfl) ?_
                  refine lv_dup hx hb dX12_expression_162 rfl ?_
                  refine xh_geti C hw 0 16 h sM_0 (x_lt hN rfl) rfl rfl rfl lk_RX12_151 dX12_expression_163 (fun r163 h => ?_)
                  refine lv_iconst (v := (nI 1)) hx hb dX12_expression_166 (by decide) ?_
                  refine lv_isub hx hb dX12_expression_167 ?_
                  refine xh_puti C hw 0 16 h sM_0 (x_lt hN rfl) rfl rfl rfl lk_RX12_151 rfl rfl dX12_expression_168 (fun H locs M hw h => ?_)
                  refine lv_aload_n hx hb dX12_expression_171 rfl (lv_at hl 1 rfl) ?_
                  refine lv_dup hx hb dX12_expression_172 rfl ?_
                  refine xh_geti C hw 0 17 h sM_0 (x_lt hN rfl) rfl rfl rfl lk_RX12_164 dX12_expression_173 (fun r173 h => ?_)
                  refine lv_iconst (v := (nI 1)) hx hb dX12_expression_176 (by decide) ?_
                  refine lv_isub hx hb dX12_expression_177 ?_
                  refine xh_puti C hw 0 17 h sM_0 (x_lt hN rfl) rfl rfl rfl lk_RX12_164 rfl rfl dX12_expression_178 (fun H locs M hw h => ?_)
                  refine lv_aload_n hx hb dX12_expression_181 rfl (lv_at hl 1 rfl) ?_
                  refine xh_cVv C hw (rest := []) h (fun _ hy => c_X12_next hq hy) ml_RX12_167 mv_X12_next sM_0 (x_lt hN rfl) rfl ⟨rfl, rfl, by decide, by decide⟩ rfl hl.1 rfl (Nat.le_of_ble_eq_true rfl) dX12_expression_182 (fun H locs _ M hw h => ?_)
                  refine lv_aload_n hx hb dX12_expression_185 rfl (lv_at hl 1 rfl) ?_
                  refine xh_cVv C hw (rest := []) h (fun _ hy => c_X12_parted hq hy) ml_RX12_176 mv_X12_parted sM_0 (x_lt hN rfl) rfl ⟨rfl, rfl, by decide, by decide⟩ rfl hl.1 rfl (Nat.le_of_ble_eq_true rfl) dX12_expression_186 (fun H locs _ M hw h => ?_)
                  refine lv_goto (tgt := 205) hx hb dX12_expression_189 (by decide) ?_
                  exact w205 _ _ _ _ _ _ hw (lv_sub hl [1, 2, 3] rfl) h
            · refine lv_aload_n hx hb dX12_expression_51 rfl (lv_at hl 1 rfl) ?_
              refine lv_iload_n hx hb dX12_expression_52 rfl (lv_at hl 0 rfl) ?_
              refine lv_bipush (v := (nI 10)) hx hb dX12_expression_53 (by decide) ?_
              refine xh_idiv hx hb h dX12_expression_55 (fun h => ?_)
              refine lv_iconst (v := (nI 3)) hx hb dX12_expression_56 (by decide) ?_
              refine x_icmp_ne (tgt := 64) hx hb h dX12_expression_57 (by decide) (fun h => ?_) (fun h => ?_)
              · refine lv_iconst (v := (nI 4)) hx hb dX12_expression_60 (by decide) ?_
                refine lv_goto (tgt := 68) hx hb dX12_expression_61 (by decide) ?_
                exact w68 _ _ _ _ _ _ _ _ hw (lv_sub hl [1, 2, 3, 0] rfl) h
              · refine lv_iload_n hx hb dX12_expression_64 rfl (lv_at hl 0 rfl) ?_
                refine lv_bipush (v := (nI 10)) hx hb dX12_expression_65 (by decide) ?_
                refine xh_idiv hx hb h dX12_expression_67 (fun h => ?_)
                exact w68 _ _ _ _ _ _ _ _ hw (lv_sub hl [1, 2, 3, 0] rfl) h
          · refine lv_aload_n hx hb dX12_expression_34 rfl (lv_at hl 0 rfl) ?_
            refine xh_cVi C hw (rest := []) h (fun _ hy => c_X12_begins hq hy) ml_RX12_179 mv_X12_begins sM_0 (x_lt hN rfl) rfl ⟨rfl, rfl, by decide, by decide⟩ rfl hl.1 rfl (Nat.le_of_ble_eq_true rfl) dX12_expression_35 (fun H locs r35 M hw h => ?_)
            refine lv_istore_n (lv' := [(1, .int _), (0, .ref (q 0)), (2, .int _)]) hx hb dX12_expression_38 rfl hl (by decide) rfl (fun ls hl => ?_)
            refine lv_goto (tgt := 19) hx hb dX12_expression_39 (by decide) ?_
            exact ih19 _ _ _ _ _ _ hw (lv_sub hl [1, 0, 2] rfl) h
        · exact w208 _ _ _ _ hw (lv_sub hl [0] rfl) h
  unfold f_X12_expression at h
  refine lv_aload_n hx hb dX12_expression_0 rfl (lv_at hl 0 rfl) ?_
  refine lv_iconst (v := (nI 0)) hx hb dX12_expression_1 (by decide) ?_
  refine xh_puti C hw 0 16 h sM_0 (x_lt hN rfl) rfl rfl rfl lk_RX12_151 rfl rfl dX12_expression_2 (fun H locs M hw h => ?_)
  refine lv_aload_n hx hb dX12_expression_5 rfl (lv_at hl 0 rfl) ?_
  refine lv_iconst (v := (nI 0)) hx hb dX12_expression_6 (by decide) ?_
  refine xh_puti C hw 0 17 h sM_0 (x_lt hN rfl) rfl rfl rfl lk_RX12_164 rfl rfl dX12_expression_7 (fun H locs M hw h => ?_)
  refine lv_aload_n hx hb dX12_expression_10 rfl (lv_at hl 0 rfl) ?_
  refine lv_iconst (v := (nI 0)) hx hb dX12_expression_11 (by decide) ?_
  refine xh_puti C hw 0 18 h sM_0 (x_lt hN rfl) rfl rfl rfl lk_RX12_158 rfl rfl dX12_expression_12 (fun H locs M hw h => ?_)
  refine lv_iconst (v := (nI 1)) hx hb dX12_expression_15 (by decide) ?_
  refine lv_istore_n (lv' := [(1, .int _), (0, .ref (q 0))]) hx hb dX12_expression_16 rfl hl (by decide) rfl (fun ls hl => ?_)
  refine lv_iconst (v := (nI 1)) hx hb dX12_expression_17 (by decide) ?_
  refine lv_istore_n (lv' := [(2, .int _), (1, .int _), (0, .ref (q 0))]) hx hb dX12_expression_18 rfl hl (by decide) rfl (fun ls hl => ?_)
  exact w19 _ _ _ _ _ _ _ hw (lv_sub hl [2, 1, 0] rfl) h
def f_X12_reads_26 (M : x_M) (v1 : Int32) : Option (Unit × x_M) := x_bn (f_X12_next M) (fun _ M => x_bn (f_X12_expression M) (fun _ M => x_gf M 0 12 (fun r44 => x_wr 1060 M 4 ((nI 265) * v1) r44 (fun M => some ((), M)))))
def f_X12_reads (M : x_M) (a1 : Int32) (a2 : Int32) : Option (Unit × x_M) := x_gf M 0 10 (fun r1 => if r1 = 0 then x_pf M 0 11 a1 (fun M => x_pf M 0 12 (nI 0) (fun M => if a2 = 0 then x_bn (f_X12_wrong M) (fun _ M => f_X12_reads_26 M a1) else f_X12_reads_26 M a1)) else some ((), M))
abbrev rm_X12_reads : Room := { frames := 5, cells := 0, slots := 0, locals := 109 }
set_option maxHeartbeats 4000000 in
set_option maxRecDepth 100000 in
theorem c_X12_reads {l : Launch} {D : va_G} {cy : Nat → ClassId} {q ad : Nat → Nat} {s0 : State} (hq : x_Q q 24 s0.heap.size) {M : x_M} {a1 : Int32} {a2 : Int32} {z : Unit × x_M} (h : f_X12_reads M a1 a2 = some z) : x_Cv l D cy q ad x_spM 24 s0 yX12_reads (x_uw yX12_reads cX12_reads 3 none) rm_X12_reads [.ref (q 0), .int a1, .int a2] M z.2 := by
  have hN : 24 ≤ 24 := Nat.le_refl _
  refine x_metv hq (by decide) (Nat.le_of_ble_eq_true rfl) ?_
  intro p e s m args below meth c ls Q C hret hl hw
  have hx := C.1.1
  have hb := C.1.2.1
  have ho := C.1.2.2.2.1
  have hL := C.1.2.2.2.2
  have hl : lv_has ls 3 [(0, .ref (q 0)), (1, .int a1), (2, .int a2)] := hl
  have w26 : ∀ (M : x_M) (v1 : Int32) (H : Heap) (locs : List Loc) (ls : Array Slot), x_B D cy q ad x_spM 24 s H locs M → lv_has ls 3 [(0, .ref (q 0)), (1, .int v1)] → f_X12_reads_26 M v1 = some z → W p l e rm_X12_reads s m args below meth c H locs 0 0 Q (F0 m 26 ls []) := by
    intro M v1 H locs ls hw hl h
    unfold f_X12_reads_26 at h
    refine lv_aload_n hx hb dX12_reads_26 rfl (lv_at hl 0 rfl) ?_
    refine xh_cVv C hw (rest := []) h (fun _ hy => c_X12_next hq hy) ml_RX12_167 mv_X12_next sM_0 (x_lt hN rfl) rfl ⟨rfl, rfl, by decide, by decide⟩ rfl hl.1 rfl (Nat.le_of_ble_eq_true rfl) dX12_reads_27 (fun H locs _ M hw h => ?_)
    refine lv_aload_n hx hb dX12_reads_30 rfl (lv_at hl 0 rfl) ?_
    refine xh_cVv C hw (rest := []) h (fun _ hy => c_X12_expression hq hy) ml_RX12_191 mv_X12_expression sM_0 (x_lt hN rfl) rfl ⟨rfl, rfl, by decide, by decide⟩ rfl hl.1 rfl (Nat.le_of_ble_eq_true rfl) dX12_reads_31 (fun H locs _ M hw h => ?_)
    refine lv_aload_n hx hb dX12_reads_34 rfl (lv_at hl 0 rfl) ?_
    refine xh_getr C hw 0 14 sM_0 (x_lt hN rfl) rfl rfl rfl lk_RX12_19 dX12_reads_35 ?_
    refine lv_sipush (v := (nI 265)) hx hb dX12_reads_38 (by decide) ?_
    refine lv_iload_n hx hb dX12_reads_41 rfl (lv_at hl 1 rfl) ?_
    refine lv_imul hx hb dX12_reads_42 ?_
    refine lv_aload_n hx hb dX12_reads_43 rfl (lv_at hl 0 rfl) ?_
    refine xh_geti C hw 0 12 h sM_0 (x_lt hN rfl) rfl rfl rfl lk_RX12_148 dX12_reads_44 (fun r44 h => ?_)
    refine xh_iast C hw 4 1060 h sM_4 (x_lt hN rfl) dX12_reads_47 (fun H locs M hw h => ?_)
    exact hret dX12_reads_48 hw h
  unfold f_X12_reads at h
  refine lv_aload_n hx hb dX12_reads_0 rfl (lv_at hl 0 rfl) ?_
  refine xh_geti C hw 0 10 h sM_0 (x_lt hN rfl) rfl rfl rfl lk_RX12_116 dX12_reads_1 (fun r1 h => ?_)
  refine x_if_eq (tgt := 8) hx hb h dX12_reads_4 (by decide) (fun h => ?_) (fun h => ?_)
  · refine lv_aload_n hx hb dX12_reads_8 rfl (lv_at hl 0 rfl) ?_
    refine lv_iload_n hx hb dX12_reads_9 rfl (lv_at hl 1 rfl) ?_
    refine xh_puti C hw 0 11 h sM_0 (x_lt hN rfl) rfl rfl rfl lk_RX12_145 rfl rfl dX12_reads_10 (fun H locs M hw h => ?_)
    refine lv_aload_n hx hb dX12_reads_13 rfl (lv_at hl 0 rfl) ?_
    refine lv_iconst (v := (nI 0)) hx hb dX12_reads_14 (by decide) ?_
    refine xh_puti C hw 0 12 h sM_0 (x_lt hN rfl) rfl rfl rfl lk_RX12_148 rfl rfl dX12_reads_15 (fun H locs M hw h => ?_)
    refine lv_iload_n hx hb dX12_reads_18 rfl (lv_at hl 2 rfl) ?_
    refine x_if_ne (tgt := 26) hx hb h dX12_reads_19 (by decide) (fun h => ?_) (fun h => ?_)
    · refine lv_aload_n hx hb dX12_reads_22 rfl (lv_at hl 0 rfl) ?_
      refine xh_cVv C hw (rest := []) h (fun _ hy => c_X12_wrong hq hy) ml_RX12_138 mv_X12_wrong sM_0 (x_lt hN rfl) rfl ⟨rfl, rfl, by decide, by decide⟩ rfl hl.1 rfl (Nat.le_of_ble_eq_true rfl) dX12_reads_23 (fun H locs _ M hw h => ?_)
      exact w26 _ _ _ _ _ hw (lv_sub hl [0, 1] rfl) h
    · exact w26 _ _ _ _ _ hw (lv_sub hl [0, 1] rfl) h
  · exact hret dX12_reads_7 hw h
