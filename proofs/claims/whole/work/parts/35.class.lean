def f_X6_become_18_51 (M : x_M) : Option (Unit × x_M) := x_bn (f_X0_overwrite_19_52 M) (fun _ M => x_bn (f_X0_overwrite_20_53 M) (fun _ M => x_bn (f_X0_overwrite_21_54 M) (fun _ M => x_bn (f_X0_overwrite_22_55 M) (fun _ M => x_bn (f_X0_overwrite_23_56 M) (fun _ M => x_bn (f_X0_overwrite_24_57 M) (fun _ M => x_bn (f_X0_overwrite_25_58 M) (fun _ M => x_bn (f_X0_overwrite_26_59 M) (fun _ M => x_gf M 51 8 (fun r90 => x_pf M 18 8 r90 (fun M => x_gf M 51 9 (fun r98 => x_pf M 18 9 r98 (fun M => some ((), M)))))))))))))
abbrev rm_X6_become_18_51 : Room := { frames := 2, cells := 0, slots := 0, locals := 221 }
set_option maxHeartbeats 4000000 in
set_option maxRecDepth 100000 in
theorem c_X6_become_18_51 {l : Launch} {D : va_G} {cy : Nat → ClassId} {q ad : Nat → Nat} {NC : Nat} {s0 : State} (hq : x_Q q NC s0.heap.size) (hN : 88 ≤ NC) {M : x_M} {z : Unit × x_M} (h : f_X6_become_18_51 M = some z) : x_Cv l D cy q ad x_spX NC s0 yX6_become (x_uw yX6_become cX6_become 2 none) rm_X6_become_18_51 [.ref (q 18), .ref (q 51)] M z.2 := by
  refine x_metv hq (by decide) (Nat.le_of_ble_eq_true rfl) ?_
  intro p e s m args below meth c ls Q C hret hl hw
  have hx := C.1.1
  have hb := C.1.2.1
  have ho := C.1.2.2.2.1
  have hL := C.1.2.2.2.2
  have hl : lv_has ls 2 [(0, .ref (q 18)), (1, .ref (q 51))] := hl
  unfold f_X6_become_18_51 at h
  refine lv_aload_n hx hb dX6_become_0 rfl (lv_at hl 0 rfl) ?_
  refine xh_getr C hw 18 0 sX_18 (x_lt hN rfl) rfl rfl rfl lk_RX6_9 dX6_become_1 ?_
  refine lv_aload_n hx hb dX6_become_4 rfl (lv_at hl 1 rfl) ?_
  refine xh_getr C hw 51 0 sX_51 (x_lt hN rfl) rfl rfl rfl lk_RX6_9 dX6_become_5 ?_
  refine xh_cSv C hw (rest := []) h (fun _ hy => c_X0_overwrite_19_52 hq hN hy) ml_RX6_45 st_X0_overwrite ⟨rfl, rfl, by decide, by decide⟩ rfl hl.1 rfl (Nat.le_of_ble_eq_true rfl) dX6_become_8 (fun H locs _ M hw h => ?_)
  refine lv_aload_n hx hb dX6_become_11 rfl (lv_at hl 0 rfl) ?_
  refine xh_getr C hw 18 1 sX_18 (x_lt hN rfl) rfl rfl rfl lk_RX6_15 dX6_become_12 ?_
  refine lv_aload_n hx hb dX6_become_15 rfl (lv_at hl 1 rfl) ?_
  refine xh_getr C hw 51 1 sX_51 (x_lt hN rfl) rfl rfl rfl lk_RX6_15 dX6_become_16 ?_
  refine xh_cSv C hw (rest := []) h (fun _ hy => c_X0_overwrite_20_53 hq hN hy) ml_RX6_45 st_X0_overwrite ⟨rfl, rfl, by decide, by decide⟩ rfl hl.1 rfl (Nat.le_of_ble_eq_true rfl) dX6_become_19 (fun H locs _ M hw h => ?_)
  refine lv_aload_n hx hb dX6_become_22 rfl (lv_at hl 0 rfl) ?_
  refine xh_getr C hw 18 2 sX_18 (x_lt hN rfl) rfl rfl rfl lk_RX6_18 dX6_become_23 ?_
  refine lv_aload_n hx hb dX6_become_26 rfl (lv_at hl 1 rfl) ?_
  refine xh_getr C hw 51 2 sX_51 (x_lt hN rfl) rfl rfl rfl lk_RX6_18 dX6_become_27 ?_
  refine xh_cSv C hw (rest := []) h (fun _ hy => c_X0_overwrite_21_54 hq hN hy) ml_RX6_45 st_X0_overwrite ⟨rfl, rfl, by decide, by decide⟩ rfl hl.1 rfl (Nat.le_of_ble_eq_true rfl) dX6_become_30 (fun H locs _ M hw h => ?_)
  refine lv_aload_n hx hb dX6_become_33 rfl (lv_at hl 0 rfl) ?_
  refine xh_getr C hw 18 3 sX_18 (x_lt hN rfl) rfl rfl rfl lk_RX6_21 dX6_become_34 ?_
  refine lv_aload_n hx hb dX6_become_37 rfl (lv_at hl 1 rfl) ?_
  refine xh_getr C hw 51 3 sX_51 (x_lt hN rfl) rfl rfl rfl lk_RX6_21 dX6_become_38 ?_
  refine xh_cSv C hw (rest := []) h (fun _ hy => c_X0_overwrite_22_55 hq hN hy) ml_RX6_45 st_X0_overwrite ⟨rfl, rfl, by decide, by decide⟩ rfl hl.1 rfl (Nat.le_of_ble_eq_true rfl) dX6_become_41 (fun H locs _ M hw h => ?_)
  refine lv_aload_n hx hb dX6_become_44 rfl (lv_at hl 0 rfl) ?_
  refine xh_getr C hw 18 4 sX_18 (x_lt hN rfl) rfl rfl rfl lk_RX6_24 dX6_become_45 ?_
  refine lv_aload_n hx hb dX6_become_48 rfl (lv_at hl 1 rfl) ?_
  refine xh_getr C hw 51 4 sX_51 (x_lt hN rfl) rfl rfl rfl lk_RX6_24 dX6_become_49 ?_
  refine xh_cSv C hw (rest := []) h (fun _ hy => c_X0_overwrite_23_56 hq hN hy) ml_RX6_45 st_X0_overwrite ⟨rfl, rfl, by decide, by decide⟩ rfl hl.1 rfl (Nat.le_of_ble_eq_true rfl) dX6_become_52 (fun H locs _ M hw h => ?_)
  refine lv_aload_n hx hb dX6_become_55 rfl (lv_at hl 0 rfl) ?_
  refine xh_getr C hw 18 5 sX_18 (x_lt hN rfl) rfl rfl rfl lk_RX6_27 dX6_become_56 ?_
  refine lv_aload_n hx hb dX6_become_59 rfl (lv_at hl 1 rfl) ?_
  refine xh_getr C hw 51 5 sX_51 (x_lt hN rfl) rfl rfl rfl lk_RX6_27 dX6_become_60 ?_
  refine xh_cSv C hw (rest := []) h (fun _ hy => c_X0_overwrite_24_57 hq hN hy) ml_RX6_45 st_X0_overwrite ⟨rfl, rfl, by decide, by decide⟩ rfl hl.1 rfl (Nat.le_of_ble_eq_true rfl) dX6_become_63 (fun H locs _ M hw h => ?_)
  refine lv_aload_n hx hb dX6_become_66 rfl (lv_at hl 0 rfl) ?_
  refine xh_getr C hw 18 6 sX_18 (x_lt hN rfl) rfl rfl rfl lk_RX6_30 dX6_become_67 ?_
  refine lv_aload_n hx hb dX6_become_70 rfl (lv_at hl 1 rfl) ?_
  refine xh_getr C hw 51 6 sX_51 (x_lt hN rfl) rfl rfl rfl lk_RX6_30 dX6_become_71 ?_
  refine xh_cSv C hw (rest := []) h (fun _ hy => c_X0_overwrite_25_58 hq hN hy) ml_RX6_45 st_X0_overwrite ⟨rfl, rfl, by decide, by decide⟩ rfl hl.1 rfl (Nat.le_of_ble_eq_true rfl) dX6_become_74 (fun H locs _ M hw h => ?_)
  refine lv_aload_n hx hb dX6_become_77 rfl (lv_at hl 0 rfl) ?_
  refine xh_getr C hw 18 7 sX_18 (x_lt hN rfl) rfl rfl rfl lk_RX6_33 dX6_become_78 ?_
  refine lv_aload_n hx hb dX6_become_81 rfl (lv_at hl 1 rfl) ?_
  refine xh_getr C hw 51 7 sX_51 (x_lt hN rfl) rfl rfl rfl lk_RX6_33 dX6_become_82 ?_
  refine xh_cSv C hw (rest := []) h (fun _ hy => c_X0_overwrite_26_59 hq hN hy) ml_RX6_45 st_X0_overwrite ⟨rfl, rfl, by decide, by decide⟩ rfl hl.1 rfl (Nat.le_of_ble_eq_true rfl) dX6_become_85 (fun H locs _ M hw h => ?_)
  refine lv_aload_n hx hb dX6_become_88 rfl (lv_at hl 0 rfl) ?_
  refine lv_aload_n hx hb dX6_become_89 rfl (lv_at hl 1 rfl) ?_
  refine xh_geti C hw 51 8 h sX_51 (x_lt hN rfl) rfl rfl rfl lk_RX6_36 dX6_become_90 (fun r90 h => ?_)
  refine xh_puti C hw 18 8 h sX_18 (x_lt hN rfl) rfl rfl rfl lk_RX6_36 rfl rfl dX6_become_93 (fun H locs M hw h => ?_)
  refine lv_aload_n hx hb dX6_become_96 rfl (lv_at hl 0 rfl) ?_
  refine lv_aload_n hx hb dX6_become_97 rfl (lv_at hl 1 rfl) ?_
  refine xh_geti C hw 51 9 h sX_51 (x_lt hN rfl) rfl rfl rfl lk_RX6_41 dX6_become_98 (fun r98 h => ?_)
  refine xh_puti C hw 18 9 h sX_18 (x_lt hN rfl) rfl rfl rfl lk_RX6_41 rfl rfl dX6_become_101 (fun H locs M hw h => ?_)
  exact hret dX6_become_104 hw h
def f_X0_overwrite_28_61 (M : x_M) : Option (Unit × x_M) := x_ac 8 8 M 61 (nI 0) 28 (nI 0) (if (nI 8) < (nI 8) then (nI 8) else (nI 8)) (fun M => some ((), M))
abbrev rm_X0_overwrite_28_61 : Room := { frames := 1, cells := 0, slots := 0, locals := 200 }
set_option maxHeartbeats 4000000 in
set_option maxRecDepth 100000 in
theorem c_X0_overwrite_28_61 {l : Launch} {D : va_G} {cy : Nat → ClassId} {q ad : Nat → Nat} {NC : Nat} {s0 : State} (hq : x_Q q NC s0.heap.size) (hN : 88 ≤ NC) {M : x_M} {z : Unit × x_M} (h : f_X0_overwrite_28_61 M = some z) : x_Cv l D cy q ad x_spX NC s0 yX0_overwrite (x_uw yX0_overwrite cX0_overwrite 2 none) rm_X0_overwrite_28_61 [.ref (q 28), .ref (q 61)] M z.2 := by
  refine x_metv hq (by decide) (Nat.le_of_ble_eq_true rfl) ?_
  intro p e s m args below meth c ls Q C hret hl hw
  have hx := C.1.1
  have hb := C.1.2.1
  have ho := C.1.2.2.2.1
  have hL := C.1.2.2.2.2
  have hl : lv_has ls 2 [(0, .ref (q 28)), (1, .ref (q 61))] := hl
  unfold f_X0_overwrite_28_61 at h
  refine lv_aload_n hx hb dX0_overwrite_0 rfl (lv_at hl 1 rfl) ?_
  refine lv_iconst (v := (nI 0)) hx hb dX0_overwrite_1 (by decide) ?_
  refine lv_aload_n hx hb dX0_overwrite_2 rfl (lv_at hl 0 rfl) ?_
  refine lv_iconst (v := (nI 0)) hx hb dX0_overwrite_3 (by decide) ?_
  refine lv_aload_n hx hb dX0_overwrite_4 rfl (lv_at hl 1 rfl) ?_
  refine va_alen hx hb C.2.1.1 hw.1 61 0 (by rw [x_w_get (x_lt hN rfl), sX_61]; rfl) rfl (v := nI 8) rfl dX0_overwrite_5 ?_
  refine lv_aload_n hx hb dX0_overwrite_6 rfl (lv_at hl 0 rfl) ?_
  refine va_alen hx hb C.2.1.1 hw.1 28 0 (by rw [x_w_get (x_lt hN rfl), sX_28]; rfl) rfl (v := nI 8) rfl dX0_overwrite_7 ?_
  refine xh_min C (rest := [_, _, _, _]) mw_RX0_82 hl.1 ⟨by decide, Nat.le_of_ble_eq_true rfl⟩ dX0_overwrite_8 ?_
  refine xh_copy C hw (rest := []) 61 28 8 8 h sX_61 sX_28 (x_lt hN rfl) (x_lt hN rfl) ac_RX0_88 hl.1 ⟨by decide, Nat.le_of_ble_eq_true rfl⟩ dX0_overwrite_11 (fun H locs M hw h => ?_)
  exact hret dX0_overwrite_14 hw h
def f_X0_overwrite_29_62 (M : x_M) : Option (Unit × x_M) := x_ac 8 8 M 62 (nI 0) 29 (nI 0) (if (nI 8) < (nI 8) then (nI 8) else (nI 8)) (fun M => some ((), M))
abbrev rm_X0_overwrite_29_62 : Room := { frames := 1, cells := 0, slots := 0, locals := 200 }
set_option maxHeartbeats 4000000 in
set_option maxRecDepth 100000 in
theorem c_X0_overwrite_29_62 {l : Launch} {D : va_G} {cy : Nat → ClassId} {q ad : Nat → Nat} {NC : Nat} {s0 : State} (hq : x_Q q NC s0.heap.size) (hN : 88 ≤ NC) {M : x_M} {z : Unit × x_M} (h : f_X0_overwrite_29_62 M = some z) : x_Cv l D cy q ad x_spX NC s0 yX0_overwrite (x_uw yX0_overwrite cX0_overwrite 2 none) rm_X0_overwrite_29_62 [.ref (q 29), .ref (q 62)] M z.2 := by
  refine x_metv hq (by decide) (Nat.le_of_ble_eq_true rfl) ?_
  intro p e s m args below meth c ls Q C hret hl hw
  have hx := C.1.1
  have hb := C.1.2.1
  have ho := C.1.2.2.2.1
  have hL := C.1.2.2.2.2
  have hl : lv_has ls 2 [(0, .ref (q 29)), (1, .ref (q 62))] := hl
  unfold f_X0_overwrite_29_62 at h
  refine lv_aload_n hx hb dX0_overwrite_0 rfl (lv_at hl 1 rfl) ?_
  refine lv_iconst (v := (nI 0)) hx hb dX0_overwrite_1 (by decide) ?_
  refine lv_aload_n hx hb dX0_overwrite_2 rfl (lv_at hl 0 rfl) ?_
  refine lv_iconst (v := (nI 0)) hx hb dX0_overwrite_3 (by decide) ?_
  refine lv_aload_n hx hb dX0_overwrite_4 rfl (lv_at hl 1 rfl) ?_
  refine va_alen hx hb C.2.1.1 hw.1 62 0 (by rw [x_w_get (x_lt hN rfl), sX_62]; rfl) rfl (v := nI 8) rfl dX0_overwrite_5 ?_
  refine lv_aload_n hx hb dX0_overwrite_6 rfl (lv_at hl 0 rfl) ?_
  refine va_alen hx hb C.2.1.1 hw.1 29 0 (by rw [x_w_get (x_lt hN rfl), sX_29]; rfl) rfl (v := nI 8) rfl dX0_overwrite_7 ?_
  refine xh_min C (rest := [_, _, _, _]) mw_RX0_82 hl.1 ⟨by decide, Nat.le_of_ble_eq_true rfl⟩ dX0_overwrite_8 ?_
  refine xh_copy C hw (rest := []) 62 29 8 8 h sX_62 sX_29 (x_lt hN rfl) (x_lt hN rfl) ac_RX0_88 hl.1 ⟨by decide, Nat.le_of_ble_eq_true rfl⟩ dX0_overwrite_11 (fun H locs M hw h => ?_)
  exact hret dX0_overwrite_14 hw h
def f_X0_overwrite_30_63 (M : x_M) : Option (Unit × x_M) := x_ac 8 8 M 63 (nI 0) 30 (nI 0) (if (nI 8) < (nI 8) then (nI 8) else (nI 8)) (fun M => some ((), M))
abbrev rm_X0_overwrite_30_63 : Room := { frames := 1, cells := 0, slots := 0, locals := 200 }
set_option maxHeartbeats 4000000 in
set_option maxRecDepth 100000 in
theorem c_X0_overwrite_30_63 {l : Launch} {D : va_G} {cy : Nat → ClassId} {q ad : Nat → Nat} {NC : Nat} {s0 : State} (hq : x_Q q NC s0.heap.size) (hN : 88 ≤ NC) {M : x_M} {z : Unit × x_M} (h : f_X0_overwrite_30_63 M = some z) : x_Cv l D cy q ad x_spX NC s0 yX0_overwrite (x_uw yX0_overwrite cX0_overwrite 2 none) rm_X0_overwrite_30_63 [.ref (q 30), .ref (q 63)] M z.2 := by
  refine x_metv hq (by decide) (Nat.le_of_ble_eq_true rfl) ?_
  intro p e s m args below meth c ls Q C hret hl hw
  have hx := C.1.1
  have hb := C.1.2.1
  have ho := C.1.2.2.2.1
  have hL := C.1.2.2.2.2
  have hl : lv_has ls 2 [(0, .ref (q 30)), (1, .ref (q 63))] := hl
  unfold f_X0_overwrite_30_63 at h
  refine lv_aload_n hx hb dX0_overwrite_0 rfl (lv_at hl 1 rfl) ?_
  refine lv_iconst (v := (nI 0)) hx hb dX0_overwrite_1 (by decide) ?_
  refine lv_aload_n hx hb dX0_overwrite_2 rfl (lv_at hl 0 rfl) ?_
  refine lv_iconst (v := (nI 0)) hx hb dX0_overwrite_3 (by decide) ?_
  refine lv_aload_n hx hb dX0_overwrite_4 rfl (lv_at hl 1 rfl) ?_
  refine va_alen hx hb C.2.1.1 hw.1 63 0 (by rw [x_w_get (x_lt hN rfl), sX_63]; rfl) rfl (v := nI 8) rfl dX0_overwrite_5 ?_
  refine lv_aload_n hx hb dX0_overwrite_6 rfl (lv_at hl 0 rfl) ?_
  refine va_alen hx hb C.2.1.1 hw.1 30 0 (by rw [x_w_get (x_lt hN rfl), sX_30]; rfl) rfl (v := nI 8) rfl dX0_overwrite_7 ?_
  refine xh_min C (rest := [_, _, _, _]) mw_RX0_82 hl.1 ⟨by decide, Nat.le_of_ble_eq_true rfl⟩ dX0_overwrite_8 ?_
  refine xh_copy C hw (rest := []) 63 30 8 8 h sX_63 sX_30 (x_lt hN rfl) (x_lt hN rfl) ac_RX0_88 hl.1 ⟨by decide, Nat.le_of_ble_eq_true rfl⟩ dX0_overwrite_11 (fun H locs M hw h => ?_)
  exact hret dX0_overwrite_14 hw h
def f_X5_become_27_60 (M : x_M) : Option (Unit × x_M) := x_bn (f_X0_overwrite_28_61 M) (fun _ M => x_bn (f_X0_overwrite_29_62 M) (fun _ M => x_bn (f_X0_overwrite_30_63 M) (fun _ M => x_gf M 60 3 (fun r35 => x_pf M 27 3 r35 (fun M => some ((), M))))))
abbrev rm_X5_become_27_60 : Room := { frames := 2, cells := 0, slots := 0, locals := 221 }
set_option maxHeartbeats 4000000 in
set_option maxRecDepth 100000 in
theorem c_X5_become_27_60 {l : Launch} {D : va_G} {cy : Nat → ClassId} {q ad : Nat → Nat} {NC : Nat} {s0 : State} (hq : x_Q q NC s0.heap.size) (hN : 88 ≤ NC) {M : x_M} {z : Unit × x_M} (h : f_X5_become_27_60 M = some z) : x_Cv l D cy q ad x_spX NC s0 yX5_become (x_uw yX5_become cX5_become 2 none) rm_X5_become_27_60 [.ref (q 27), .ref (q 60)] M z.2 := by
  refine x_metv hq (by decide) (Nat.le_of_ble_eq_true rfl) ?_
  intro p e s m args below meth c ls Q C hret hl hw
  have hx := C.1.1
  have hb := C.1.2.1
  have ho := C.1.2.2.2.1
  have hL := C.1.2.2.2.2
  have hl : lv_has ls 2 [(0, .ref (q 27)), (1, .ref (q 60))] := hl
  unfold f_X5_become_27_60 at h
  refine lv_aload_n hx hb dX5_become_0 rfl (lv_at hl 0 rfl) ?_
  refine xh_getr C hw 27 0 sX_27 (x_lt hN rfl) rfl rfl rfl lk_RX5_9 dX5_become_1 ?_
  refine lv_aload_n hx hb dX5_become_4 rfl (lv_at hl 1 rfl) ?_
  refine xh_getr C hw 60 0 sX_60 (x_lt hN rfl) rfl rfl rfl lk_RX5_9 dX5_become_5 ?_
  refine xh_cSv C hw (rest := []) h (fun _ hy => c_X0_overwrite_28_61 hq hN hy) ml_RX5_26 st_X0_overwrite ⟨rfl, rfl, by decide, by decide⟩ rfl hl.1 rfl (Nat.le_of_ble_eq_true rfl) dX5_become_8 (fun H locs _ M hw h => ?_)
  refine lv_aload_n hx hb dX5_become_11 rfl (lv_at hl 0 rfl) ?_
  refine xh_getr C hw 27 1 sX_27 (x_lt hN rfl) rfl rfl rfl lk_RX5_15 dX5_become_12 ?_
  refine lv_aload_n hx hb dX5_become_15 rfl (lv_at hl 1 rfl) ?_
  refine xh_getr C hw 60 1 sX_60 (x_lt hN rfl) rfl rfl rfl lk_RX5_15 dX5_become_16 ?_
  refine xh_cSv C hw (rest := []) h (fun _ hy => c_X0_overwrite_29_62 hq hN hy) ml_RX5_26 st_X0_overwrite ⟨rfl, rfl, by decide, by decide⟩ rfl hl.1 rfl (Nat.le_of_ble_eq_true rfl) dX5_become_19 (fun H locs _ M hw h => ?_)
  refine lv_aload_n hx hb dX5_become_22 rfl (lv_at hl 0 rfl) ?_
  refine xh_getr C hw 27 2 sX_27 (x_lt hN rfl) rfl rfl rfl lk_RX5_18 dX5_become_23 ?_
  refine lv_aload_n hx hb dX5_become_26 rfl (lv_at hl 1 rfl) ?_
  refine xh_getr C hw 60 2 sX_60 (x_lt hN rfl) rfl rfl rfl lk_RX5_18 dX5_become_27 ?_
  refine xh_cSv C hw (rest := []) h (fun _ hy => c_X0_overwrite_30_63 hq hN hy) ml_RX5_26 st_X0_overwrite ⟨rfl, rfl, by decide, by decide⟩ rfl hl.1 rfl (Nat.le_of_ble_eq_true rfl) dX5_become_30 (fun H locs _ M hw h => ?_)
  refine lv_aload_n hx hb dX5_become_33 rfl (lv_at hl 0 rfl) ?_
  refine lv_aload_n hx hb dX5_become_34 rfl (lv_at hl 1 rfl) ?_
  refine xh_geti C hw 60 3 h sX_60 (x_lt hN rfl) rfl rfl rfl lk_RX5_21 dX5_become_35 (fun r35 h => ?_)
  refine xh_puti C hw 27 3 h sX_27 (x_lt hN rfl) rfl rfl rfl lk_RX5_21 rfl rfl dX5_become_38 (fun H locs M hw h => ?_)
  exact hret dX5_become_41 hw h
def f_X0_overwrite_31_64 (M : x_M) : Option (Unit × x_M) := x_ac 3 3 M 64 (nI 0) 31 (nI 0) (if (nI 3) < (nI 3) then (nI 3) else (nI 3)) (fun M => some ((), M))
abbrev rm_X0_overwrite_31_64 : Room := { frames := 1, cells := 0, slots := 0, locals := 200 }
set_option maxHeartbeats 4000000 in
set_option maxRecDepth 100000 in
theorem c_X0_overwrite_31_64 {l : Launch} {D : va_G} {cy : Nat → ClassId} {q ad : Nat → Nat} {NC : Nat} {s0 : State} (hq : x_Q q NC s0.heap.size) (hN : 88 ≤ NC) {M : x_M} {z : Unit × x_M} (h : f_X0_overwrite_31_64 M = some z) : x_Cv l D cy q ad x_spX NC s0 yX0_overwrite (x_uw yX0_overwrite cX0_overwrite 2 none) rm_X0_overwrite_31_64 [.ref (q 31), .ref (q 64)] M z.2 := by
  refine x_metv hq (by decide) (Nat.le_of_ble_eq_true rfl) ?_
  intro p e s m args below meth c ls Q C hret hl hw
  have hx := C.1.1
  have hb := C.1.2.1
  have ho := C.1.2.2.2.1
  have hL := C.1.2.2.2.2
  have hl : lv_has ls 2 [(0, .ref (q 31)), (1, .ref (q 64))] := hl
  unfold f_X0_overwrite_31_64 at h
  refine lv_aload_n hx hb dX0_overwrite_0 rfl (lv_at hl 1 rfl) ?_
  refine lv_iconst (v := (nI 0)) hx hb dX0_overwrite_1 (by decide) ?_
  refine lv_aload_n hx hb dX0_overwrite_2 rfl (lv_at hl 0 rfl) ?_
  refine lv_iconst (v := (nI 0)) hx hb dX0_overwrite_3 (by decide) ?_
  refine lv_aload_n hx hb dX0_overwrite_4 rfl (lv_at hl 1 rfl) ?_
  refine va_alen hx hb C.2.1.1 hw.1 64 0 (by rw [x_w_get (x_lt hN rfl), sX_64]; rfl) rfl (v := nI 3) rfl dX0_overwrite_5 ?_
  refine lv_aload_n hx hb dX0_overwrite_6 rfl (lv_at hl 0 rfl) ?_
  refine va_alen hx hb C.2.1.1 hw.1 31 0 (by rw [x_w_get (x_lt hN rfl), sX_31]; rfl) rfl (v := nI 3) rfl dX0_overwrite_7 ?_
  refine xh_min C (rest := [_, _, _, _]) mw_RX0_82 hl.1 ⟨by decide, Nat.le_of_ble_eq_true rfl⟩ dX0_overwrite_8 ?_
  refine xh_copy C hw (rest := []) 64 31 3 3 h sX_64 sX_31 (x_lt hN rfl) (x_lt hN rfl) ac_RX0_88 hl.1 ⟨by decide, Nat.le_of_ble_eq_true rfl⟩ dX0_overwrite_11 (fun H locs M hw h => ?_)
  exact hret dX0_overwrite_14 hw h
def f_X0_overwrite_32_65 (M : x_M) : Option (Unit × x_M) := x_ac 4 4 M 65 (nI 0) 32 (nI 0) (if (nI 4) < (nI 4) then (nI 4) else (nI 4)) (fun M => some ((), M))
abbrev rm_X0_overwrite_32_65 : Room := { frames := 1, cells := 0, slots := 0, locals := 200 }
set_option maxHeartbeats 4000000 in
set_option maxRecDepth 100000 in
theorem c_X0_overwrite_32_65 {l : Launch} {D : va_G} {cy : Nat → ClassId} {q ad : Nat → Nat} {NC : Nat} {s0 : State} (hq : x_Q q NC s0.heap.size) (hN : 88 ≤ NC) {M : x_M} {z : Unit × x_M} (h : f_X0_overwrite_32_65 M = some z) : x_Cv l D cy q ad x_spX NC s0 yX0_overwrite (x_uw yX0_overwrite cX0_overwrite 2 none) rm_X0_overwrite_32_65 [.ref (q 32), .ref (q 65)] M z.2 := by
  refine x_metv hq (by decide) (Nat.le_of_ble_eq_true rfl) ?_
  intro p e s m args below meth c ls Q C hret hl hw
  have hx := C.1.1
  have hb := C.1.2.1
  have ho := C.1.2.2.2.1
  have hL := C.1.2.2.2.2
  have hl : lv_has ls 2 [(0, .ref (q 32)), (1, .ref (q 65))] := hl
  unfold f_X0_overwrite_32_65 at h
  refine lv_aload_n hx hb dX0_overwrite_0 rfl (lv_at hl 1 rfl) ?_
  refine lv_iconst (v := (nI 0)) hx hb dX0_overwrite_1 (by decide) ?_
  refine lv_aload_n hx hb dX0_overwrite_2 rfl (lv_at hl 0 rfl) ?_
  refine lv_iconst (v := (nI 0)) hx hb dX0_overwrite_3 (by decide) ?_
  refine lv_aload_n hx hb dX0_overwrite_4 rfl (lv_at hl 1 rfl) ?_
  refine va_alen hx hb C.2.1.1 hw.1 65 0 (by rw [x_w_get (x_lt hN rfl), sX_65]; rfl) rfl (v := nI 4) rfl dX0_overwrite_5 ?_
  refine lv_aload_n hx hb dX0_overwrite_6 rfl (lv_at hl 0 rfl) ?_
  refine va_alen hx hb C.2.1.1 hw.1 32 0 (by rw [x_w_get (x_lt hN rfl), sX_32]; rfl) rfl (v := nI 4) rfl dX0_overwrite_7 ?_
  refine xh_min C (rest := [_, _, _, _]) mw_RX0_82 hl.1 ⟨by decide, Nat.le_of_ble_eq_true rfl⟩ dX0_overwrite_8 ?_
  refine xh_copy C hw (rest := []) 65 32 4 4 h sX_65 sX_32 (x_lt hN rfl) (x_lt hN rfl) ac_RX0_88 hl.1 ⟨by decide, Nat.le_of_ble_eq_true rfl⟩ dX0_overwrite_11 (fun H locs M hw h => ?_)
  exact hret dX0_overwrite_14 hw h
def f_X0_overwrite_33_66 (M : x_M) : Option (Unit × x_M) := x_ac 4 4 M 66 (nI 0) 33 (nI 0) (if (nI 4) < (nI 4) then (nI 4) else (nI 4)) (fun M => some ((), M))
abbrev rm_X0_overwrite_33_66 : Room := { frames := 1, cells := 0, slots := 0, locals := 200 }
set_option maxHeartbeats 4000000 in
set_option maxRecDepth 100000 in
theorem c_X0_overwrite_33_66 {l : Launch} {D : va_G} {cy : Nat → ClassId} {q ad : Nat → Nat} {NC : Nat} {s0 : State} (hq : x_Q q NC s0.heap.size) (hN : 88 ≤ NC) {M : x_M} {z : Unit × x_M} (h : f_X0_overwrite_33_66 M = some z) : x_Cv l D cy q ad x_spX NC s0 yX0_overwrite (x_uw yX0_overwrite cX0_overwrite 2 none) rm_X0_overwrite_33_66 [.ref (q 33), .ref (q 66)] M z.2 := by
  refine x_metv hq (by decide) (Nat.le_of_ble_eq_true rfl) ?_
  intro p e s m args below meth c ls Q C hret hl hw
  have hx := C.1.1
  have hb := C.1.2.1
  have ho := C.1.2.2.2.1
  have hL := C.1.2.2.2.2
  have hl : lv_has ls 2 [(0, .ref (q 33)), (1, .ref (q 66))] := hl
  unfold f_X0_overwrite_33_66 at h
  refine lv_aload_n hx hb dX0_overwrite_0 rfl (lv_at hl 1 rfl) ?_
  refine lv_iconst (v := (nI 0)) hx hb dX0_overwrite_1 (by decide) ?_
  refine lv_aload_n hx hb dX0_overwrite_2 rfl (lv_at hl 0 rfl) ?_
  refine lv_iconst (v := (nI 0)) hx hb dX0_overwrite_3 (by decide) ?_
  refine lv_aload_n hx hb dX0_overwrite_4 rfl (lv_at hl 1 rfl) ?_
  refine va_alen hx hb C.2.1.1 hw.1 66 0 (by rw [x_w_get (x_lt hN rfl), sX_66]; rfl) rfl (v := nI 4) rfl dX0_overwrite_5 ?_
  refine lv_aload_n hx hb dX0_overwrite_6 rfl (lv_at hl 0 rfl) ?_
  refine va_alen hx hb C.2.1.1 hw.1 33 0 (by rw [x_w_get (x_lt hN rfl), sX_33]; rfl) rfl (v := nI 4) rfl dX0_overwrite_7 ?_
  refine xh_min C (rest := [_, _, _, _]) mw_RX0_82 hl.1 ⟨by decide, Nat.le_of_ble_eq_true rfl⟩ dX0_overwrite_8 ?_
  refine xh_copy C hw (rest := []) 66 33 4 4 h sX_66 sX_33 (x_lt hN rfl) (x_lt hN rfl) ac_RX0_88 hl.1 ⟨by decide, Nat.le_of_ble_eq_true rfl⟩ dX0_overwrite_11 (fun H locs M hw h => ?_)
  exact hret dX0_overwrite_14 hw h
def f_X0_become_1_34 (NC : Nat) (M : x_M) : Option (Unit × x_M) := x_bn (f_X4_become_2_35 M) (fun _ M => x_bn (f_X3_become_6_39 M) (fun _ M => x_bn (f_X9_become_16_49 NC M) (fun _ M => x_bn (f_X6_become_18_51 M) (fun _ M => x_bn (f_X5_become_27_60 M) (fun _ M => x_bn (f_X0_overwrite_31_64 M) (fun _ M => x_bn (f_X0_overwrite_32_65 M) (fun _ M => x_bn (f_X0_overwrite_33_66 M) (fun _ M => x_gf M 34 8 (fun r90 => x_pf M 1 8 r90 (fun M => some ((), M)))))))))))
abbrev rm_X0_become_1_34 : Room := { frames := 3, cells := 0, slots := 0, locals := 242 }
set_option maxHeartbeats 4000000 in
set_option maxRecDepth 100000 in
theorem c_X0_become_1_34 {l : Launch} {D : va_G} {cy : Nat → ClassId} {q ad : Nat → Nat} {NC : Nat} {s0 : State} (hq : x_Q q NC s0.heap.size) (hN : 88 ≤ NC) {M : x_M} {z : Unit × x_M} (h : f_X0_become_1_34 NC M = some z) : x_Cv l D cy q ad x_spX NC s0 yX0_become (x_uw yX0_become cX0_become 2 none) rm_X0_become_1_34 [.ref (q 1), .ref (q 34)] M z.2 := by
  refine x_metv hq (by decide) (Nat.le_of_ble_eq_true rfl) ?_
  intro p e s m args below meth c ls Q C hret hl hw
  have hx := C.1.1
  have hb := C.1.2.1
  have ho := C.1.2.2.2.1
  have hL := C.1.2.2.2.2
  have hl : lv_has ls 2 [(0, .ref (q 1)), (1, .ref (q 34))] := hl
  unfold f_X0_become_1_34 at h
  refine lv_aload_n hx hb dX0_become_0 rfl (lv_at hl 0 rfl) ?_
  refine xh_getr C hw 1 0 sX_1 (x_lt hN rfl) rfl rfl rfl lk_RX0_10 dX0_become_1 ?_
  refine lv_aload_n hx hb dX0_become_4 rfl (lv_at hl 1 rfl) ?_
  refine xh_getr C hw 34 0 sX_34 (x_lt hN rfl) rfl rfl rfl lk_RX0_10 dX0_become_5 ?_
  refine xh_cVv C hw (rest := []) h (fun _ hy => c_X4_become_2_35 hq hN hy) ml_RX0_62 mv_X4_become sX_2 (x_lt hN rfl) rfl ⟨rfl, rfl, by decide, by decide⟩ rfl hl.1 rfl (Nat.le_of_ble_eq_true rfl) dX0_become_8 (fun H locs _ M hw h => ?_)
  refine lv_aload_n hx hb dX0_become_11 rfl (lv_at hl 0 rfl) ?_
  refine xh_getr C hw 1 1 sX_1 (x_lt hN rfl) rfl rfl rfl lk_RX0_19 dX0_become_12 ?_
  refine lv_aload_n hx hb dX0_become_15 rfl (lv_at hl 1 rfl) ?_
  refine xh_getr C hw 34 1 sX_34 (x_lt hN rfl) rfl rfl rfl lk_RX0_19 dX0_become_16 ?_
  refine xh_cVv C hw (rest := []) h (fun _ hy => c_X3_become_6_39 hq hN hy) ml_RX0_66 mv_X3_become sX_6 (x_lt hN rfl) rfl ⟨rfl, rfl, by decide, by decide⟩ rfl hl.1 rfl (Nat.le_of_ble_eq_true rfl) dX0_become_19 (fun H locs _ M hw h => ?_)
  refine lv_aload_n hx hb dX0_become_22 rfl (lv_at hl 0 rfl) ?_
  refine xh_getr C hw 1 2 sX_1 (x_lt hN rfl) rfl rfl rfl lk_RX0_26 dX0_become_23 ?_
  refine lv_aload_n hx hb dX0_become_26 rfl (lv_at hl 1 rfl) ?_
  refine xh_getr C hw 34 2 sX_34 (x_lt hN rfl) rfl rfl rfl lk_RX0_26 dX0_become_27 ?_
  refine xh_cVv C hw (rest := []) h (fun _ hy => c_X9_become_16_49 hq hN hy) ml_RX0_69 mv_X9_become sX_16 (x_lt hN rfl) rfl ⟨rfl, rfl, by decide, by decide⟩ rfl hl.1 rfl (Nat.le_of_ble_eq_true rfl) dX0_become_30 (fun H locs _ M hw h => ?_)
  refine lv_aload_n hx hb dX0_become_33 rfl (lv_at hl 0 rfl) ?_
  refine xh_getr C hw 1 3 sX_1 (x_lt hN rfl) rfl rfl rfl lk_RX0_33 dX0_become_34 ?_
  refine lv_aload_n hx hb dX0_become_37 rfl (lv_at hl 1 rfl) ?_
  refine xh_getr C hw 34 3 sX_34 (x_lt hN rfl) rfl rfl rfl lk_RX0_33 dX0_become_38 ?_
  refine xh_cVv C hw (rest := []) h (fun _ hy => c_X6_become_18_51 hq hN hy) ml_RX0_72 mv_X6_become sX_18 (x_lt hN rfl) rfl ⟨rfl, rfl, by decide, by decide⟩ rfl hl.1 rfl (Nat.le_of_ble_eq_true rfl) dX0_become_41 (fun H locs _ M hw h => ?_)
  refine lv_aload_n hx hb dX0_become_44 rfl (lv_at hl 0 rfl) ?_
  refine xh_getr C hw 1 4 sX_1 (x_lt hN rfl) rfl rfl rfl lk_RX0_40 dX0_become_45 ?_
  refine lv_aload_n hx hb dX0_become_48 rfl (lv_at hl 1 rfl) ?_
  refine xh_getr C hw 34 4 sX_34 (x_lt hN rfl) rfl rfl rfl lk_RX0_40 dX0_become_49 ?_
  refine xh_cVv C hw (rest := []) h (fun _ hy => c_X5_become_27_60 hq hN hy) ml_RX0_75 mv_X5_become sX_27 (x_lt hN rfl) rfl ⟨rfl, rfl, by decide, by decide⟩ rfl hl.1 rfl (Nat.le_of_ble_eq_true rfl) dX0_become_52 (fun H locs _ M hw h => ?_)
  refine lv_aload_n hx hb dX0_become_55 rfl (lv_at hl 0 rfl) ?_
  refine xh_getr C hw 1 5 sX_1 (x_lt hN rfl) rfl rfl rfl lk_RX0_44 dX0_become_56 ?_
  refine lv_aload_n hx hb dX0_become_59 rfl (lv_at hl 1 rfl) ?_
  refine xh_getr C hw 34 5 sX_34 (x_lt hN rfl) rfl rfl rfl lk_RX0_44 dX0_become_60 ?_
  refine xh_cSv C hw (rest := []) h (fun _ hy => c_X0_overwrite_31_64 hq hN hy) ml_RX0_78 st_X0_overwrite ⟨rfl, rfl, by decide, by decide⟩ rfl hl.1 rfl (Nat.le_of_ble_eq_true rfl) dX0_become_63 (fun H locs _ M hw h => ?_)
  refine lv_aload_n hx hb dX0_become_66 rfl (lv_at hl 0 rfl) ?_
  refine xh_getr C hw 1 6 sX_1 (x_lt hN rfl) rfl rfl rfl lk_RX0_48 dX0_become_67 ?_
  refine lv_aload_n hx hb dX0_become_70 rfl (lv_at hl 1 rfl) ?_
  refine xh_getr C hw 34 6 sX_34 (x_lt hN rfl) rfl rfl rfl lk_RX0_48 dX0_become_71 ?_
  refine xh_cSv C hw (rest := []) h (fun _ hy => c_X0_overwrite_32_65 hq hN hy) ml_RX0_78 st_X0_overwrite ⟨rfl, rfl, by decide, by decide⟩ rfl hl.1 rfl (Nat.le_of_ble_eq_true rfl) dX0_become_74 (fun H locs _ M hw h => ?_)
  refine lv_aload_n hx hb dX0_become_77 rfl (lv_at hl 0 rfl) ?_
  refine xh_getr C hw 1 7 sX_1 (x_lt hN rfl) rfl rfl rfl lk_RX0_51 dX0_become_78 ?_
  refine lv_aload_n hx hb dX0_become_81 rfl (lv_at hl 1 rfl) ?_
  refine xh_getr C hw 34 7 sX_34 (x_lt hN rfl) rfl rfl rfl lk_RX0_51 dX0_become_82 ?_
  refine xh_cSv C hw (rest := []) h (fun _ hy => c_X0_overwrite_33_66 hq hN hy) ml_RX0_78 st_X0_overwrite ⟨rfl, rfl, by decide, by decide⟩ rfl hl.1 rfl (Nat.le_of_ble_eq_true rfl) dX0_become_85 (fun H locs _ M hw h => ?_)
  refine lv_aload_n hx hb dX0_become_88 rfl (lv_at hl 0 rfl) ?_
  refine lv_aload_n hx hb dX0_become_89 rfl (lv_at hl 1 rfl) ?_
  refine xh_geti C hw 34 8 h sX_34 (x_lt hN rfl) rfl rfl rfl lk_RX0_54 dX0_become_90 (fun r90 h => ?_)
  refine xh_puti C hw 1 8 h sX_1 (x_lt hN rfl) rfl rfl rfl lk_RX0_54 rfl rfl dX0_become_93 (fun H locs M hw h => ?_)
  exact hret dX0_become_96 hw h
def f_X11_again (NC : Nat) (M : x_M) : Option (Int32 × x_M) := x_gf M 0 10 (fun r1 => if r1 = 0 then some ((-1000000002), M) else x_bn (f_X0_become_1_34 NC M) (fun _ M => x_bn (f_X10_forget M) (fun _ M => x_gf M 1 8 (fun r32 => some (r32, M)))))
abbrev rm_X11_again : Room := { frames := 4, cells := 0, slots := 0, locals := 263 }
set_option maxHeartbeats 4000000 in
set_option maxRecDepth 100000 in
theorem c_X11_again {l : Launch} {D : va_G} {cy : Nat → ClassId} {q ad : Nat → Nat} {NC : Nat} {s0 : State} (hq : x_Q q NC s0.heap.size) (hN : 88 ≤ NC) {M : x_M} {z : Int32 × x_M} (h : f_X11_again NC M = some z) : x_Ci l D cy q ad x_spX NC s0 yX11_again (x_uw yX11_again cX11_again 1 (some .int)) rm_X11_again [.ref (q 0)] M z.1 z.2 := by
  refine x_meti hq (by decide) (Nat.le_of_ble_eq_true rfl) ?_
  intro p e s m args below meth c ls Q C hret hl hw
  have hx := C.1.1
  have hb := C.1.2.1
  have ho := C.1.2.2.2.1
  have hL := C.1.2.2.2.2
  have hl : lv_has ls 1 [(0, .ref (q 0))] := hl
  unfold f_X11_again at h
  refine lv_aload_n hx hb dX11_again_0 rfl (lv_at hl 0 rfl) ?_
  refine xh_geti C hw 0 10 h sX_0 (x_lt hN rfl) rfl rfl rfl lk_RX11_319 dX11_again_1 (fun r1 h => ?_)
  refine x_if_ne (tgt := 10) hx hb h dX11_again_4 (by decide) (fun h => ?_) (fun h => ?_)
  · refine lv_ldc hx hb ho (hL _ kc_RX11_144) dX11_again_7 ?_
    exact hret dX11_again_9 rfl hw h
  · refine lv_aload_n hx hb dX11_again_10 rfl (lv_at hl 0 rfl) ?_
    refine xh_getr C hw 0 0 sX_0 (x_lt hN rfl) rfl rfl rfl lk_RX11_12 dX11_again_11 ?_
    refine lv_aload_n hx hb dX11_again_14 rfl (lv_at hl 0 rfl) ?_
    refine xh_getr C hw 0 1 sX_0 (x_lt hN rfl) rfl rfl rfl lk_RX11_16 dX11_again_15 ?_
    refine xh_cVv C hw (rest := []) h (fun _ hy => c_X0_become_1_34 hq hN hy) ml_RX11_315 mv_X0_become sX_1 (x_lt hN rfl) rfl ⟨rfl, rfl, by decide, by decide⟩ rfl hl.1 rfl (Nat.le_of_ble_eq_true rfl) dX11_again_18 (fun H locs _ M hw h => ?_)
    refine lv_aload_n hx hb dX11_again_21 rfl (lv_at hl 0 rfl) ?_
    refine xh_getr C hw 0 3 sX_0 (x_lt hN rfl) rfl rfl rfl lk_RX11_29 dX11_again_22 ?_
    refine xh_cVv C hw (rest := []) h (fun _ hy => c_X10_forget hq hN hy) ml_RX11_286 mv_X10_forget sX_78 (x_lt hN rfl) rfl ⟨rfl, rfl, by decide, by decide⟩ rfl hl.1 rfl (Nat.le_of_ble_eq_true rfl) dX11_again_25 (fun H locs _ M hw h => ?_)
    refine lv_aload_n hx hb dX11_again_28 rfl (lv_at hl 0 rfl) ?_
    refine xh_getr C hw 0 0 sX_0 (x_lt hN rfl) rfl rfl rfl lk_RX11_12 dX11_again_29 ?_
    refine xh_geti C hw 1 8 h sX_1 (x_lt hN rfl) rfl rfl rfl lk_RX11_97 dX11_again_32 (fun r32 h => ?_)
    exact hret dX11_again_35 rfl hw h
def f_X11_sheet_13 (M : x_M) : Option (Int32 × x_M) := some ((-1000000001), M)
def f_X11_sheet_33 : Nat → x_M → Int32 → Int32 → Int32 → Option (Int32 × x_M)
  | 0, _, _, _, _ => none
  | n + 1, M, v1, v2, v3 => if (nI 16) ≤ v3 then some (v2, M) else x_wr 32 M 86 ((v1 * (nI 16)) + v3) (vp_nar .short (nI 0)) (fun M => (f_X11_sheet_33 n) M v1 v2 (v3 + (nI 1)))
theorem f_X11_sheet_33_0 (M : x_M) (v1 : Int32) (v2 : Int32) (v3 : Int32) : f_X11_sheet_33 0 M v1 v2 v3 = none := rfl
theorem f_X11_sheet_33_s (n : Nat) (M : x_M) (v1 : Int32) (v2 : Int32) (v3 : Int32) : f_X11_sheet_33 (n + 1) M v1 v2 v3 = (if (nI 16) ≤ v3 then some (v2, M) else x_wr 32 M 86 ((v1 * (nI 16)) + v3) (vp_nar .short (nI 0)) (fun M => (f_X11_sheet_33 n) M v1 v2 (v3 + (nI 1)))) := rfl
def f_X11_sheet (M : x_M) (a1 : Int32) (a2 : Int32) : Option (Int32 × x_M) := x_bn (f_X11_isSheet M a1) (fun r1 M => if r1 = 0 then f_X11_sheet_13 M else if a2 ≤ (nI 16) then if 0 ≤ a2 then x_wr 2 M 87 a1 a2 (fun M => f_X11_sheet_33 x_FU M a1 a2 (nI 0)) else some ((-1000000014), M) else f_X11_sheet_13 M)
abbrev rm_X11_sheet : Room := { frames := 2, cells := 0, slots := 0, locals := 42 }
set_option maxHeartbeats 4000000 in
set_option maxRecDepth 100000 in
theorem c_X11_sheet {l : Launch} {D : va_G} {cy : Nat → ClassId} {q ad : Nat → Nat} {NC : Nat} {s0 : State} (hq : x_Q q NC s0.heap.size) (hN : 88 ≤ NC) {M : x_M} {a1 : Int32} {a2 : Int32} {z : Int32 × x_M} (h : f_X11_sheet M a1 a2 = some z) : x_Ci l D cy q ad x_spX NC s0 yX11_sheet (x_uw yX11_sheet cX11_sheet 4 (some .int)) rm_X11_sheet [.ref (q 0), .int a1, .int a2] M z.1 z.2 := by
  refine x_meti hq (by decide) (Nat.le_of_ble_eq_true rfl) ?_
  intro p e s m args below meth c ls Q C hret hl hw
  have hx := C.1.1
  have hb := C.1.2.1
  have ho := C.1.2.2.2.1
  have hL := C.1.2.2.2.2
  have hl : lv_has ls 4 [(0, .ref (q 0)), (1, .int a1), (2, .int a2)] := hl
  have w13 : ∀ (M : x_M) (H : Heap) (locs : List Loc) (ls : Array Slot), x_B D cy q ad x_spX NC s H locs M → lv_has ls 4 [] → f_X11_sheet_13 M = some z → W p l e rm_X11_sheet s m args below meth c H locs 0 0 Q (F0 m 13 ls []) := by
    intro M H locs ls hw hl h
    unfold f_X11_sheet_13 at h
    refine lv_ldc hx hb ho (hL _ kc_RX11_58) dX11_sheet_13 ?_
    exact hret dX11_sheet_15 rfl hw h
  have w33 : ∀ (n : Nat) (M : x_M) (v1 : Int32) (v2 : Int32) (v3 : Int32) (H : Heap) (locs : List Loc) (ls : Array Slot), x_B D cy q ad x_spX NC s H locs M → lv_has ls 4 [(0, .ref (q 0)), (1, .int v1), (2, .int v2), (3, .int v3)] → f_X11_sheet_33 n M v1 v2 v3 = some z → W p l e rm_X11_sheet s m args below meth c H locs 0 0 Q (F0 m 33 ls []) := by
    intro n
    induction n with
    | zero =>
      intro M v1 v2 v3 H locs ls hw hl h
      rw [f_X11_sheet_33_0] at h
      cases h
    | succ n33 ih33 =>
      intro M v1 v2 v3 H locs ls hw hl h
      rw [f_X11_sheet_33_s] at h
      refine lv_iload_n hx hb dX11_sheet_33 rfl (lv_at hl 3 rfl) ?_
      refine lv_bipush (v := (nI 16)) hx hb dX11_sheet_34 (by decide) ?_
      refine x_icmp_ge (tgt := 57) hx hb h dX11_sheet_36 (by decide) (fun h => ?_) (fun h => ?_)
      · refine lv_iload_n hx hb dX11_sheet_57 rfl (lv_at hl 2 rfl) ?_
        exact hret dX11_sheet_58 rfl hw h
      · refine lv_aload_n hx hb dX11_sheet_39 rfl (lv_at hl 0 rfl) ?_
        refine xh_getr C hw 0 7 sX_0 (x_lt hN rfl) rfl rfl rfl lk_RX11_47 dX11_sheet_40 ?_
        refine lv_iload_n hx hb dX11_sheet_43 rfl (lv_at hl 1 rfl) ?_
        refine lv_bipush (v := (nI 16)) hx hb dX11_sheet_44 (by decide) ?_
        refine lv_imul hx hb dX11_sheet_46 ?_
        refine lv_iload_n hx hb dX11_sheet_47 rfl (lv_at hl 3 rfl) ?_
        refine lv_iadd hx hb dX11_sheet_48 ?_
        refine lv_iconst (v := (nI 0)) hx hb dX11_sheet_49 (by decide) ?_
        refine xh_sast C hw 86 32 h sX_86 (x_lt hN rfl) dX11_sheet_50 (fun H locs M hw h => ?_)
        refine lv_iinc (lv' := [(3, .int _), (0, .ref (q 0)), (1, .int _), (2, .int _)]) hx hb dX11_sheet_51 hl (k := 3) rfl (x_inc (show Int32.ofInt 1 = (nI 1) by decide) _) (by decide) rfl (fun ls hl => ?_)
        refine lv_goto (tgt := 33) hx hb dX11_sheet_54 (by decide) ?_
        exact ih33 _ _ _ _ _ _ _ hw (lv_sub hl [1, 2, 3, 0] rfl) h
  unfold f_X11_sheet at h
  refine lv_iload_n hx hb dX11_sheet_0 rfl (lv_at hl 1 rfl) ?_
  refine xh_cSi C hw (rest := []) h (fun _ hy => c_X11_isSheet hq hN hy) ml_RX11_84 st_X11_isSheet ⟨rfl, rfl, by decide, by decide⟩ rfl hl.1 rfl (Nat.le_of_ble_eq_true rfl) dX11_sheet_1 (fun H locs r1 M hw h => ?_)
  refine x_if_eq (tgt := 13) hx hb h dX11_sheet_4 (by decide) (fun h => ?_) (fun h => ?_)
  · exact w13 _ _ _ _ hw (lv_sub hl [] rfl) h
  · refine lv_iload_n hx hb dX11_sheet_7 rfl (lv_at hl 2 rfl) ?_
    refine lv_bipush (v := (nI 16)) hx hb dX11_sheet_8 (by decide) ?_
    refine x_icmp_le (tgt := 16) hx hb h dX11_sheet_10 (by decide) (fun h => ?_) (fun h => ?_)
    · refine lv_iload_n hx hb dX11_sheet_16 rfl (lv_at hl 2 rfl) ?_
      refine x_if_ge (tgt := 24) hx hb h dX11_sheet_17 (by decide) (fun h => ?_) (fun h => ?_)
      · refine lv_aload_n hx hb dX11_sheet_24 rfl (lv_at hl 0 rfl) ?_
        refine xh_getr C hw 0 8 sX_0 (x_lt hN rfl) rfl rfl rfl lk_RX11_51 dX11_sheet_25 ?_
        refine lv_iload_n hx hb dX11_sheet_28 rfl (lv_at hl 1 rfl) ?_
        refine lv_iload_n hx hb dX11_sheet_29 rfl (lv_at hl 2 rfl) ?_
        refine xh_iast C hw 87 2 h sX_87 (x_lt hN rfl) dX11_sheet_30 (fun H locs M hw h => ?_)
        refine lv_iconst (v := (nI 0)) hx hb dX11_sheet_31 (by decide) ?_
        refine lv_istore_n (lv' := [(3, .int _), (0, .ref (q 0)), (1, .int _), (2, .int _)]) hx hb dX11_sheet_32 rfl hl (by decide) rfl (fun ls hl => ?_)
        exact w33 _ _ _ _ _ _ _ _ hw (lv_sub hl [1, 2, 3, 0] rfl) h
      · refine lv_ldcw hx hb ho (hL _ kc_RX11_323) dX11_sheet_20 ?_
        exact hret dX11_sheet_23 rfl hw h
    · exact w13 _ _ _ _ hw (lv_sub hl [] rfl) h
def f_X11_mark (M : x_M) (a1 : Int32) (a2 : Int32) (a3 : Int32) : Option (Int32 × x_M) := x_bn (f_X11_isSheet M a1) (fun r1 M => if r1 = 0 then some ((-1000000001), M) else x_rd 2 (M 87) a1 (fun r15 => if r15 = (-1) then some ((-1000000011), M) else x_rd 2 (M 87) a1 (fun r30 => x_bn (f_X11_within M a2 (nI 0) (r30 - (nI 1))) (fun r33 M => if r33 = 0 then some ((-1000000013), M) else x_rd 32 (M 86) ((a1 * (nI 16)) + a2) (fun r53 => x_wr 32 M 86 ((a1 * (nI 16)) + a2) (vp_nar .short ((a3).toInt16.toInt32)) (fun M => some (r53, M)))))))
abbrev rm_X11_mark : Room := { frames := 2, cells := 0, slots := 0, locals := 42 }
set_option maxHeartbeats 4000000 in
set_option maxRecDepth 100000 in
theorem c_X11_mark {l : Launch} {D : va_G} {cy : Nat → ClassId} {q ad : Nat → Nat} {NC : Nat} {s0 : State} (hq : x_Q q NC s0.heap.size) (hN : 88 ≤ NC) {M : x_M} {a1 : Int32} {a2 : Int32} {a3 : Int32} {z : Int32 × x_M} (h : f_X11_mark M a1 a2 a3 = some z) : x_Ci l D cy q ad x_spX NC s0 yX11_mark (x_uw yX11_mark cX11_mark 5 (some .int)) rm_X11_mark [.ref (q 0), .int a1, .int a2, .int a3] M z.1 z.2 := by
  refine x_meti hq (by decide) (Nat.le_of_ble_eq_true rfl) ?_
  intro p e s m args below meth c ls Q C hret hl hw
  have hx := C.1.1
  have hb := C.1.2.1
  have ho := C.1.2.2.2.1
  have hL := C.1.2.2.2.2
  have hl : lv_has ls 5 [(0, .ref (q 0)), (1, .int a1), (2, .int a2), (3, .int a3)] := hl
  unfold f_X11_mark at h
  refine lv_iload_n hx hb dX11_mark_0 rfl (lv_at hl 1 rfl) ?_
  refine xh_cSi C hw (rest := []) h (fun _ hy => c_X11_isSheet hq hN hy) ml_RX11_84 st_X11_isSheet ⟨rfl, rfl, by decide, by decide⟩ rfl hl.1 rfl (Nat.le_of_ble_eq_true rfl) dX11_mark_1 (fun H locs r1 M hw h => ?_)
  refine x_if_ne (tgt := 10) hx hb h dX11_mark_4 (by decide) (fun h => ?_) (fun h => ?_)
  · refine lv_ldc hx hb ho (hL _ kc_RX11_58) dX11_mark_7 ?_
    exact hret dX11_mark_9 rfl hw h
  · refine lv_aload_n hx hb dX11_mark_10 rfl (lv_at hl 0 rfl) ?_
    refine xh_getr C hw 0 8 sX_0 (x_lt hN rfl) rfl rfl rfl lk_RX11_51 dX11_mark_11 ?_
    refine lv_iload_n hx hb dX11_mark_14 rfl (lv_at hl 1 rfl) ?_
    refine xh_iald C hw 87 2 h sX_87 (x_lt hN rfl) dX11_mark_15 (fun r15 h => ?_)
    refine lv_iconst (v := (-1)) hx hb dX11_mark_16 (by decide) ?_
    refine x_icmp_ne (tgt := 23) hx hb h dX11_mark_17 (by decide) (fun h => ?_) (fun h => ?_)
    · refine lv_ldc hx hb ho (hL _ kc_RX11_87) dX11_mark_20 ?_
      exact hret dX11_mark_22 rfl hw h
    · refine lv_iload_n hx hb dX11_mark_23 rfl (lv_at hl 2 rfl) ?_
      refine lv_iconst (v := (nI 0)) hx hb dX11_mark_24 (by decide) ?_
      refine lv_aload_n hx hb dX11_mark_25 rfl (lv_at hl 0 rfl) ?_
      refine xh_getr C hw 0 8 sX_0 (x_lt hN rfl) rfl rfl rfl lk_RX11_51 dX11_mark_26 ?_
      refine lv_iload_n hx hb dX11_mark_29 rfl (lv_at hl 1 rfl) ?_
      refine xh_iald C hw 87 2 h sX_87 (x_lt hN rfl) dX11_mark_30 (fun r30 h => ?_)
      refine lv_iconst (v := (nI 1)) hx hb dX11_mark_31 (by decide) ?_
      refine lv_isub hx hb dX11_mark_32 ?_
      refine xh_cSi C hw (rest := []) h (fun _ hy => c_X11_within hq hN hy) ml_RX11_54 st_X11_within ⟨rfl, rfl, by decide, by decide⟩ rfl hl.1 rfl (Nat.le_of_ble_eq_true rfl) dX11_mark_33 (fun H locs r33 M hw h => ?_)
      refine x_if_ne (tgt := 43) hx hb h dX11_mark_36 (by decide) (fun h => ?_) (fun h => ?_)
      · refine lv_ldcw hx hb ho (hL _ kc_RX11_324) dX11_mark_39 ?_
        exact hret dX11_mark_42 rfl hw h
      · refine lv_aload_n hx hb dX11_mark_43 rfl (lv_at hl 0 rfl) ?_
        refine xh_getr C hw 0 7 sX_0 (x_lt hN rfl) rfl rfl rfl lk_RX11_47 dX11_mark_44 ?_
        refine lv_iload_n hx hb dX11_mark_47 rfl (lv_at hl 1 rfl) ?_
        refine lv_bipush (v := (nI 16)) hx hb dX11_mark_48 (by decide) ?_
        refine lv_imul hx hb dX11_mark_50 ?_
        refine lv_iload_n hx hb dX11_mark_51 rfl (lv_at hl 2 rfl) ?_
        refine lv_iadd hx hb dX11_mark_52 ?_
        refine xh_sald C hw 86 32 h sX_86 (x_lt hN rfl) dX11_mark_53 (fun r53 h => ?_)
        refine lv_istore (lv' := [(4, .int _), (0, .ref (q 0)), (1, .int _), (2, .int _), (3, .int _)]) hx hb dX11_mark_54 hl (by decide) rfl (fun ls hl => ?_)
        refine lv_aload_n hx hb dX11_mark_56 rfl (lv_at hl 1 rfl) ?_
        refine xh_getr C hw 0 7 sX_0 (x_lt hN rfl) rfl rfl rfl lk_RX11_47 dX11_mark_57 ?_
        refine lv_iload_n hx hb dX11_mark_60 rfl (lv_at hl 2 rfl) ?_
        refine lv_bipush (v := (nI 16)) hx hb dX11_mark_61 (by decide) ?_
        refine lv_imul hx hb dX11_mark_63 ?_
        refine lv_iload_n hx hb dX11_mark_64 rfl (lv_at hl 3 rfl) ?_
        refine lv_iadd hx hb dX11_mark_65 ?_
        refine lv_iload_n hx hb dX11_mark_66 rfl (lv_at hl 4 rfl) ?_
        refine lv_i2s hx hb dX11_mark_67 rfl ?_
        refine xh_sast C hw 86 32 h sX_86 (x_lt hN rfl) dX11_mark_68 (fun H locs M hw h => ?_)
        refine lv_iload hx hb dX11_mark_69 (lv_at hl 0 rfl) ?_
        exact hret dX11_mark_71 rfl hw h
def f_X11_isStretch_24 (M : x_M) : Option (Int32 × x_M) := some ((nI 0), M)
def f_X11_isStretch (M : x_M) (a1 : Int32) (a2 : Int32) (a3 : Int32) : Option (Int32 × x_M) := x_bn (f_X11_within M a1 (nI 0) a3) (fun r3 M => if r3 = 0 then f_X11_isStretch_24 M else x_bn (f_X11_within M a2 (nI 0) (a3 - a1)) (fun r14 M => if r14 = 0 then f_X11_isStretch_24 M else some ((nI 1), M)))
abbrev rm_X11_isStretch : Room := { frames := 1, cells := 0, slots := 0, locals := 22 }
set_option maxHeartbeats 4000000 in
set_option maxRecDepth 100000 in
theorem c_X11_isStretch {l : Launch} {D : va_G} {cy : Nat → ClassId} {q ad : Nat → Nat} {NC : Nat} {s0 : State} (hq : x_Q q NC s0.heap.size) (hN : 88 ≤ NC) {M : x_M} {a1 : Int32} {a2 : Int32} {a3 : Int32} {z : Int32 × x_M} (h : f_X11_isStretch M a1 a2 a3 = some z) : x_Ci l D cy q ad x_spX NC s0 yX11_isStretch (x_uw yX11_isStretch cX11_isStretch 3 (some .boolean)) rm_X11_isStretch [.int a1, .int a2, .int a3] M z.1 z.2 := by
  refine x_meti hq (by decide) (Nat.le_of_ble_eq_true rfl) ?_
  intro p e s m args below meth c ls Q C hret hl hw
  have hx := C.1.1
  have hb := C.1.2.1
  have ho := C.1.2.2.2.1
  have hL := C.1.2.2.2.2
  have hl : lv_has ls 3 [(0, .int a1), (1, .int a2), (2, .int a3)] := hl
  have w24 : ∀ (M : x_M) (H : Heap) (locs : List Loc) (ls : Array Slot), x_B D cy q ad x_spX NC s H locs M → lv_has ls 3 [] → f_X11_isStretch_24 M = some z → W p l e rm_X11_isStretch s m args below meth c H locs 0 0 Q (F0 m 24 ls []) := by
    intro M H locs ls hw hl h
    unfold f_X11_isStretch_24 at h
    refine lv_iconst (v := (nI 0)) hx hb dX11_isStretch_24 (by decide) ?_
    exact hret dX11_isStretch_25 rfl hw h
  unfold f_X11_isStretch at h
  refine lv_iload_n hx hb dX11_isStretch_0 rfl (lv_at hl 0 rfl) ?_
  refine lv_iconst (v := (nI 0)) hx hb dX11_isStretch_1 (by decide) ?_
  refine lv_iload_n hx hb dX11_isStretch_2 rfl (lv_at hl 2 rfl) ?_
  refine xh_cSi C hw (rest := []) h (fun _ hy => c_X11_within hq hN hy) ml_RX11_54 st_X11_within ⟨rfl, rfl, by decide, by decide⟩ rfl hl.1 rfl (Nat.le_of_ble_eq_true rfl) dX11_isStretch_3 (fun H locs r3 M hw h => ?_)
  refine x_if_eq (tgt := 24) hx hb h dX11_isStretch_6 (by decide) (fun h => ?_) (fun h => ?_)
  · exact w24 _ _ _ _ hw (lv_sub hl [] rfl) h
  · refine lv_iload_n hx hb dX11_isStretch_9 rfl (lv_at hl 1 rfl) ?_
    refine lv_iconst (v := (nI 0)) hx hb dX11_isStretch_10 (by decide) ?_
    refine lv_iload_n hx hb dX11_isStretch_11 rfl (lv_at hl 2 rfl) ?_
    refine lv_iload_n hx hb dX11_isStretch_12 rfl (lv_at hl 0 rfl) ?_
    refine lv_isub hx hb dX11_isStretch_13 ?_
    refine xh_cSi C hw (rest := []) h (fun _ hy => c_X11_within hq hN hy) ml_RX11_54 st_X11_within ⟨rfl, rfl, by decide, by decide⟩ rfl hl.1 rfl (Nat.le_of_ble_eq_true rfl) dX11_isStretch_14 (fun H locs r14 M hw h => ?_)
    refine x_if_eq (tgt := 24) hx hb h dX11_isStretch_17 (by decide) (fun h => ?_) (fun h => ?_)
    · exact w24 _ _ _ _ hw (lv_sub hl [] rfl) h
    · refine lv_iconst (v := (nI 1)) hx hb dX11_isStretch_20 (by decide) ?_
      refine lv_goto (tgt := 25) hx hb dX11_isStretch_21 (by decide) ?_
      exact hret dX11_isStretch_25 rfl hw h
def f_X11_copy_14 (M : x_M) : Option (Int32 × x_M) := some ((-1000000001), M)
def f_X11_copy_37 (M : x_M) : Option (Int32 × x_M) := some ((-1000000011), M)
def f_X11_copy_71 (M : x_M) : Option (Int32 × x_M) := some ((-1000000013), M)
def f_X11_copy (M : x_M) (a1 : Int32) (a2 : Int32) (a3 : Int32) (a4 : Int32) (a5 : Int32) : Option (Int32 × x_M) := x_bn (f_X11_isSheet M a1) (fun r1 M => if r1 = 0 then f_X11_copy_14 M else x_bn (f_X11_isSheet M a3) (fun r8 M => if r8 = 0 then f_X11_copy_14 M else x_rd 2 (M 87) a1 (fun r22 => if r22 = (-1) then f_X11_copy_37 M else x_rd 2 (M 87) a3 (fun r32 => if r32 = (-1) then f_X11_copy_37 M else x_rd 2 (M 87) a1 (fun r48 => x_bn (f_X11_isStretch M a2 a5 r48) (fun r49 M => if r49 = 0 then f_X11_copy_71 M else x_rd 2 (M 87) a3 (fun r64 => x_bn (f_X11_isStretch M a4 a5 r64) (fun r65 M => if r65 = 0 then f_X11_copy_71 M else x_cf (M 86) ((a1 * (nI 16)) + a2) a5 (x_ac 32 32 M 86 ((a1 * (nI 16)) + a2) 86 ((a3 * (nI 16)) + a4) a5 (fun M => some (a5, M)))))))))))
abbrev rm_X11_copy : Room := { frames := 2, cells := 0, slots := 0, locals := 200 }
set_option maxHeartbeats 4000000 in
set_option maxRecDepth 100000 in
theorem c_X11_copy {l : Launch} {D : va_G} {cy : Nat → ClassId} {q ad : Nat → Nat} {NC : Nat} {s0 : State} (hq : x_Q q NC s0.heap.size) (hN : 88 ≤ NC) {M : x_M} {a1 : Int32} {a2 : Int32} {a3 : Int32} {a4 : Int32} {a5 : Int32} {z : Int32 × x_M} (h : f_X11_copy M a1 a2 a3 a4 a5 = some z) : x_Ci l D cy q ad x_spX NC s0 yX11_copy (x_uw yX11_copy cX11_copy 6 (some .int)) rm_X11_copy [.ref (q 0), .int a1, .int a2, .int a3, .int a4, .int a5] M z.1 z.2 := by
  refine x_meti hq (by decide) (Nat.le_of_ble_eq_true rfl) ?_
  intro p e s m args below meth c ls Q C hret hl hw
  have hx := C.1.1
  have hb := C.1.2.1
  have ho := C.1.2.2.2.1
  have hL := C.1.2.2.2.2
  have hl : lv_has ls 6 [(0, .ref (q 0)), (1, .int a1), (2, .int a2), (3, .int a3), (4, .int a4), (5, .int a5)] := hl
  have w14 : ∀ (M : x_M) (H : Heap) (locs : List Loc) (ls : Array Slot), x_B D cy q ad x_spX NC s H locs M → lv_has ls 6 [] → f_X11_copy_14 M = some z → W p l e rm_X11_copy s m args below meth c H locs 0 0 Q (F0 m 14 ls []) := by
    intro M H locs ls hw hl h
    unfold f_X11_copy_14 at h
    refine lv_ldc hx hb ho (hL _ kc_RX11_58) dX11_copy_14 ?_
    exact hret dX11_copy_16 rfl hw h
  have w37 : ∀ (M : x_M) (H : Heap) (locs : List Loc) (ls : Array Slot), x_B D cy q ad x_spX NC s H locs M → lv_has ls 6 [] → f_X11_copy_37 M = some z → W p l e rm_X11_copy s m args below meth c H locs 0 0 Q (F0 m 37 ls []) := by
    intro M H locs ls hw hl h
    unfold f_X11_copy_37 at h
    refine lv_ldc hx hb ho (hL _ kc_RX11_87) dX11_copy_37 ?_
    exact hret dX11_copy_39 rfl hw h
  have w71 : ∀ (M : x_M) (H : Heap) (locs : List Loc) (ls : Array Slot), x_B D cy q ad x_spX NC s H locs M → lv_has ls 6 [] → f_X11_copy_71 M = some z → W p l e rm_X11_copy s m args below meth c H locs 0 0 Q (F0 m 71 ls []) := by
    intro M H locs ls hw hl h
    unfold f_X11_copy_71 at h
    refine lv_ldcw hx hb ho (hL _ kc_RX11_324) dX11_copy_71 ?_
    exact hret dX11_copy_74 rfl hw h
  unfold f_X11_copy at h
  refine lv_iload_n hx hb dX11_copy_0 rfl (lv_at hl 1 rfl) ?_
  refine xh_cSi C hw (rest := []) h (fun _ hy => c_X11_isSheet hq hN hy) ml_RX11_84 st_X11_isSheet ⟨rfl, rfl, by decide, by decide⟩ rfl hl.1 rfl (Nat.le_of_ble_eq_true rfl) dX11_copy_1 (fun H locs r1 M hw h => ?_)
  refine x_if_eq (tgt := 14) hx hb h dX11_copy_4 (by decide) (fun h => ?_) (fun h => ?_)
  · exact w14 _ _ _ _ hw (lv_sub hl [] rfl) h
  · refine lv_iload_n hx hb dX11_copy_7 rfl (lv_at hl 3 rfl) ?_
    refine xh_cSi C hw (rest := []) h (fun _ hy => c_X11_isSheet hq hN hy) ml_RX11_84 st_X11_isSheet ⟨rfl, rfl, by decide, by decide⟩ rfl hl.1 rfl (Nat.le_of_ble_eq_true rfl) dX11_copy_8 (fun H locs r8 M hw h => ?_)
    refine x_if_ne (tgt := 17) hx hb h dX11_copy_11 (by decide) (fun h => ?_) (fun h => ?_)
    · exact w14 _ _ _ _ hw (lv_sub hl [] rfl) h
    · refine lv_aload_n hx hb dX11_copy_17 rfl (lv_at hl 0 rfl) ?_
      refine xh_getr C hw 0 8 sX_0 (x_lt hN rfl) rfl rfl rfl lk_RX11_51 dX11_copy_18 ?_
      refine lv_iload_n hx hb dX11_copy_21 rfl (lv_at hl 1 rfl) ?_
      refine xh_iald C hw 87 2 h sX_87 (x_lt hN rfl) dX11_copy_22 (fun r22 h => ?_)
      refine lv_iconst (v := (-1)) hx hb dX11_copy_23 (by decide) ?_
      refine x_icmp_eq (tgt := 37) hx hb h dX11_copy_24 (by decide) (fun h => ?_) (fun h => ?_)
      · exact w37 _ _ _ _ hw (lv_sub hl [] rfl) h
      · refine lv_aload_n hx hb dX11_copy_27 rfl (lv_at hl 0 rfl) ?_
        refine xh_getr C hw 0 8 sX_0 (x_lt hN rfl) rfl rfl rfl lk_RX11_51 dX11_copy_28 ?_
        refine lv_iload_n hx hb dX11_copy_31 rfl (lv_at hl 3 rfl) ?_
        refine xh_iald C hw 87 2 h sX_87 (x_lt hN rfl) dX11_copy_32 (fun r32 h => ?_)
        refine lv_iconst (v := (-1)) hx hb dX11_copy_33 (by decide) ?_
        refine x_icmp_ne (tgt := 40) hx hb h dX11_copy_34 (by decide) (fun h => ?_) (fun h => ?_)
        · exact w37 _ _ _ _ hw (lv_sub hl [] rfl) h
        · refine lv_iload_n hx hb dX11_copy_40 rfl (lv_at hl 2 rfl) ?_
          refine lv_iload hx hb dX11_copy_41 (lv_at hl 5 rfl) ?_
          refine lv_aload_n hx hb dX11_copy_43 rfl (lv_at hl 0 rfl) ?_
          refine xh_getr C hw 0 8 sX_0 (x_lt hN rfl) rfl rfl rfl lk_RX11_51 dX11_copy_44 ?_
          refine lv_iload_n hx hb dX11_copy_47 rfl (lv_at hl 1 rfl) ?_
          refine xh_iald C hw 87 2 h sX_87 (x_lt hN rfl) dX11_copy_48 (fun r48 h => ?_)
          refine xh_cSi C hw (rest := []) h (fun _ hy => c_X11_isStretch hq hN hy) ml_RX11_325 st_X11_isStretch ⟨rfl, rfl, by decide, by decide⟩ rfl hl.1 rfl (Nat.le_of_ble_eq_true rfl) dX11_copy_49 (fun H locs r49 M hw h => ?_)
          refine x_if_eq (tgt := 71) hx hb h dX11_copy_52 (by decide) (fun h => ?_) (fun h => ?_)
          · exact w71 _ _ _ _ hw (lv_sub hl [] rfl) h
          · refine lv_iload hx hb dX11_copy_55 (lv_at hl 4 rfl) ?_
            refine lv_iload hx hb dX11_copy_57 (lv_at hl 5 rfl) ?_
            refine lv_aload_n hx hb dX11_copy_59 rfl (lv_at hl 0 rfl) ?_
            refine xh_getr C hw 0 8 sX_0 (x_lt hN rfl) rfl rfl rfl lk_RX11_51 dX11_copy_60 ?_
            refine lv_iload_n hx hb dX11_copy_63 rfl (lv_at hl 3 rfl) ?_
            refine xh_iald C hw 87 2 h sX_87 (x_lt hN rfl) dX11_copy_64 (fun r64 h => ?_)
            refine xh_cSi C hw (rest := []) h (fun _ hy => c_X11_isStretch hq hN hy) ml_RX11_325 st_X11_isStretch ⟨rfl, rfl, by decide, by decide⟩ rfl hl.1 rfl (Nat.le_of_ble_eq_true rfl) dX11_copy_65 (fun H locs r65 M hw h => ?_)
            refine x_if_ne (tgt := 75) hx hb h dX11_copy_68 (by decide) (fun h => ?_) (fun h => ?_)
            · exact w71 _ _ _ _ hw (lv_sub hl [] rfl) h
            · refine lv_aload_n hx hb dX11_copy_75 rfl (lv_at hl 0 rfl) ?_
              refine xh_getr C hw 0 7 sX_0 (x_lt hN rfl) rfl rfl rfl lk_RX11_47 dX11_copy_76 ?_
              refine lv_iload_n hx hb dX11_copy_79 rfl (lv_at hl 1 rfl) ?_
              refine lv_bipush (v := (nI 16)) hx hb dX11_copy_80 (by decide) ?_
              refine lv_imul hx hb dX11_copy_82 ?_
              refine lv_iload_n hx hb dX11_copy_83 rfl (lv_at hl 2 rfl) ?_
              refine lv_iadd hx hb dX11_copy_84 ?_
              refine lv_aload_n hx hb dX11_copy_85 rfl (lv_at hl 0 rfl) ?_
              refine xh_getr C hw 0 7 sX_0 (x_lt hN rfl) rfl rfl rfl lk_RX11_47 dX11_copy_86 ?_
              refine lv_iload_n hx hb dX11_copy_89 rfl (lv_at hl 3 rfl) ?_
              refine lv_bipush (v := (nI 16)) hx hb dX11_copy_90 (by decide) ?_
              refine lv_imul hx hb dX11_copy_92 ?_
              refine lv_iload hx hb dX11_copy_93 (lv_at hl 4 rfl) ?_
              refine lv_iadd hx hb dX11_copy_95 ?_
              refine lv_iload hx hb dX11_copy_96 (lv_at hl 5 rfl) ?_
              refine xh_copys C hw (rest := []) 86 86 32 32 h sX_86 sX_86 (x_lt hN rfl) (x_lt hN rfl) ac_RX11_328 hl.1 ⟨by decide, Nat.le_of_ble_eq_true rfl⟩ dX11_copy_98 (fun H locs M hw h => ?_)
              refine lv_iload hx hb dX11_copy_101 (lv_at hl 5 rfl) ?_
              exact hret dX11_copy_103 rfl hw h
def f_X3_allWithdrawn_26 (k4 : x_M → Int32 → Int32 → Option (Int32 × x_M)) (M : x_M) (v1 : Int32) (v2 : Int32) : Option (Int32 × x_M) := k4 M v1 (v2 + (nI 1))
def f_X3_allWithdrawn_4 : Nat → x_M → Int32 → Int32 → Option (Int32 × x_M)
  | 0, _, _, _ => none
  | n + 1, M, v1, v2 => x_gf M 6 9 (fun r6 => if r6 ≤ v2 then some (v1, M) else x_rd 100 (M 11) v2 (fun r17 => if r17 = (-1000000005) then f_X3_allWithdrawn_26 (f_X3_allWithdrawn_4 n) M v1 v2 else f_X3_allWithdrawn_26 (f_X3_allWithdrawn_4 n) M (v1 + (nI 1)) v2))
theorem f_X3_allWithdrawn_4_0 (M : x_M) (v1 : Int32) (v2 : Int32) : f_X3_allWithdrawn_4 0 M v1 v2 = none := rfl
theorem f_X3_allWithdrawn_4_s (n : Nat) (M : x_M) (v1 : Int32) (v2 : Int32) : f_X3_allWithdrawn_4 (n + 1) M v1 v2 = (x_gf M 6 9 (fun r6 => if r6 ≤ v2 then some (v1, M) else x_rd 100 (M 11) v2 (fun r17 => if r17 = (-1000000005) then f_X3_allWithdrawn_26 (f_X3_allWithdrawn_4 n) M v1 v2 else f_X3_allWithdrawn_26 (f_X3_allWithdrawn_4 n) M (v1 + (nI 1)) v2))) := rfl
def f_X3_allWithdrawn (M : x_M) : Option (Int32 × x_M) := f_X3_allWithdrawn_4 x_FU M (nI 0) (nI 0)
abbrev rm_X3_allWithdrawn : Room := { frames := 0, cells := 0, slots := 0, locals := 0 }
set_option maxHeartbeats 4000000 in
set_option maxRecDepth 100000 in
theorem c_X3_allWithdrawn {l : Launch} {D : va_G} {cy : Nat → ClassId} {q ad : Nat → Nat} {NC : Nat} {s0 : State} (hq : x_Q q NC s0.heap.size) (hN : 88 ≤ NC) {M : x_M} {z : Int32 × x_M} (h : f_X3_allWithdrawn M = some z) : x_Ci l D cy q ad x_spX NC s0 yX3_allWithdrawn (x_uw yX3_allWithdrawn cX3_allWithdrawn 3 (some .int)) rm_X3_allWithdrawn [.ref (q 6)] M z.1 z.2 := by
  refine x_meti hq (by decide) (Nat.le_of_ble_eq_true rfl) ?_
  intro p e s m args below meth c ls Q C hret hl hw
  have hx := C.1.1
  have hb := C.1.2.1
  have ho := C.1.2.2.2.1
  have hL := C.1.2.2.2.2
  have hl : lv_has ls 3 [(0, .ref (q 6))] := hl
  have w4 : ∀ (n : Nat) (M : x_M) (v1 : Int32) (v2 : Int32) (H : Heap) (locs : List Loc) (ls : Array Slot), x_B D cy q ad x_spX NC s H locs M → lv_has ls 3 [(0, .ref (q 6)), (1, .int v1), (2, .int v2)] → f_X3_allWithdrawn_4 n M v1 v2 = some z → W p l e rm_X3_allWithdrawn s m args below meth c H locs 0 0 Q (F0 m 4 ls []) := by
    intro n
    induction n with
    | zero =>
      intro M v1 v2 H locs ls hw hl h
      rw [f_X3_allWithdrawn_4_0] at h
      cases h
    | succ n4 ih4 =>
      have w26 : ∀ (M : x_M) (v1 : Int32) (v2 : Int32) (H : Heap) (locs : List Loc) (ls : Array Slot), x_B D cy q ad x_spX NC s H locs M → lv_has ls 3 [(0, .ref (q 6)), (1, .int v1), (2, .int v2)] → f_X3_allWithdrawn_26 (f_X3_allWithdrawn_4 n4) M v1 v2 = some z → W p l e rm_X3_allWithdrawn s m args below meth c H locs 0 0 Q (F0 m 26 ls []) := by
        intro M v1 v2 H locs ls hw hl h
        unfold f_X3_allWithdrawn_26 at h
        refine lv_iinc (lv' := [(2, .int _), (0, .ref (q 6)), (1, .int _)]) hx hb dX3_allWithdrawn_26 hl (k := 2) rfl (x_inc (show Int32.ofInt 1 = (nI 1) by decide) _) (by decide) rfl (fun ls hl => ?_)
        refine lv_goto (tgt := 4) hx hb dX3_allWithdrawn_29 (by decide) ?_
        exact ih4 _ _ _ _ _ _ hw (lv_sub hl [1, 2, 0] rfl) h
      intro M v1 v2 H locs ls hw hl h
      rw [f_X3_allWithdrawn_4_s] at h
      refine lv_iload_n hx hb dX3_allWithdrawn_4 rfl (lv_at hl 2 rfl) ?_
      refine lv_aload_n hx hb dX3_allWithdrawn_5 rfl (lv_at hl 0 rfl) ?_
      refine xh_geti C hw 6 9 h sX_6 (x_lt hN rfl) rfl rfl rfl lk_RX3_39 dX3_allWithdrawn_6 (fun r6 h => ?_)
      refine x_icmp_ge (tgt := 32) hx hb h dX3_allWithdrawn_9 (by decide) (fun h => ?_) (fun h => ?_)
      · refine lv_iload_n hx hb dX3_allWithdrawn_32 rfl (lv_at hl 1 rfl) ?_
        exact hret dX3_allWithdrawn_33 rfl hw h
      · refine lv_aload_n hx hb dX3_allWithdrawn_12 rfl (lv_at hl 0 rfl) ?_
        refine xh_getr C hw 6 4 sX_6 (x_lt hN rfl) rfl rfl rfl lk_RX3_24 dX3_allWithdrawn_13 ?_
        refine lv_iload_n hx hb dX3_allWithdrawn_16 rfl (lv_at hl 2 rfl) ?_
        refine xh_iald C hw 11 100 h sX_11 (x_lt hN rfl) dX3_allWithdrawn_17 (fun r17 h => ?_)
        refine lv_ldc hx hb ho (hL _ kc_RX3_44) dX3_allWithdrawn_18 ?_
        refine x_icmp_eq (tgt := 26) hx hb h dX3_allWithdrawn_20 (by decide) (fun h => ?_) (fun h => ?_)
        · exact w26 _ _ _ _ _ _ hw (lv_sub hl [0, 1, 2] rfl) h
        · refine lv_iinc (lv' := [(1, .int _), (0, .ref (q 6)), (2, .int _)]) hx hb dX3_allWithdrawn_23 hl (k := 1) rfl (x_inc (show Int32.ofInt 1 = (nI 1) by decide) _) (by decide) rfl (fun ls hl => ?_)
          exact w26 _ _ _ _ _ _ hw (lv_sub hl [1, 0, 2] rfl) h
  unfold f_X3_allWithdrawn at h
  refine lv_iconst (v := (nI 0)) hx hb dX3_allWithdrawn_0 (by decide) ?_
  refine lv_istore_n (lv' := [(1, .int _), (0, .ref (q 6))]) hx hb dX3_allWithdrawn_1 rfl hl (by decide) rfl (fun ls hl => ?_)
  refine lv_iconst (v := (nI 0)) hx hb dX3_allWithdrawn_2 (by decide) ?_
  refine lv_istore_n (lv' := [(2, .int _), (1, .int _), (0, .ref (q 6))]) hx hb dX3_allWithdrawn_3 rfl hl (by decide) rfl (fun ls hl => ?_)
  exact w4 _ _ _ _ _ _ _ hw (lv_sub hl [2, 1, 0] rfl) h
def f_X6_allWaiting_26 (k4 : x_M → Int32 → Int32 → Option (Int32 × x_M)) (M : x_M) (v1 : Int32) (v2 : Int32) : Option (Int32 × x_M) := k4 M v1 (v2 + (nI 1))
def f_X6_allWaiting_4 : Nat → x_M → Int32 → Int32 → Option (Int32 × x_M)
  | 0, _, _, _ => none
  | n + 1, M, v1, v2 => x_gf M 18 9 (fun r6 => if r6 ≤ v2 then some (v1, M) else x_rd 30 (M 26) v2 (fun r17 => if r17 = (-1000000005) then f_X6_allWaiting_26 (f_X6_allWaiting_4 n) M (v1 + (nI 1)) v2 else f_X6_allWaiting_26 (f_X6_allWaiting_4 n) M v1 v2))
theorem f_X6_allWaiting_4_0 (M : x_M) (v1 : Int32) (v2 : Int32) : f_X6_allWaiting_4 0 M v1 v2 = none := rfl
theorem f_X6_allWaiting_4_s (n : Nat) (M : x_M) (v1 : Int32) (v2 : Int32) : f_X6_allWaiting_4 (n + 1) M v1 v2 = (x_gf M 18 9 (fun r6 => if r6 ≤ v2 then some (v1, M) else x_rd 30 (M 26) v2 (fun r17 => if r17 = (-1000000005) then f_X6_allWaiting_26 (f_X6_allWaiting_4 n) M (v1 + (nI 1)) v2 else f_X6_allWaiting_26 (f_X6_allWaiting_4 n) M v1 v2))) := rfl
def f_X6_allWaiting (M : x_M) : Option (Int32 × x_M) := f_X6_allWaiting_4 x_FU M (nI 0) (nI 0)
abbrev rm_X6_allWaiting : Room := { frames := 0, cells := 0, slots := 0, locals := 0 }
set_option maxHeartbeats 4000000 in
set_option maxRecDepth 100000 in
theorem c_X6_allWaiting {l : Launch} {D : va_G} {cy : Nat → ClassId} {q ad : Nat → Nat} {NC : Nat} {s0 : State} (hq : x_Q q NC s0.heap.size) (hN : 88 ≤ NC) {M : x_M} {z : Int32 × x_M} (h : f_X6_allWaiting M = some z) : x_Ci l D cy q ad x_spX NC s0 yX6_allWaiting (x_uw yX6_allWaiting cX6_allWaiting 3 (some .int)) rm_X6_allWaiting [.ref (q 18)] M z.1 z.2 := by
  refine x_meti hq (by decide) (Nat.le_of_ble_eq_true rfl) ?_
  intro p e s m args below meth c ls Q C hret hl hw
  have hx := C.1.1
  have hb := C.1.2.1
  have ho := C.1.2.2.2.1
  have hL := C.1.2.2.2.2
  have hl : lv_has ls 3 [(0, .ref (q 18))] := hl
  have w4 : ∀ (n : Nat) (M : x_M) (v1 : Int32) (v2 : Int32) (H : Heap) (locs : List Loc) (ls : Array Slot), x_B D cy q ad x_spX NC s H locs M → lv_has ls 3 [(0, .ref (q 18)), (1, .int v1), (2, .int v2)] → f_X6_allWaiting_4 n M v1 v2 = some z → W p l e rm_X6_allWaiting s m args below meth c H locs 0 0 Q (F0 m 4 ls []) := by
    intro n
    induction n with
    | zero =>
      intro M v1 v2 H locs ls hw hl h
      rw [f_X6_allWaiting_4_0] at h
      cases h
    | succ n4 ih4 =>
      have w26 : ∀ (M : x_M) (v1 : Int32) (v2 : Int32) (H : Heap) (locs : List Loc) (ls : Array Slot), x_B D cy q ad x_spX NC s H locs M → lv_has ls 3 [(0, .ref (q 18)), (1, .int v1), (2, .int v2)] → f_X6_allWaiting_26 (f_X6_allWaiting_4 n4) M v1 v2 = some z → W p l e rm_X6_allWaiting s m args below meth c H locs 0 0 Q (F0 m 26 ls []) := by
        intro M v1 v2 H locs ls hw hl h
        unfold f_X6_allWaiting_26 at h
        refine lv_iinc (lv' := [(2, .int _), (0, .ref (q 18)), (1, .int _)]) hx hb dX6_allWaiting_26 hl (k := 2) rfl (x_inc (show Int32.ofInt 1 = (nI 1) by decide) _) (by decide) rfl (fun ls hl => ?_)
        refine lv_goto (tgt := 4) hx hb dX6_allWaiting_29 (by decide) ?_
        exact ih4 _ _ _ _ _ _ hw (lv_sub hl [1, 2, 0] rfl) h
      intro M v1 v2 H locs ls hw hl h
      rw [f_X6_allWaiting_4_s] at h
      refine lv_iload_n hx hb dX6_allWaiting_4 rfl (lv_at hl 2 rfl) ?_
      refine lv_aload_n hx hb dX6_allWaiting_5 rfl (lv_at hl 0 rfl) ?_
      refine xh_geti C hw 18 9 h sX_18 (x_lt hN rfl) rfl rfl rfl lk_RX6_41 dX6_allWaiting_6 (fun r6 h => ?_)
      refine x_icmp_ge (tgt := 32) hx hb h dX6_allWaiting_9 (by decide) (fun h => ?_) (fun h => ?_)
      · refine lv_iload_n hx hb dX6_allWaiting_32 rfl (lv_at hl 1 rfl) ?_
        exact hret dX6_allWaiting_33 rfl hw h
      · refine lv_aload_n hx hb dX6_allWaiting_12 rfl (lv_at hl 0 rfl) ?_
        refine xh_getr C hw 18 7 sX_18 (x_lt hN rfl) rfl rfl rfl lk_RX6_33 dX6_allWaiting_13 ?_
        refine lv_iload_n hx hb dX6_allWaiting_16 rfl (lv_at hl 2 rfl) ?_
        refine xh_iald C hw 26 30 h sX_26 (x_lt hN rfl) dX6_allWaiting_17 (fun r17 h => ?_)
        refine lv_ldc hx hb ho (hL _ kc_RX6_44) dX6_allWaiting_18 ?_
        refine x_icmp_ne (tgt := 26) hx hb h dX6_allWaiting_20 (by decide) (fun h => ?_) (fun h => ?_)
        · refine lv_iinc (lv' := [(1, .int _), (0, .ref (q 18)), (2, .int _)]) hx hb dX6_allWaiting_23 hl (k := 1) rfl (x_inc (show Int32.ofInt 1 = (nI 1) by decide) _) (by decide) rfl (fun ls hl => ?_)
          exact w26 _ _ _ _ _ _ hw (lv_sub hl [1, 0, 2] rfl) h
        · exact w26 _ _ _ _ _ _ hw (lv_sub hl [0, 1, 2] rfl) h
  unfold f_X6_allWaiting at h
  refine lv_iconst (v := (nI 0)) hx hb dX6_allWaiting_0 (by decide) ?_
  refine lv_istore_n (lv' := [(1, .int _), (0, .ref (q 18))]) hx hb dX6_allWaiting_1 rfl hl (by decide) rfl (fun ls hl => ?_)
  refine lv_iconst (v := (nI 0)) hx hb dX6_allWaiting_2 (by decide) ?_
  refine lv_istore_n (lv' := [(2, .int _), (1, .int _), (0, .ref (q 18))]) hx hb dX6_allWaiting_3 rfl hl (by decide) rfl (fun ls hl => ?_)
  exact w4 _ _ _ _ _ _ _ hw (lv_sub hl [2, 1, 0] rfl) h
def f_X11_count (M : x_M) (a1 : Int32) : Option (Int32 × x_M) := if a1 = (nI 0) then x_gf M 2 3 (fun r67 => some (r67, M)) else if a1 = (nI 1) then x_gf M 6 9 (fun r78 => some (r78, M)) else if a1 = (nI 2) then x_bn (f_X3_allWithdrawn M) (fun r89 M => some (r89, M)) else if a1 = (nI 3) then x_gf M 16 2 (fun r100 => some (r100, M)) else if a1 = (nI 4) then x_gf M 18 8 (fun r111 => some (r111, M)) else if a1 = (nI 5) then x_gf M 18 9 (fun r122 => some (r122, M)) else if a1 = (nI 6) then x_bn (f_X6_allWaiting M) (fun r133 M => some (r133, M)) else if a1 = (nI 7) then x_gf M 27 3 (fun r144 => some (r144, M)) else if a1 = (nI 8) then x_gf M 0 9 (fun r149 => some (r149, M)) else if a1 = (nI 9) then x_gf M 80 3 (fun r157 => some (r157, M)) else if a1 = (nI 10) then x_gf M 1 8 (fun r165 => some (r165, M)) else some ((-1000000001), M)
abbrev rm_X11_count : Room := { frames := 1, cells := 0, slots := 0, locals := 22 }
set_option maxHeartbeats 4000000 in
set_option maxRecDepth 100000 in
theorem c_X11_count {l : Launch} {D : va_G} {cy : Nat → ClassId} {q ad : Nat → Nat} {NC : Nat} {s0 : State} (hq : x_Q q NC s0.heap.size) (hN : 88 ≤ NC) {M : x_M} {a1 : Int32} {z : Int32 × x_M} (h : f_X11_count M a1 = some z) : x_Ci l D cy q ad x_spX NC s0 yX11_count (x_uw yX11_count cX11_count 2 (some .int)) rm_X11_count [.ref (q 0), .int a1] M z.1 z.2 := by
  refine x_meti hq (by decide) (Nat.le_of_ble_eq_true rfl) ?_
  intro p e s m args below meth c ls Q C hret hl hw
  have hx := C.1.1
  have hb := C.1.2.1
  have ho := C.1.2.2.2.1
  have hL := C.1.2.2.2.2
  have hl : lv_has ls 2 [(0, .ref (q 0)), (1, .int a1)] := hl
  unfold f_X11_count at h
  refine lv_iload_n hx hb dX11_count_0 rfl (lv_at hl 1 rfl) ?_
  refine (Decidable.em (a1 = (nI 0))).elim (fun c1_0 => ?_) (fun c1_0 => ?_)
  · rw [if_pos c1_0] at h
    rw [c1_0]
    refine lv_tableIn (off := 59) (tgt := 60) hx hb dX11_count_1 (by decide) (by decide) (by decide) (by decide) ?_
    refine lv_aload_n hx hb dX11_count_60 rfl (lv_at hl 0 rfl) ?_
    refine xh_getr C hw 0 0 sX_0 (x_lt hN rfl) rfl rfl rfl lk_RX11_12 dX11_count_61 ?_
    refine xh_getr C hw 1 0 sX_1 (x_lt hN rfl) rfl rfl rfl lk_RX11_59 dX11_count_64 ?_
    refine xh_geti C hw 2 3 h sX_2 (x_lt hN rfl) rfl rfl rfl lk_RX11_88 dX11_count_67 (fun r67 h => ?_)
    exact hret dX11_count_70 rfl hw h
  rw [if_neg c1_0] at h
  refine (Decidable.em (a1 = (nI 1))).elim (fun c1_1 => ?_) (fun c1_1 => ?_)
  · rw [if_pos c1_1] at h
    rw [c1_1]
    refine lv_tableIn (off := 70) (tgt := 71) hx hb dX11_count_1 (by decide) (by decide) (by decide) (by decide) ?_
    refine lv_aload_n hx hb dX11_count_71 rfl (lv_at hl 0 rfl) ?_
    refine xh_getr C hw 0 0 sX_0 (x_lt hN rfl) rfl rfl rfl lk_RX11_12 dX11_count_72 ?_
    refine xh_getr C hw 1 1 sX_1 (x_lt hN rfl) rfl rfl rfl lk_RX11_123 dX11_count_75 ?_
    refine xh_geti C hw 6 9 h sX_6 (x_lt hN rfl) rfl rfl rfl lk_RX11_265 dX11_count_78 (fun r78 h => ?_)
    exact hret dX11_count_81 rfl hw h
  rw [if_neg c1_1] at h
  refine (Decidable.em (a1 = (nI 2))).elim (fun c1_2 => ?_) (fun c1_2 => ?_)
  · rw [if_pos c1_2] at h
    rw [c1_2]
    refine lv_tableIn (off := 81) (tgt := 82) hx hb dX11_count_1 (by decide) (by decide) (by decide) (by decide) ?_
    refine lv_aload_n hx hb dX11_count_82 rfl (lv_at hl 0 rfl) ?_
    refine xh_getr C hw 0 0 sX_0 (x_lt hN rfl) rfl rfl rfl lk_RX11_12 dX11_count_83 ?_
    refine xh_getr C hw 1 1 sX_1 (x_lt hN rfl) rfl rfl rfl lk_RX11_123 dX11_count_86 ?_
    refine xh_cVi C hw (rest := []) h (fun _ hy => c_X3_allWithdrawn hq hN hy) ml_RX11_334 mv_X3_allWithdrawn sX_6 (x_lt hN rfl) rfl ⟨rfl, rfl, by decide, by decide⟩ rfl hl.1 rfl (Nat.le_of_ble_eq_true rfl) dX11_count_89 (fun H locs r89 M hw h => ?_)
    exact hret dX11_count_92 rfl hw h
  rw [if_neg c1_2] at h
  refine (Decidable.em (a1 = (nI 3))).elim (fun c1_3 => ?_) (fun c1_3 => ?_)
  · rw [if_pos c1_3] at h
    rw [c1_3]
    refine lv_tableIn (off := 92) (tgt := 93) hx hb dX11_count_1 (by decide) (by decide) (by decide) (by decide) ?_
    refine lv_aload_n hx hb dX11_count_93 rfl (lv_at hl 0 rfl) ?_
    refine xh_getr C hw 0 0 sX_0 (x_lt hN rfl) rfl rfl rfl lk_RX11_12 dX11_count_94 ?_
    refine xh_getr C hw 1 2 sX_1 (x_lt hN rfl) rfl rfl rfl lk_RX11_207 dX11_count_97 ?_
    refine xh_geti C hw 16 2 h sX_16 (x_lt hN rfl) rfl rfl rfl lk_RX11_211 dX11_count_100 (fun r100 h => ?_)
    exact hret dX11_count_103 rfl hw h
  rw [if_neg c1_3] at h
  refine (Decidable.em (a1 = (nI 4))).elim (fun c1_4 => ?_) (fun c1_4 => ?_)
  · rw [if_pos c1_4] at h
    rw [c1_4]
    refine lv_tableIn (off := 103) (tgt := 104) hx hb dX11_count_1 (by decide) (by decide) (by decide) (by decide) ?_
    refine lv_aload_n hx hb dX11_count_104 rfl (lv_at hl 0 rfl) ?_
    refine xh_getr C hw 0 0 sX_0 (x_lt hN rfl) rfl rfl rfl lk_RX11_12 dX11_count_105 ?_
    refine xh_getr C hw 1 3 sX_1 (x_lt hN rfl) rfl rfl rfl lk_RX11_225 dX11_count_108 ?_
    refine xh_geti C hw 18 8 h sX_18 (x_lt hN rfl) rfl rfl rfl lk_RX11_338 dX11_count_111 (fun r111 h => ?_)
    exact hret dX11_count_114 rfl hw h
  rw [if_neg c1_4] at h
  refine (Decidable.em (a1 = (nI 5))).elim (fun c1_5 => ?_) (fun c1_5 => ?_)
  · rw [if_pos c1_5] at h
    rw [c1_5]
    refine lv_tableIn (off := 114) (tgt := 115) hx hb dX11_count_1 (by decide) (by decide) (by decide) (by decide) ?_
    refine lv_aload_n hx hb dX11_count_115 rfl (lv_at hl 0 rfl) ?_
    refine xh_getr C hw 0 0 sX_0 (x_lt hN rfl) rfl rfl rfl lk_RX11_12 dX11_count_116 ?_
    refine xh_getr C hw 1 3 sX_1 (x_lt hN rfl) rfl rfl rfl lk_RX11_225 dX11_count_119 ?_
    refine xh_geti C hw 18 9 h sX_18 (x_lt hN rfl) rfl rfl rfl lk_RX11_247 dX11_count_122 (fun r122 h => ?_)
    exact hret dX11_count_125 rfl hw h
  rw [if_neg c1_5] at h
  refine (Decidable.em (a1 = (nI 6))).elim (fun c1_6 => ?_) (fun c1_6 => ?_)
  · rw [if_pos c1_6] at h
    rw [c1_6]
    refine lv_tableIn (off := 125) (tgt := 126) hx hb dX11_count_1 (by decide) (by decide) (by decide) (by decide) ?_
    refine lv_aload_n hx hb dX11_count_126 rfl (lv_at hl 0 rfl) ?_
    refine xh_getr C hw 0 0 sX_0 (x_lt hN rfl) rfl rfl rfl lk_RX11_12 dX11_count_127 ?_
    refine xh_getr C hw 1 3 sX_1 (x_lt hN rfl) rfl rfl rfl lk_RX11_225 dX11_count_130 ?_
    refine xh_cVi C hw (rest := []) h (fun _ hy => c_X6_allWaiting hq hN hy) ml_RX11_341 mv_X6_allWaiting sX_18 (x_lt hN rfl) rfl ⟨rfl, rfl, by decide, by decide⟩ rfl hl.1 rfl (Nat.le_of_ble_eq_true rfl) dX11_count_133 (fun H locs r133 M hw h => ?_)
    exact hret dX11_count_136 rfl hw h
  rw [if_neg c1_6] at h
  refine (Decidable.em (a1 = (nI 7))).elim (fun c1_7 => ?_) (fun c1_7 => ?_)
  · rw [if_pos c1_7] at h
    rw [c1_7]
    refine lv_tableIn (off := 136) (tgt := 137) hx hb dX11_count_1 (by decide) (by decide) (by decide) (by decide) ?_
    refine lv_aload_n hx hb dX11_count_137 rfl (lv_at hl 0 rfl) ?_
    refine xh_getr C hw 0 0 sX_0 (x_lt hN rfl) rfl rfl rfl lk_RX11_12 dX11_count_138 ?_
    refine xh_getr C hw 1 4 sX_1 (x_lt hN rfl) rfl rfl rfl lk_RX11_289 dX11_count_141 ?_
    refine xh_geti C hw 27 3 h sX_27 (x_lt hN rfl) rfl rfl rfl lk_RX11_297 dX11_count_144 (fun r144 h => ?_)
    exact hret dX11_count_147 rfl hw h
  rw [if_neg c1_7] at h
  refine (Decidable.em (a1 = (nI 8))).elim (fun c1_8 => ?_) (fun c1_8 => ?_)
  · rw [if_pos c1_8] at h
    rw [c1_8]
    refine lv_tableIn (off := 147) (tgt := 148) hx hb dX11_count_1 (by decide) (by decide) (by decide) (by decide) ?_
    refine lv_aload_n hx hb dX11_count_148 rfl (lv_at hl 0 rfl) ?_
    refine xh_geti C hw 0 9 h sX_0 (x_lt hN rfl) rfl rfl rfl lk_RX11_309 dX11_count_149 (fun r149 h => ?_)
    exact hret dX11_count_152 rfl hw h
  rw [if_neg c1_8] at h
  refine (Decidable.em (a1 = (nI 9))).elim (fun c1_9 => ?_) (fun c1_9 => ?_)
  · rw [if_pos c1_9] at h
    rw [c1_9]
    refine lv_tableIn (off := 152) (tgt := 153) hx hb dX11_count_1 (by decide) (by decide) (by decide) (by decide) ?_
    refine lv_aload_n hx hb dX11_count_153 rfl (lv_at hl 0 rfl) ?_
    refine xh_getr C hw 0 4 sX_0 (x_lt hN rfl) rfl rfl rfl lk_RX11_36 dX11_count_154 ?_
    refine xh_geti C hw 80 3 h sX_80 (x_lt hN rfl) rfl rfl rfl lk_RX11_189 dX11_count_157 (fun r157 h => ?_)
    exact hret dX11_count_160 rfl hw h
  rw [if_neg c1_9] at h
  refine (Decidable.em (a1 = (nI 10))).elim (fun c1_10 => ?_) (fun c1_10 => ?_)
  · rw [if_pos c1_10] at h
    rw [c1_10]
    refine lv_tableIn (off := 160) (tgt := 161) hx hb dX11_count_1 (by decide) (by decide) (by decide) (by decide) ?_
    refine lv_aload_n hx hb dX11_count_161 rfl (lv_at hl 0 rfl) ?_
    refine xh_getr C hw 0 0 sX_0 (x_lt hN rfl) rfl rfl rfl lk_RX11_12 dX11_count_162 ?_
    refine xh_geti C hw 1 8 h sX_1 (x_lt hN rfl) rfl rfl rfl lk_RX11_97 dX11_count_165 (fun r165 h => ?_)
    exact hret dX11_count_168 rfl hw h
  rw [if_neg c1_10] at h
  refine lv_tableOut (tgt := 169) hx hb dX11_count_1 (by have e0 := lv_neT c1_0 (show ((nI 0) : Int32).toInt = 0 by decide); have e1 := lv_neT c1_1 (show ((nI 1) : Int32).toInt = 1 by decide); have e2 := lv_neT c1_2 (show ((nI 2) : Int32).toInt = 2 by decide); have e3 := lv_neT c1_3 (show ((nI 3) : Int32).toInt = 3 by decide); have e4 := lv_neT c1_4 (show ((nI 4) : Int32).toInt = 4 by decide); have e5 := lv_neT c1_5 (show ((nI 5) : Int32).toInt = 5 by decide); have e6 := lv_neT c1_6 (show ((nI 6) : Int32).toInt = 6 by decide); have e7 := lv_neT c1_7 (show ((nI 7) : Int32).toInt = 7 by decide); have e8 := lv_neT c1_8 (show ((nI 8) : Int32).toInt = 8 by decide); have e9 := lv_neT c1_9 (show ((nI 9) : Int32).toInt = 9 by decide); have e10 := lv_neT c1_10 (show ((nI 10) : Int32).toInt = 10 by decide); omega) (by decide) ?_
  refine lv_ldc hx hb ho (hL _ kc_RX11_58) dX11_count_169 ?_
  exact hret dX11_count_171 rfl hw h
def f_X9_add (NC : Nat) (M : x_M) (a1 : Int32) : Option (Unit × x_M) := x_gf M 16 2 (fun r1 => if (nI 4) ≤ r1 then some ((), M) else x_gf M 16 2 (fun r13 => x_tk NC a1 (x_wr 4 M 17 r13 a1 (fun M => x_gf M 16 2 (fun r20 => x_pf M 16 2 (r20 + (nI 1)) (fun M => some ((), M)))))))
abbrev rm_X9_add : Room := { frames := 0, cells := 0, slots := 0, locals := 0 }
set_option maxHeartbeats 4000000 in
set_option maxRecDepth 100000 in
theorem c_X9_add {l : Launch} {D : va_G} {cy : Nat → ClassId} {q ad : Nat → Nat} {NC : Nat} {s0 : State} (hq : x_Q q NC s0.heap.size) (hN : 88 ≤ NC) {M : x_M} {a1 : Int32} {z : Unit × x_M} (h : f_X9_add NC M a1 = some z) : x_Cv l D cy q ad x_spX NC s0 yX9_add (x_uw yX9_add cX9_add 2 none) rm_X9_add [.ref (q 16), .ref (q ((a1).toNatClampNeg - 1))] M z.2 := by
  refine x_metv hq (by decide) (Nat.le_of_ble_eq_true rfl) ?_
  intro p e s m args below meth c ls Q C hret hl hw
  have hx := C.1.1
  have hb := C.1.2.1
  have ho := C.1.2.2.2.1
  have hL := C.1.2.2.2.2
  have hl : lv_has ls 2 [(0, .ref (q 16)), (1, .ref (q ((a1).toNatClampNeg - 1)))] := hl
  unfold f_X9_add at h
  refine lv_aload_n hx hb dX9_add_0 rfl (lv_at hl 0 rfl) ?_
  refine xh_geti C hw 16 2 h sX_16 (x_lt hN rfl) rfl rfl rfl lk_RX9_24 dX9_add_1 (fun r1 h => ?_)
  refine lv_iconst (v := (nI 4)) hx hb dX9_add_4 (by decide) ?_
  refine x_icmp_ge (tgt := 28) hx hb h dX9_add_5 (by decide) (fun h => ?_) (fun h => ?_)
  · exact hret dX9_add_28 hw h
  · refine lv_aload_n hx hb dX9_add_8 rfl (lv_at hl 0 rfl) ?_
    refine xh_getr C hw 16 0 sX_16 (x_lt hN rfl) rfl rfl rfl lk_RX9_11 dX9_add_9 ?_
    refine lv_aload_n hx hb dX9_add_12 rfl (lv_at hl 0 rfl) ?_
    refine xh_geti C hw 16 2 h sX_16 (x_lt hN rfl) rfl rfl rfl lk_RX9_24 dX9_add_13 (fun r13 h => ?_)
    refine lv_aload_n hx hb dX9_add_16 rfl (lv_at hl 1 rfl) ?_
    refine xh_tast C hw 17 4 h sX_17 (x_lt hN rfl) dX9_add_17 (fun H locs M hw h => ?_)
    refine lv_aload_n hx hb dX9_add_18 rfl (lv_at hl 0 rfl) ?_
    refine lv_dup hx hb dX9_add_19 rfl ?_
    refine xh_geti C hw 16 2 h sX_16 (x_lt hN rfl) rfl rfl rfl lk_RX9_24 dX9_add_20 (fun r20 h => ?_)
    refine lv_iconst (v := (nI 1)) hx hb dX9_add_23 (by decide) ?_
    refine lv_iadd hx hb dX9_add_24 ?_
    refine xh_puti C hw 16 2 h sX_16 (x_lt hN rfl) rfl rfl rfl lk_RX9_24 rfl rfl dX9_add_25 (fun H locs M hw h => ?_)
    exact hret dX9_add_28 hw h
