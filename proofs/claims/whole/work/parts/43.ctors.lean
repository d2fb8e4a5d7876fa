def x_oX8 (cy : Nat → ClassId) (d1 : Int32) (x2 : Nat) (x3 : Nat) (a : Nat → Nat) : va_W := [((a 0), .inr (8, [.int d1, .ref x2, .ref x3]))]
abbrev rm_X8_init : Room := { frames := 1, cells := 0, slots := 0, locals := 40 }
set_option maxHeartbeats 4000000 in
set_option maxRecDepth 100000 in
theorem c_X8_init {l : Launch} {D : va_G} {cy : Nat → ClassId} {s0 : State} (d1 : Int32) (x2 : Nat) (x3 : Nat) {h0 : Nat} : x_Cn l D cy s0 yX8_init (x_uw yX8_init cX8_init 4 none) rm_X8_init h0 [.int d1, .ref x2, .ref x3] [(h0, .inr (8, [.int 0, .null, .null]))] (x_oX8 cy d1 x2 x3) 0 0 := by
  refine x_metc (by decide) rfl (Nat.le_of_ble_eq_true rfl) ?_
  intro p e s m args below meth c ls Q A C hA hA0 hAi hret hl hP hD hS
  have hx := C.1.1
  have hb := C.1.2.1
  have ho := C.1.2.2.2.1
  have hL := C.1.2.2.2.2
  have hl : lv_has ls 4 [(0, .ref h0), (1, .int d1), (2, .ref x2), (3, .ref x3)] := hl
  have hS : va_S A s.heap s.heap [] := hS
  refine lv_aload_n hx hb dX8_init_0 rfl (lv_at hl 0 rfl) ?_
  refine x_objI C (rest := []) oi_RX8_1 hl.1 dX8_init_1 ⟨by decide, Nat.le_of_ble_eq_true rfl⟩ ?_
  refine lv_aload_n hx hb dX8_init_4 rfl (lv_at hl 0 rfl) ?_
  refine lv_iload_n hx hb dX8_init_5 rfl (lv_at hl 1 rfl) ?_
  refine x_putF C hP hD hS 0 0 (a := h0) (ci := 8) (fs := [.int 0, .null, .null]) (v := .int d1) rfl rfl rfl lk_RX8_7 rfl rfl (ty := .int) (by decide +kernel) rfl rfl rfl dX8_init_6 (fun H locs hP hD hS => ?_)
  have hP : va_P D vwCl ((h0, .inr (8, [.int d1, .null, .null])) :: []) _ := hP
  have hD : va_D A ((h0, .inr (8, [.int d1, .null, .null])) :: []) := hD
  refine lv_aload_n hx hb dX8_init_9 rfl (lv_at hl 0 rfl) ?_
  refine lv_aload_n hx hb dX8_init_10 rfl (lv_at hl 2 rfl) ?_
  refine x_putF C hP hD hS 0 1 (a := h0) (ci := 8) (fs := [.int d1, .null, .null]) (v := .ref x2) rfl rfl rfl lk_RX8_13 rfl rfl (ty := (.array .int)) (by decide +kernel) rfl rfl rfl dX8_init_11 (fun H locs hP hD hS => ?_)
  have hP : va_P D vwCl ((h0, .inr (8, [.int d1, .ref x2, .null])) :: []) _ := hP
  have hD : va_D A ((h0, .inr (8, [.int d1, .ref x2, .null])) :: []) := hD
  refine lv_aload_n hx hb dX8_init_14 rfl (lv_at hl 0 rfl) ?_
  refine lv_aload_n hx hb dX8_init_15 rfl (lv_at hl 3 rfl) ?_
  refine x_putF C hP hD hS 0 2 (a := h0) (ci := 8) (fs := [.int d1, .ref x2, .null]) (v := .ref x3) rfl rfl rfl lk_RX8_17 rfl rfl (ty := (.array .int)) (by decide +kernel) rfl rfl rfl dX8_init_16 (fun H locs hP hD hS => ?_)
  have hP : va_P D vwCl ((h0, .inr (8, [.int d1, .ref x2, .ref x3])) :: []) _ := hP
  have hD : va_D A ((h0, .inr (8, [.int d1, .ref x2, .ref x3])) :: []) := hD
  have hPz := hP.sub (ws' := x_oX8 cy d1 x2 x3 (fun k => ([h0] : List Nat).getD k 0)) [0] rfl
  have hDz := hD.sub (ws' := x_oX8 cy d1 x2 x3 (fun k => ([h0] : List Nat).getD k 0)) [0] (by decide) rfl
  exact hret (fun k => ([h0] : List Nat).getD k 0) dX8_init_19 rfl hPz hDz hS
def x_oX9 (cy : Nat → ClassId) (ad : Nat → Nat) (a : Nat → Nat) : va_W := [((a 0), .inr (9, [.ref (a 1), .ref (a 2), .int 0])), ((a 1), .inl (cy 4, 4, .inr (.inr (.inr (.inr (fun _ => none)))))), ((a 2), .inr (8, [.int (nI 0), .ref (a 3), .ref (a 4)])), ((a 3), .inl (cy 0, 4, .inl (upd (upd (upd (upd (fun _ => 0) 0 (-108)) 1 (nI 720)) 2 (-108)) 3 (nI 0)))), ((a 4), .inl (cy 0, 4, .inl (upd (upd (upd (upd (fun _ => 0) 0 (nI 1)) 1 (nI 2)) 2 (nI 3)) 3 (nI 4))))]
abbrev rm_X9_init : Room := { frames := 2, cells := 4, slots := 15, locals := 63 }
set_option maxHeartbeats 4000000 in
set_option maxRecDepth 100000 in
theorem c_X9_init {l : Launch} {D : va_G} {cy : Nat → ClassId} {s0 : State} {ad adV : Nat → Nat} (hz : x_Z s0 ad adV) {h0 : Nat} : x_Cn l D cy s0 yX9_init (x_uw yX9_init cX9_init 1 none) rm_X9_init h0 [] [(h0, .inr (9, [.null, .null, .int 0]))] (x_oX9 cy ad) 4 15 := by
  refine x_metc (by decide) rfl (Nat.le_of_ble_eq_true rfl) ?_
  intro p e s m args below meth c ls Q A C hA hA0 hAi hret hl hP hD hS
  have hx := C.1.1
  have hb := C.1.2.1
  have ho := C.1.2.2.2.1
  have hL := C.1.2.2.2.2
  have hl : lv_has ls 1 [(0, .ref h0)] := hl
  have hS : va_S A s.heap s.heap [] := hS
  refine lv_aload_n hx hb dX9_init_0 rfl (lv_at hl 0 rfl) ?_
  refine x_objI C (rest := []) oi_RX9_3 hl.1 dX9_init_1 ⟨by decide, Nat.le_of_ble_eq_true rfl⟩ ?_
  refine lv_aload_n hx hb dX9_init_4 rfl (lv_at hl 0 rfl) ?_
  refine lv_iconst (v := (nI 4)) hx hb dX9_init_5 (by decide) ?_
  refine x_newq C hP hD hS hA cl_RX9_9 (va_AO.moved C.2.1.2.2.1.alike hz.2.2.2.2.2) (N' := 4) (by decide) (by decide) (by decide) (by decide) (by decide) dX9_init_6 (fun q6 H hP hD hS => ?_)
  refine x_putF C hP hD hS 1 0 (a := h0) (ci := 9) (fs := [.null, .null, .int 0]) (v := .ref q6) rfl rfl rfl lk_RX9_11 rfl rfl (ty := (.array (.object "MilesHall$Terms"))) (by decide +kernel) rfl rfl rfl dX9_init_9 (fun H locs hP hD hS => ?_)
  have hP : va_P D vwCl ((q6, .inl (cy 4, 4, .inr (.inr (.inr (.inr (fun _ => none)))))) :: (h0, .inr (9, [.ref q6, .null, .int 0])) :: []) _ := hP
  have hD : va_D A ((q6, .inl (cy 4, 4, .inr (.inr (.inr (.inr (fun _ => none)))))) :: (h0, .inr (9, [.ref q6, .null, .int 0])) :: []) := hD
  refine lv_aload_n hx hb dX9_init_12 rfl (lv_at hl 0 rfl) ?_
  refine x_newo C hP hD hS hA (fs := [.int 0, .null, .null]) nw_RX9_9 (ci := 8) rfl tyX8_ok (fun j hj => by rcases (show j = 0 ∨ j = 1 ∨ j = 2 by omega) with rfl | rfl | rfl <;> rfl) (by decide) (by decide) dX9_init_13 (fun q13 H hP hD hS => ?_)
  refine lv_dup hx hb dX9_init_16 rfl ?_
  refine lv_iconst (v := (nI 0)) hx hb dX9_init_17 (by decide) ?_
  refine lv_iconst (v := (nI 4)) hx hb dX9_init_18 (by decide) ?_
  refine x_newa C hP hD hS hA 0 (N' := 4) wa_int rfl rfl rfl (by decide) (by decide) (by decide) (by decide) (by decide) dX9_init_19 (fun q19 H hP hD hS => ?_)
  refine lv_dup hx hb dX9_init_21 rfl ?_
  refine lv_iconst (v := (nI 0)) hx hb dX9_init_22 (by decide) ?_
  refine lv_bipush (v := (-108)) hx hb dX9_init_23 (by decide) ?_
  refine x_iastL C hP hD hS 0 rfl (j := 0) (by decide) (by unfold vp_in; decide) dX9_init_25 (fun H locs hP hD hS => ?_)
  have hP : va_P D vwCl ((q19, .inl (cy 0, 4, .inl (upd (fun _ => 0) 0 (-108)))) :: (q13, .inr (8, [.int 0, .null, .null])) :: (q6, .inl (cy 4, 4, .inr (.inr (.inr (.inr (fun _ => none)))))) :: (h0, .inr (9, [.ref q6, .null, .int 0])) :: []) _ := hP
  have hD : va_D A ((q19, .inl (cy 0, 4, .inl (upd (fun _ => 0) 0 (-108)))) :: (q13, .inr (8, [.int 0, .null, .null])) :: (q6, .inl (cy 4, 4, .inr (.inr (.inr (.inr (fun _ => none)))))) :: (h0, .inr (9, [.ref q6, .null, .int 0])) :: []) := hD
  refine lv_dup hx hb dX9_init_26 rfl ?_
  refine lv_iconst (v := (nI 1)) hx hb dX9_init_27 (by decide) ?_
  refine lv_sipush (v := (nI 720)) hx hb dX9_init_28 (by decide) ?_
  refine x_iastL C hP hD hS 0 rfl (j := 1) (by decide) (by unfold vp_in; decide) dX9_init_31 (fun H locs hP hD hS => ?_)
  have hP : va_P D vwCl ((q19, .inl (cy 0, 4, .inl (upd (upd (fun _ => 0) 0 (-108)) 1 (nI 720)))) :: (q13, .inr (8, [.int 0, .null, .null])) :: (q6, .inl (cy 4, 4, .inr (.inr (.inr (.inr (fun _ => none)))))) :: (h0, .inr (9, [.ref q6, .null, .int 0])) :: []) _ := hP
  have hD : va_D A ((q19, .inl (cy 0, 4, .inl (upd (upd (fun _ => 0) 0 (-108)) 1 (nI 720)))) :: (q13, .inr (8, [.int 0, .null, .null])) :: (q6, .inl (cy 4, 4, .inr (.inr (.inr (.inr (fun _ => none)))))) :: (h0, .inr (9, [.ref q6, .null, .int 0])) :: []) := hD
  refine lv_dup hx hb dX9_init_32 rfl ?_
  refine lv_iconst (v := (nI 2)) hx hb dX9_init_33 (by decide) ?_
  refine lv_bipush (v := (-108)) hx hb dX9_init_34 (by decide) ?_
  refine x_iastL C hP hD hS 0 rfl (j := 2) (by decide) (by unfold vp_in; decide) dX9_init_36 (fun H locs hP hD hS => ?_)
  have hP : va_P D vwCl ((q19, .inl (cy 0, 4, .inl (upd (upd (upd (fun _ => 0) 0 (-108)) 1 (nI 720)) 2 (-108)))) :: (q13, .inr (8, [.int 0, .null, .null])) :: (q6, .inl (cy 4, 4, .inr (.inr (.inr (.inr (fun _ => none)))))) :: (h0, .inr (9, [.ref q6, .null, .int 0])) :: []) _ := hP
  have hD : va_D A ((q19, .inl (cy 0, 4, .inl (upd (upd (upd (fun _ => 0) 0 (-108)) 1 (nI 720)) 2 (-108)))) :: (q13, .inr (8, [.int 0, .null, .null])) :: (q6, .inl (cy 4, 4, .inr (.inr (.inr (.inr (fun _ => none)))))) :: (h0, .inr (9, [.ref q6, .null, .int 0])) :: []) := hD
  refine lv_dup hx hb dX9_init_37 rfl ?_
  refine lv_iconst (v := (nI 3)) hx hb dX9_init_38 (by decide) ?_
  refine lv_iconst (v := (nI 0)) hx hb dX9_init_39 (by decide) ?_
  refine x_iastL C hP hD hS 0 rfl (j := 3) (by decide) (by unfold vp_in; decide) dX9_init_40 (fun H locs hP hD hS => ?_)
  have hP : va_P D vwCl ((q19, .inl (cy 0, 4, .inl (upd (upd (upd (upd (fun _ => 0) 0 (-108)) 1 (nI 720)) 2 (-108)) 3 (nI 0)))) :: (q13, .inr (8, [.int 0, .null, .null])) :: (q6, .inl (cy 4, 4, .inr (.inr (.inr (.inr (fun _ => none)))))) :: (h0, .inr (9, [.ref q6, .null, .int 0])) :: []) _ := hP
  have hD : va_D A ((q19, .inl (cy 0, 4, .inl (upd (upd (upd (upd (fun _ => 0) 0 (-108)) 1 (nI 720)) 2 (-108)) 3 (nI 0)))) :: (q13, .inr (8, [.int 0, .null, .null])) :: (q6, .inl (cy 4, 4, .inr (.inr (.inr (.inr (fun _ => none)))))) :: (h0, .inr (9, [.ref q6, .null, .int 0])) :: []) := hD
  refine lv_iconst (v := (nI 4)) hx hb dX9_init_41 (by decide) ?_
  refine x_newa C hP hD hS hA 0 (N' := 4) wa_int rfl rfl rfl (by decide) (by decide) (by decide) (by decide) (by decide) dX9_init_42 (fun q42 H hP hD hS => ?_)
  refine lv_dup hx hb dX9_init_44 rfl ?_
  refine lv_iconst (v := (nI 0)) hx hb dX9_init_45 (by decide) ?_
  refine lv_iconst (v := (nI 1)) hx hb dX9_init_46 (by decide) ?_
  refine x_iastL C hP hD hS 0 rfl (j := 0) (by decide) (by unfold vp_in; decide) dX9_init_47 (fun H locs hP hD hS => ?_)
  have hP : va_P D vwCl ((q42, .inl (cy 0, 4, .inl (upd (fun _ => 0) 0 (nI 1)))) :: (q19, .inl (cy 0, 4, .inl (upd (upd (upd (upd (fun _ => 0) 0 (-108)) 1 (nI 720)) 2 (-108)) 3 (nI 0)))) :: (q13, .inr (8, [.int 0, .null, .null])) :: (q6, .inl (cy 4, 4, .inr (.inr (.inr (.inr (fun _ => none)))))) :: (h0, .inr (9, [.ref q6, .null, .int 0])) :: []) _ := hP
  have hD : va_D A ((q42, .inl (cy 0, 4, .inl (upd (fun _ => 0) 0 (nI 1)))) :: (q19, .inl (cy 0, 4, .inl (upd (upd (upd (upd (fun _ => 0) 0 (-108)) 1 (nI 720)) 2 (-108)) 3 (nI 0)))) :: (q13, .inr (8, [.int 0, .null, .null])) :: (q6, .inl (cy 4, 4, .inr (.inr (.inr (.inr (fun _ => none)))))) :: (h0, .inr (9, [.ref q6, .null, .int 0])) :: []) := hD
  refine lv_dup hx hb dX9_init_48 rfl ?_
  refine lv_iconst (v := (nI 1)) hx hb dX9_init_49 (by decide) ?_
  refine lv_iconst (v := (nI 2)) hx hb dX9_init_50 (by decide) ?_
  refine x_iastL C hP hD hS 0 rfl (j := 1) (by decide) (by unfold vp_in; decide) dX9_init_51 (fun H locs hP hD hS => ?_)
  have hP : va_P D vwCl ((q42, .inl (cy 0, 4, .inl (upd (upd (fun _ => 0) 0 (nI 1)) 1 (nI 2)))) :: (q19, .inl (cy 0, 4, .inl (upd (upd (upd (upd (fun _ => 0) 0 (-108)) 1 (nI 720)) 2 (-108)) 3 (nI 0)))) :: (q13, .inr (8, [.int 0, .null, .null])) :: (q6, .inl (cy 4, 4, .inr (.inr (.inr (.inr (fun _ => none)))))) :: (h0, .inr (9, [.ref q6, .null, .int 0])) :: []) _ := hP
  have hD : va_D A ((q42, .inl (cy 0, 4, .inl (upd (upd (fun _ => 0) 0 (nI 1)) 1 (nI 2)))) :: (q19, .inl (cy 0, 4, .inl (upd (upd (upd (upd (fun _ => 0) 0 (-108)) 1 (nI 720)) 2 (-108)) 3 (nI 0)))) :: (q13, .inr (8, [.int 0, .null, .null])) :: (q6, .inl (cy 4, 4, .inr (.inr (.inr (.inr (fun _ => none)))))) :: (h0, .inr (9, [.ref q6, .null, .int 0])) :: []) := hD
  refine lv_dup hx hb dX9_init_52 rfl ?_
  refine lv_iconst (v := (nI 2)) hx hb dX9_init_53 (by decide) ?_
  refine lv_iconst (v := (nI 3)) hx hb dX9_init_54 (by decide) ?_
  refine x_iastL C hP hD hS 0 rfl (j := 2) (by decide) (by unfold vp_in; decide) dX9_init_55 (fun H locs hP hD hS => ?_)
  have hP : va_P D vwCl ((q42, .inl (cy 0, 4, .inl (upd (upd (upd (fun _ => 0) 0 (nI 1)) 1 (nI 2)) 2 (nI 3)))) :: (q19, .inl (cy 0, 4, .inl (upd (upd (upd (upd (fun _ => 0) 0 (-108)) 1 (nI 720)) 2 (-108)) 3 (nI 0)))) :: (q13, .inr (8, [.int 0, .null, .null])) :: (q6, .inl (cy 4, 4, .inr (.inr (.inr (.inr (fun _ => none)))))) :: (h0, .inr (9, [.ref q6, .null, .int 0])) :: []) _ := hP
  have hD : va_D A ((q42, .inl (cy 0, 4, .inl (upd (upd (upd (fun _ => 0) 0 (nI 1)) 1 (nI 2)) 2 (nI 3)))) :: (q19, .inl (cy 0, 4, .inl (upd (upd (upd (upd (fun _ => 0) 0 (-108)) 1 (nI 720)) 2 (-108)) 3 (nI 0)))) :: (q13, .inr (8, [.int 0, .null, .null])) :: (q6, .inl (cy 4, 4, .inr (.inr (.inr (.inr (fun _ => none)))))) :: (h0, .inr (9, [.ref q6, .null, .int 0])) :: []) := hD
  refine lv_dup hx hb dX9_init_56 rfl ?_
  refine lv_iconst (v := (nI 3)) hx hb dX9_init_57 (by decide) ?_
  refine lv_iconst (v := (nI 4)) hx hb dX9_init_58 (by decide) ?_
  refine x_iastL C hP hD hS 0 rfl (j := 3) (by decide) (by unfold vp_in; decide) dX9_init_59 (fun H locs hP hD hS => ?_)
  have hP : va_P D vwCl ((q42, .inl (cy 0, 4, .inl (upd (upd (upd (upd (fun _ => 0) 0 (nI 1)) 1 (nI 2)) 2 (nI 3)) 3 (nI 4)))) :: (q19, .inl (cy 0, 4, .inl (upd (upd (upd (upd (fun _ => 0) 0 (-108)) 1 (nI 720)) 2 (-108)) 3 (nI 0)))) :: (q13, .inr (8, [.int 0, .null, .null])) :: (q6, .inl (cy 4, 4, .inr (.inr (.inr (.inr (fun _ => none)))))) :: (h0, .inr (9, [.ref q6, .null, .int 0])) :: []) _ := hP
  have hD : va_D A ((q42, .inl (cy 0, 4, .inl (upd (upd (upd (upd (fun _ => 0) 0 (nI 1)) 1 (nI 2)) 2 (nI 3)) 3 (nI 4)))) :: (q19, .inl (cy 0, 4, .inl (upd (upd (upd (upd (fun _ => 0) 0 (-108)) 1 (nI 720)) 2 (-108)) 3 (nI 0)))) :: (q13, .inr (8, [.int 0, .null, .null])) :: (q6, .inl (cy 4, 4, .inr (.inr (.inr (.inr (fun _ => none)))))) :: (h0, .inr (9, [.ref q6, .null, .int 0])) :: []) := hD
  obtain ⟨hP, hD⟩ := x_perm (List.perm_middle (l₁ := [(q42, .inl (cy 0, 4, .inl (upd (upd (upd (upd (fun _ => 0) 0 (nI 1)) 1 (nI 2)) 2 (nI 3)) 3 (nI 4)))), (q19, .inl (cy 0, 4, .inl (upd (upd (upd (upd (fun _ => 0) 0 (-108)) 1 (nI 720)) 2 (-108)) 3 (nI 0))))])) hP hD
  have hP : va_P D vwCl ((q13, .inr (8, [.int 0, .null, .null])) :: (q42, .inl (cy 0, 4, .inl (upd (upd (upd (upd (fun _ => 0) 0 (nI 1)) 1 (nI 2)) 2 (nI 3)) 3 (nI 4)))) :: (q19, .inl (cy 0, 4, .inl (upd (upd (upd (upd (fun _ => 0) 0 (-108)) 1 (nI 720)) 2 (-108)) 3 (nI 0)))) :: (q6, .inl (cy 4, 4, .inr (.inr (.inr (.inr (fun _ => none)))))) :: (h0, .inr (9, [.ref q6, .null, .int 0])) :: []) _ := hP
  have hD : va_D A ((q13, .inr (8, [.int 0, .null, .null])) :: (q42, .inl (cy 0, 4, .inl (upd (upd (upd (upd (fun _ => 0) 0 (nI 1)) 1 (nI 2)) 2 (nI 3)) 3 (nI 4)))) :: (q19, .inl (cy 0, 4, .inl (upd (upd (upd (upd (fun _ => 0) 0 (-108)) 1 (nI 720)) 2 (-108)) 3 (nI 0)))) :: (q6, .inl (cy 4, 4, .inr (.inr (.inr (.inr (fun _ => none)))))) :: (h0, .inr (9, [.ref q6, .null, .int 0])) :: []) := hD
  refine x_ctor C.1 C.2.1 (rest := [_, _]) hP hD hS hA hA0 (c_X8_init (nI 0) q19 q42) (Or.inl (x_mem1 123 (by decide +kernel))) mi_X8_init (n := 3) (by decide +kernel) rfl ⟨rfl, rfl, by decide, by decide⟩ rfl hl.1 rfl (Nat.le_of_ble_eq_true rfl) dX9_init_60 ⟨by decide, by decide⟩ (fun a60 Hn locsn ea hPn hDn hSn => ?_)
  clear hP hD hS
  subst ea
  have hP := hPn
  have hD := hDn
  have hS := hSn
  clear hPn hDn hSn
  refine x_putF C hP hD hS 4 1 (a := h0) (ci := 9) (fs := [.ref q6, .null, .int 0]) (v := .ref (a60 0)) rfl rfl rfl lk_RX9_20 rfl rfl (ty := (.object "MilesHall$Terms")) (by decide +kernel) rfl rfl rfl dX9_init_63 (fun H locs hP hD hS => ?_)
  have hP : va_P D vwCl (x_oX8 cy (nI 0) q19 q42 a60 ++ ((q42, .inl (cy 0, 4, .inl (upd (upd (upd (upd (fun _ => 0) 0 (nI 1)) 1 (nI 2)) 2 (nI 3)) 3 (nI 4)))) :: (q19, .inl (cy 0, 4, .inl (upd (upd (upd (upd (fun _ => 0) 0 (-108)) 1 (nI 720)) 2 (-108)) 3 (nI 0)))) :: (q6, .inl (cy 4, 4, .inr (.inr (.inr (.inr (fun _ => none)))))) :: (h0, .inr (9, [.ref q6, .ref (a60 0), .int 0])) :: [])) _ := hP
  have hD : va_D A (x_oX8 cy (nI 0) q19 q42 a60 ++ ((q42, .inl (cy 0, 4, .inl (upd (upd (upd (upd (fun _ => 0) 0 (nI 1)) 1 (nI 2)) 2 (nI 3)) 3 (nI 4)))) :: (q19, .inl (cy 0, 4, .inl (upd (upd (upd (upd (fun _ => 0) 0 (-108)) 1 (nI 720)) 2 (-108)) 3 (nI 0)))) :: (q6, .inl (cy 4, 4, .inr (.inr (.inr (.inr (fun _ => none)))))) :: (h0, .inr (9, [.ref q6, .ref (a60 0), .int 0])) :: [])) := hD
  have hPz := hP.sub (ws' := x_oX9 cy ad (fun k => ([h0, q6, (a60 0), q19, q42] : List Nat).getD k 0)) [4, 3, 0, 2, 1] rfl
  have hDz := hD.sub (ws' := x_oX9 cy ad (fun k => ([h0, q6, (a60 0), q19, q42] : List Nat).getD k 0)) [4, 3, 0, 2, 1] (by decide) rfl
  exact hret (fun k => ([h0, q6, (a60 0), q19, q42] : List Nat).getD k 0) dX9_init_66 rfl hPz hDz hS
def x_oX4 (cy : Nat → ClassId) (a : Nat → Nat) : va_W := [((a 0), .inr (4, [.ref (a 1), .ref (a 2), .ref (a 3), .int 0])), ((a 1), .inl (cy 0, 10, .inl (fun _ => 0))), ((a 2), .inl (cy 0, 10, .inl (fun _ => 0))), ((a 3), .inl (cy 0, 10, .inl (fun _ => 0)))]
abbrev rm_X4_init : Room := { frames := 1, cells := 3, slots := 30, locals := 40 }
set_option maxHeartbeats 4000000 in
set_option maxRecDepth 100000 in
theorem c_X4_init {l : Launch} {D : va_G} {cy : Nat → ClassId} {s0 : State} {h0 : Nat} : x_Cn l D cy s0 yX4_init (x_uw yX4_init cX4_init 1 none) rm_X4_init h0 [] [(h0, .inr (4, [.null, .null, .null, .int 0]))] (x_oX4 cy) 3 30 := by
  refine x_metc (by decide) rfl (Nat.le_of_ble_eq_true rfl) ?_
  intro p e s m args below meth c ls Q A C hA hA0 hAi hret hl hP hD hS
  have hx := C.1.1
  have hb := C.1.2.1
  have ho := C.1.2.2.2.1
  have hL := C.1.2.2.2.2
  have hl : lv_has ls 1 [(0, .ref h0)] := hl
  have hS : va_S A s.heap s.heap [] := hS
  refine lv_aload_n hx hb dX4_init_0 rfl (lv_at hl 0 rfl) ?_
  refine x_objI C (rest := []) oi_RX4_3 hl.1 dX4_init_1 ⟨by decide, Nat.le_of_ble_eq_true rfl⟩ ?_
  refine lv_aload_n hx hb dX4_init_4 rfl (lv_at hl 0 rfl) ?_
  refine lv_bipush (v := (nI 10)) hx hb dX4_init_5 (by decide) ?_
  refine x_newa C hP hD hS hA 0 (N' := 10) wa_int rfl rfl rfl (by decide) (by decide) (by decide) (by decide) (by decide) dX4_init_7 (fun q7 H hP hD hS => ?_)
  refine x_putF C hP hD hS 1 0 (a := h0) (ci := 4) (fs := [.null, .null, .null, .int 0]) (v := .ref q7) rfl rfl rfl lk_RX4_9 rfl rfl (ty := (.array .int)) (by decide +kernel) rfl rfl rfl dX4_init_9 (fun H locs hP hD hS => ?_)
  have hP : va_P D vwCl ((q7, .inl (cy 0, 10, .inl (fun _ => 0))) :: (h0, .inr (4, [.ref q7, .null, .null, .int 0])) :: []) _ := hP
  have hD : va_D A ((q7, .inl (cy 0, 10, .inl (fun _ => 0))) :: (h0, .inr (4, [.ref q7, .null, .null, .int 0])) :: []) := hD
  refine lv_aload_n hx hb dX4_init_12 rfl (lv_at hl 0 rfl) ?_
  refine lv_bipush (v := (nI 10)) hx hb dX4_init_13 (by decide) ?_
  refine x_newa C hP hD hS hA 0 (N' := 10) wa_int rfl rfl rfl (by decide) (by decide) (by decide) (by decide) (by decide) dX4_init_15 (fun q15 H hP hD hS => ?_)
  refine x_putF C hP hD hS 2 1 (a := h0) (ci := 4) (fs := [.ref q7, .null, .null, .int 0]) (v := .ref q15) rfl rfl rfl lk_RX4_15 rfl rfl (ty := (.array .int)) (by decide +kernel) rfl rfl rfl dX4_init_17 (fun H locs hP hD hS => ?_)
  have hP : va_P D vwCl ((q15, .inl (cy 0, 10, .inl (fun _ => 0))) :: (q7, .inl (cy 0, 10, .inl (fun _ => 0))) :: (h0, .inr (4, [.ref q7, .ref q15, .null, .int 0])) :: []) _ := hP
  have hD : va_D A ((q15, .inl (cy 0, 10, .inl (fun _ => 0))) :: (q7, .inl (cy 0, 10, .inl (fun _ => 0))) :: (h0, .inr (4, [.ref q7, .ref q15, .null, .int 0])) :: []) := hD
  refine lv_aload_n hx hb dX4_init_20 rfl (lv_at hl 0 rfl) ?_
  refine lv_bipush (v := (nI 10)) hx hb dX4_init_21 (by decide) ?_
  refine x_newa C hP hD hS hA 0 (N' := 10) wa_int rfl rfl rfl (by decide) (by decide) (by decide) (by decide) (by decide) dX4_init_23 (fun q23 H hP hD hS => ?_)
  refine x_putF C hP hD hS 3 2 (a := h0) (ci := 4) (fs := [.ref q7, .ref q15, .null, .int 0]) (v := .ref q23) rfl rfl rfl lk_RX4_18 rfl rfl (ty := (.array .int)) (by decide +kernel) rfl rfl rfl dX4_init_25 (fun H locs hP hD hS => ?_)
  have hP : va_P D vwCl ((q23, .inl (cy 0, 10, .inl (fun _ => 0))) :: (q15, .inl (cy 0, 10, .inl (fun _ => 0))) :: (q7, .inl (cy 0, 10, .inl (fun _ => 0))) :: (h0, .inr (4, [.ref q7, .ref q15, .ref q23, .int 0])) :: []) _ := hP
  have hD : va_D A ((q23, .inl (cy 0, 10, .inl (fun _ => 0))) :: (q15, .inl (cy 0, 10, .inl (fun _ => 0))) :: (q7, .inl (cy 0, 10, .inl (fun _ => 0))) :: (h0, .inr (4, [.ref q7, .ref q15, .ref q23, .int 0])) :: []) := hD
  have hPz := hP.sub (ws' := x_oX4 cy (fun k => ([h0, q7, q15, q23] : List Nat).getD k 0)) [3, 2, 1, 0] rfl
  have hDz := hD.sub (ws' := x_oX4 cy (fun k => ([h0, q7, q15, q23] : List Nat).getD k 0)) [3, 2, 1, 0] (by decide) rfl
  exact hret (fun k => ([h0, q7, q15, q23] : List Nat).getD k 0) dX4_init_28 rfl hPz hDz hS
def x_oX3 (cy : Nat → ClassId) (a : Nat → Nat) : va_W := [((a 0), .inr (3, [.ref (a 1), .ref (a 2), .ref (a 3), .ref (a 4), .ref (a 5), .ref (a 6), .ref (a 7), .ref (a 8), .ref (a 9), .int 0])), ((a 1), .inl (cy 0, 100, .inl (fun _ => 0))), ((a 2), .inl (cy 0, 100, .inl (fun _ => 0))), ((a 3), .inl (cy 0, 100, .inl (fun _ => 0))), ((a 4), .inl (cy 0, 100, .inl (fun _ => 0))), ((a 5), .inl (cy 0, 100, .inl (fun _ => 0))), ((a 6), .inl (cy 0, 100, .inl (fun _ => 0))), ((a 7), .inl (cy 0, 100, .inl (fun _ => 0))), ((a 8), .inl (cy 0, 100, .inl (fun _ => 0))), ((a 9), .inl (cy 0, 100, .inl (fun _ => 0)))]
abbrev rm_X3_init : Room := { frames := 1, cells := 9, slots := 900, locals := 40 }
set_option maxHeartbeats 4000000 in
set_option maxRecDepth 100000 in
theorem c_X3_init {l : Launch} {D : va_G} {cy : Nat → ClassId} {s0 : State} {h0 : Nat} : x_Cn l D cy s0 yX3_init (x_uw yX3_init cX3_init 1 none) rm_X3_init h0 [] [(h0, .inr (3, [.null, .null, .null, .null, .null, .null, .null, .null, .null, .int 0]))] (x_oX3 cy) 9 900 := by
  refine x_metc (by decide) rfl (Nat.le_of_ble_eq_true rfl) ?_
  intro p e s m args below meth c ls Q A C hA hA0 hAi hret hl hP hD hS
  have hx := C.1.1
  have hb := C.1.2.1
  have ho := C.1.2.2.2.1
  have hL := C.1.2.2.2.2
  have hl : lv_has ls 1 [(0, .ref h0)] := hl
  have hS : va_S A s.heap s.heap [] := hS
  refine lv_aload_n hx hb dX3_init_0 rfl (lv_at hl 0 rfl) ?_
  refine x_objI C (rest := []) oi_RX3_3 hl.1 dX3_init_1 ⟨by decide, Nat.le_of_ble_eq_true rfl⟩ ?_
  refine lv_aload_n hx hb dX3_init_4 rfl (lv_at hl 0 rfl) ?_
  refine lv_bipush (v := (nI 100)) hx hb dX3_init_5 (by decide) ?_
  refine x_newa C hP hD hS hA 0 (N' := 100) wa_int rfl rfl rfl (by decide) (by decide) (by decide) (by decide) (by decide) dX3_init_7 (fun q7 H hP hD hS => ?_)
  refine x_putF C hP hD hS 1 0 (a := h0) (ci := 3) (fs := [.null, .null, .null, .null, .null, .null, .null, .null, .null, .int 0]) (v := .ref q7) rfl rfl rfl lk_RX3_9 rfl rfl (ty := (.array .int)) (by decide +kernel) rfl rfl rfl dX3_init_9 (fun H locs hP hD hS => ?_)
  have hP : va_P D vwCl ((q7, .inl (cy 0, 100, .inl (fun _ => 0))) :: (h0, .inr (3, [.ref q7, .null, .null, .null, .null, .null, .null, .null, .null, .int 0])) :: []) _ := hP
  have hD : va_D A ((q7, .inl (cy 0, 100, .inl (fun _ => 0))) :: (h0, .inr (3, [.ref q7, .null, .null, .null, .null, .null, .null, .null, .null, .int 0])) :: []) := hD
  refine lv_aload_n hx hb dX3_init_12 rfl (lv_at hl 0 rfl) ?_
  refine lv_bipush (v := (nI 100)) hx hb dX3_init_13 (by decide) ?_
  refine x_newa C hP hD hS hA 0 (N' := 100) wa_int rfl rfl rfl (by decide) (by decide) (by decide) (by decide) (by decide) dX3_init_15 (fun q15 H hP hD hS => ?_)
  refine x_putF C hP hD hS 2 1 (a := h0) (ci := 3) (fs := [.ref q7, .null, .null, .null, .null, .null, .null, .null, .null, .int 0]) (v := .ref q15) rfl rfl rfl lk_RX3_15 rfl rfl (ty := (.array .int)) (by decide +kernel) rfl rfl rfl dX3_init_17 (fun H locs hP hD hS => ?_)
  have hP : va_P D vwCl ((q15, .inl (cy 0, 100, .inl (fun _ => 0))) :: (q7, .inl (cy 0, 100, .inl (fun _ => 0))) :: (h0, .inr (3, [.ref q7, .ref q15, .null, .null, .null, .null, .null, .null, .null, .int 0])) :: []) _ := hP
  have hD : va_D A ((q15, .inl (cy 0, 100, .inl (fun _ => 0))) :: (q7, .inl (cy 0, 100, .inl (fun _ => 0))) :: (h0, .inr (3, [.ref q7, .ref q15, .null, .null, .null, .null, .null, .null, .null, .int 0])) :: []) := hD
  refine lv_aload_n hx hb dX3_init_20 rfl (lv_at hl 0 rfl) ?_
  refine lv_bipush (v := (nI 100)) hx hb dX3_init_21 (by decide) ?_
  refine x_newa C hP hD hS hA 0 (N' := 100) wa_int rfl rfl rfl (by decide) (by decide) (by decide) (by decide) (by decide) dX3_init_23 (fun q23 H hP hD hS => ?_)
  refine x_putF C hP hD hS 3 2 (a := h0) (ci := 3) (fs := [.ref q7, .ref q15, .null, .null, .null, .null, .null, .null, .null, .int 0]) (v := .ref q23) rfl rfl rfl lk_RX3_18 rfl rfl (ty := (.array .int)) (by decide +kernel) rfl rfl rfl dX3_init_25 (fun H locs hP hD hS => ?_)
  have hP : va_P D vwCl ((q23, .inl (cy 0, 100, .inl (fun _ => 0))) :: (q15, .inl (cy 0, 100, .inl (fun _ => 0))) :: (q7, .inl (cy 0, 100, .inl (fun _ => 0))) :: (h0, .inr (3, [.ref q7, .ref q15, .ref q23, .null, .null, .null, .null, .null, .null, .int 0])) :: []) _ := hP
  have hD : va_D A ((q23, .inl (cy 0, 100, .inl (fun _ => 0))) :: (q15, .inl (cy 0, 100, .inl (fun _ => 0))) :: (q7, .inl (cy 0, 100, .inl (fun _ => 0))) :: (h0, .inr (3, [.ref q7, .ref q15, .ref q23, .null, .null, .null, .null, .null, .null, .int 0])) :: []) := hD
  refine lv_aload_n hx hb dX3_init_28 rfl (lv_at hl 0 rfl) ?_
  refine lv_bipush (v := (nI 100)) hx hb dX3_init_29 (by decide) ?_
  refine x_newa C hP hD hS hA 0 (N' := 100) wa_int rfl rfl rfl (by decide) (by decide) (by decide) (by decide) (by decide) dX3_init_31 (fun q31 H hP hD hS => ?_)
  refine x_putF C hP hD hS 4 3 (a := h0) (ci := 3) (fs := [.ref q7, .ref q15, .ref q23, .null, .null, .null, .null, .null, .null, .int 0]) (v := .ref q31) rfl rfl rfl lk_RX3_21 rfl rfl (ty := (.array .int)) (by decide +kernel) rfl rfl rfl dX3_init_33 (fun H locs hP hD hS => ?_)
  have hP : va_P D vwCl ((q31, .inl (cy 0, 100, .inl (fun _ => 0))) :: (q23, .inl (cy 0, 100, .inl (fun _ => 0))) :: (q15, .inl (cy 0, 100, .inl (fun _ => 0))) :: (q7, .inl (cy 0, 100, .inl (fun _ => 0))) :: (h0, .inr (3, [.ref q7, .ref q15, .ref q23, .ref q31, .null, .null, .null, .null, .null, .int 0])) :: []) _ := hP
  have hD : va_D A ((q31, .inl (cy 0, 100, .inl (fun _ => 0))) :: (q23, .inl (cy 0, 100, .inl (fun _ => 0))) :: (q15, .inl (cy 0, 100, .inl (fun _ => 0))) :: (q7, .inl (cy 0, 100, .inl (fun _ => 0))) :: (h0, .inr (3, [.ref q7, .ref q15, .ref q23, .ref q31, .null, .null, .null, .null, .null, .int 0])) :: []) := hD
  refine lv_aload_n hx hb dX3_init_36 rfl (lv_at hl 0 rfl) ?_
  refine lv_bipush (v := (nI 100)) hx hb dX3_init_37 (by decide) ?_
  refine x_newa C hP hD hS hA 0 (N' := 100) wa_int rfl rfl rfl (by decide) (by decide) (by decide) (by decide) (by decide) dX3_init_39 (fun q39 H hP hD hS => ?_)
  refine x_putF C hP hD hS 5 4 (a := h0) (ci := 3) (fs := [.ref q7, .ref q15, .ref q23, .ref q31, .null, .null, .null, .null, .null, .int 0]) (v := .ref q39) rfl rfl rfl lk_RX3_24 rfl rfl (ty := (.array .int)) (by decide +kernel) rfl rfl rfl dX3_init_41 (fun H locs hP hD hS => ?_)
  have hP : va_P D vwCl ((q39, .inl (cy 0, 100, .inl (fun _ => 0))) :: (q31, .inl (cy 0, 100, .inl (fun _ => 0))) :: (q23, .inl (cy 0, 100, .inl (fun _ => 0))) :: (q15, .inl (cy 0, 100, .inl (fun _ => 0))) :: (q7, .inl (cy 0, 100, .inl (fun _ => 0))) :: (h0, .inr (3, [.ref q7, .ref q15, .ref q23, .ref q31, .ref q39, .null, .null, .null, .null, .int 0])) :: []) _ := hP
  have hD : va_D A ((q39, .inl (cy 0, 100, .inl (fun _ => 0))) :: (q31, .inl (cy 0, 100, .inl (fun _ => 0))) :: (q23, .inl (cy 0, 100, .inl (fun _ => 0))) :: (q15, .inl (cy 0, 100, .inl (fun _ => 0))) :: (q7, .inl (cy 0, 100, .inl (fun _ => 0))) :: (h0, .inr (3, [.ref q7, .ref q15, .ref q23, .ref q31, .ref q39, .null, .null, .null, .null, .int 0])) :: []) := hD
  refine lv_aload_n hx hb dX3_init_44 rfl (lv_at hl 0 rfl) ?_
  refine lv_bipush (v := (nI 100)) hx hb dX3_init_45 (by decide) ?_
  refine x_newa C hP hD hS hA 0 (N' := 100) wa_int rfl rfl rfl (by decide) (by decide) (by decide) (by decide) (by decide) dX3_init_47 (fun q47 H hP hD hS => ?_)
  refine x_putF C hP hD hS 6 5 (a := h0) (ci := 3) (fs := [.ref q7, .ref q15, .ref q23, .ref q31, .ref q39, .null, .null, .null, .null, .int 0]) (v := .ref q47) rfl rfl rfl lk_RX3_27 rfl rfl (ty := (.array .int)) (by decide +kernel) rfl rfl rfl dX3_init_49 (fun H locs hP hD hS => ?_)
  have hP : va_P D vwCl ((q47, .inl (cy 0, 100, .inl (fun _ => 0))) :: (q39, .inl (cy 0, 100, .inl (fun _ => 0))) :: (q31, .inl (cy 0, 100, .inl (fun _ => 0))) :: (q23, .inl (cy 0, 100, .inl (fun _ => 0))) :: (q15, .inl (cy 0, 100, .inl (fun _ => 0))) :: (q7, .inl (cy 0, 100, .inl (fun _ => 0))) :: (h0, .inr (3, [.ref q7, .ref q15, .ref q23, .ref q31, .ref q39, .ref q47, .null, .null, .null, .int 0])) :: []) _ := hP
  have hD : va_D A ((q47, .inl (cy 0, 100, .inl (fun _ => 0))) :: (q39, .inl (cy 0, 100, .inl (fun _ => 0))) :: (q31, .inl (cy 0, 100, .inl (fun _ => 0))) :: (q23, .inl (cy 0, 100, .inl (fun _ => 0))) :: (q15, .inl (cy 0, 100, .inl (fun _ => 0))) :: (q7, .inl (cy 0, 100, .inl (fun _ => 0))) :: (h0, .inr (3, [.ref q7, .ref q15, .ref q23, .ref q31, .ref q39, .ref q47, .null, .null, .null, .int 0])) :: []) := hD
  refine lv_aload_n hx hb dX3_init_52 rfl (lv_at hl 0 rfl) ?_
  refine lv_bipush (v := (nI 100)) hx hb dX3_init_53 (by decide) ?_
  refine x_newa C hP hD hS hA 0 (N' := 100) wa_int rfl rfl rfl (by decide) (by decide) (by decide) (by decide) (by decide) dX3_init_55 (fun q55 H hP hD hS => ?_)
  refine x_putF C hP hD hS 7 6 (a := h0) (ci := 3) (fs := [.ref q7, .ref q15, .ref q23, .ref q31, .ref q39, .ref q47, .null, .null, .null, .int 0]) (v := .ref q55) rfl rfl rfl lk_RX3_30 rfl rfl (ty := (.array .int)) (by decide +kernel) rfl rfl rfl dX3_init_57 (fun H locs hP hD hS => ?_)
  have hP : va_P D vwCl ((q55, .inl (cy 0, 100, .inl (fun _ => 0))) :: (q47, .inl (cy 0, 100, .inl (fun _ => 0))) :: (q39, .inl (cy 0, 100, .inl (fun _ => 0))) :: (q31, .inl (cy 0, 100, .inl (fun _ => 0))) :: (q23, .inl (cy 0, 100, .inl (fun _ => 0))) :: (q15, .inl (cy 0, 100, .inl (fun _ => 0))) :: (q7, .inl (cy 0, 100, .inl (fun _ => 0))) :: (h0, .inr (3, [.ref q7, .ref q15, .ref q23, .ref q31, .ref q39, .ref q47, .ref q55, .null, .null, .int 0])) :: []) _ := hP
  have hD : va_D A ((q55, .inl (cy 0, 100, .inl (fun _ => 0))) :: (q47, .inl (cy 0, 100, .inl (fun _ => 0))) :: (q39, .inl (cy 0, 100, .inl (fun _ => 0))) :: (q31, .inl (cy 0, 100, .inl (fun _ => 0))) :: (q23, .inl (cy 0, 100, .inl (fun _ => 0))) :: (q15, .inl (cy 0, 100, .inl (fun _ => 0))) :: (q7, .inl (cy 0, 100, .inl (fun _ => 0))) :: (h0, .inr (3, [.ref q7, .ref q15, .ref q23, .ref q31, .ref q39, .ref q47, .ref q55, .null, .null, .int 0])) :: []) := hD
  refine lv_aload_n hx hb dX3_init_60 rfl (lv_at hl 0 rfl) ?_
  refine lv_bipush (v := (nI 100)) hx hb dX3_init_61 (by decide) ?_
  refine x_newa C hP hD hS hA 0 (N' := 100) wa_int rfl rfl rfl (by decide) (by decide) (by decide) (by decide) (by decide) dX3_init_63 (fun q63 H hP hD hS => ?_)
  refine x_putF C hP hD hS 8 7 (a := h0) (ci := 3) (fs := [.ref q7, .ref q15, .ref q23, .ref q31, .ref q39, .ref q47, .ref q55, .null, .null, .int 0]) (v := .ref q63) rfl rfl rfl lk_RX3_33 rfl rfl (ty := (.array .int)) (by decide +kernel) rfl rfl rfl dX3_init_65 (fun H locs hP hD hS => ?_)
  have hP : va_P D vwCl ((q63, .inl (cy 0, 100, .inl (fun _ => 0))) :: (q55, .inl (cy 0, 100, .inl (fun _ => 0))) :: (q47, .inl (cy 0, 100, .inl (fun _ => 0))) :: (q39, .inl (cy 0, 100, .inl (fun _ => 0))) :: (q31, .inl (cy 0, 100, .inl (fun _ => 0))) :: (q23, .inl (cy 0, 100, .inl (fun _ => 0))) :: (q15, .inl (cy 0, 100, .inl (fun _ => 0))) :: (q7, .inl (cy 0, 100, .inl (fun _ => 0))) :: (h0, .inr (3, [.ref q7, .ref q15, .ref q23, .ref q31, .ref q39, .ref q47, .ref q55, .ref q63, .null, .int 0])) :: []) _ := hP
  have hD : va_D A ((q63, .inl (cy 0, 100, .inl (fun _ => 0))) :: (q55, .inl (cy 0, 100, .inl (fun _ => 0))) :: (q47, .inl (cy 0, 100, .inl (fun _ => 0))) :: (q39, .inl (cy 0, 100, .inl (fun _ => 0))) :: (q31, .inl (cy 0, 100, .inl (fun _ => 0))) :: (q23, .inl (cy 0, 100, .inl (fun _ => 0))) :: (q15, .inl (cy 0, 100, .inl (fun _ => 0))) :: (q7, .inl (cy 0, 100, .inl (fun _ => 0))) :: (h0, .inr (3, [.ref q7, .ref q15, .ref q23, .ref q31, .ref q39, .ref q47, .ref q55, .ref q63, .null, .int 0])) :: []) := hD
  refine lv_aload_n hx hb dX3_init_68 rfl (lv_at hl 0 rfl) ?_
  refine lv_bipush (v := (nI 100)) hx hb dX3_init_69 (by decide) ?_
  refine x_newa C hP hD hS hA 0 (N' := 100) wa_int rfl rfl rfl (by decide) (by decide) (by decide) (by decide) (by decide) dX3_init_71 (fun q71 H hP hD hS => ?_)
  refine x_putF C hP hD hS 9 8 (a := h0) (ci := 3) (fs := [.ref q7, .ref q15, .ref q23, .ref q31, .ref q39, .ref q47, .ref q55, .ref q63, .null, .int 0]) (v := .ref q71) rfl rfl rfl lk_RX3_36 rfl rfl (ty := (.array .int)) (by decide +kernel) rfl rfl rfl dX3_init_73 (fun H locs hP hD hS => ?_)
  have hP : va_P D vwCl ((q71, .inl (cy 0, 100, .inl (fun _ => 0))) :: (q63, .inl (cy 0, 100, .inl (fun _ => 0))) :: (q55, .inl (cy 0, 100, .inl (fun _ => 0))) :: (q47, .inl (cy 0, 100, .inl (fun _ => 0))) :: (q39, .inl (cy 0, 100, .inl (fun _ => 0))) :: (q31, .inl (cy 0, 100, .inl (fun _ => 0))) :: (q23, .inl (cy 0, 100, .inl (fun _ => 0))) :: (q15, .inl (cy 0, 100, .inl (fun _ => 0))) :: (q7, .inl (cy 0, 100, .inl (fun _ => 0))) :: (h0, .inr (3, [.ref q7, .ref q15, .ref q23, .ref q31, .ref q39, .ref q47, .ref q55, .ref q63, .ref q71, .int 0])) :: []) _ := hP
  have hD : va_D A ((q71, .inl (cy 0, 100, .inl (fun _ => 0))) :: (q63, .inl (cy 0, 100, .inl (fun _ => 0))) :: (q55, .inl (cy 0, 100, .inl (fun _ => 0))) :: (q47, .inl (cy 0, 100, .inl (fun _ => 0))) :: (q39, .inl (cy 0, 100, .inl (fun _ => 0))) :: (q31, .inl (cy 0, 100, .inl (fun _ => 0))) :: (q23, .inl (cy 0, 100, .inl (fun _ => 0))) :: (q15, .inl (cy 0, 100, .inl (fun _ => 0))) :: (q7, .inl (cy 0, 100, .inl (fun _ => 0))) :: (h0, .inr (3, [.ref q7, .ref q15, .ref q23, .ref q31, .ref q39, .ref q47, .ref q55, .ref q63, .ref q71, .int 0])) :: []) := hD
  have hPz := hP.sub (ws' := x_oX3 cy (fun k => ([h0, q7, q15, q23, q31, q39, q47, q55, q63, q71] : List Nat).getD k 0)) [9, 8, 7, 6, 5, 4, 3, 2, 1, 0] rfl
  have hDz := hD.sub (ws' := x_oX3 cy (fun k => ([h0, q7, q15, q23, q31, q39, q47, q55, q63, q71] : List Nat).getD k 0)) [9, 8, 7, 6, 5, 4, 3, 2, 1, 0] (by decide) rfl
  exact hret (fun k => ([h0, q7, q15, q23, q31, q39, q47, q55, q63, q71] : List Nat).getD k 0) dX3_init_76 rfl hPz hDz hS
def x_oX6 (cy : Nat → ClassId) (a : Nat → Nat) : va_W := [((a 0), .inr (6, [.ref (a 1), .ref (a 2), .ref (a 3), .ref (a 4), .ref (a 5), .ref (a 6), .ref (a 7), .ref (a 8), .int 0, .int 0])), ((a 1), .inl (cy 0, 8, .inl (fun _ => 0))), ((a 2), .inl (cy 0, 8, .inl (fun _ => 0))), ((a 3), .inl (cy 0, 8, .inl (fun _ => 0))), ((a 4), .inl (cy 0, 8, .inl (fun _ => 0))), ((a 5), .inl (cy 0, 30, .inl (fun _ => 0))), ((a 6), .inl (cy 0, 30, .inl (fun _ => 0))), ((a 7), .inl (cy 0, 30, .inl (fun _ => 0))), ((a 8), .inl (cy 0, 30, .inl (fun _ => 0)))]
abbrev rm_X6_init : Room := { frames := 1, cells := 8, slots := 152, locals := 40 }
set_option maxHeartbeats 4000000 in
set_option maxRecDepth 100000 in
theorem c_X6_init {l : Launch} {D : va_G} {cy : Nat → ClassId} {s0 : State} {h0 : Nat} : x_Cn l D cy s0 yX6_init (x_uw yX6_init cX6_init 1 none) rm_X6_init h0 [] [(h0, .inr (6, [.null, .null, .null, .null, .null, .null, .null, .null, .int 0, .int 0]))] (x_oX6 cy) 8 152 := by
  refine x_metc (by decide) rfl (Nat.le_of_ble_eq_true rfl) ?_
  intro p e s m args below meth c ls Q A C hA hA0 hAi hret hl hP hD hS
  have hx := C.1.1
  have hb := C.1.2.1
  have ho := C.1.2.2.2.1
  have hL := C.1.2.2.2.2
  have hl : lv_has ls 1 [(0, .ref h0)] := hl
  have hS : va_S A s.heap s.heap [] := hS
  refine lv_aload_n hx hb dX6_init_0 rfl (lv_at hl 0 rfl) ?_
  refine x_objI C (rest := []) oi_RX6_3 hl.1 dX6_init_1 ⟨by decide, Nat.le_of_ble_eq_true rfl⟩ ?_
  refine lv_aload_n hx hb dX6_init_4 rfl (lv_at hl 0 rfl) ?_
  refine lv_bipush (v := (nI 8)) hx hb dX6_init_5 (by decide) ?_
  refine x_newa C hP hD hS hA 0 (N' := 8) wa_int rfl rfl rfl (by decide) (by decide) (by decide) (by decide) (by decide) dX6_init_7 (fun q7 H hP hD hS => ?_)
  refine x_putF C hP hD hS 1 0 (a := h0) (ci := 6) (fs := [.null, .null, .null, .null, .null, .null, .null, .null, .int 0, .int 0]) (v := .ref q7) rfl rfl rfl lk_RX6_9 rfl rfl (ty := (.array .int)) (by decide +kernel) rfl rfl rfl dX6_init_9 (fun H locs hP hD hS => ?_)
  have hP : va_P D vwCl ((q7, .inl (cy 0, 8, .inl (fun _ => 0))) :: (h0, .inr (6, [.ref q7, .null, .null, .null, .null, .null, .null, .null, .int 0, .int 0])) :: []) _ := hP
  have hD : va_D A ((q7, .inl (cy 0, 8, .inl (fun _ => 0))) :: (h0, .inr (6, [.ref q7, .null, .null, .null, .null, .null, .null, .null, .int 0, .int 0])) :: []) := hD
  refine lv_aload_n hx hb dX6_init_12 rfl (lv_at hl 0 rfl) ?_
  refine lv_bipush (v := (nI 8)) hx hb dX6_init_13 (by decide) ?_
  refine x_newa C hP hD hS hA 0 (N' := 8) wa_int rfl rfl rfl (by decide) (by decide) (by decide) (by decide) (by decide) dX6_init_15 (fun q15 H hP hD hS => ?_)
  refine x_putF C hP hD hS 2 1 (a := h0) (ci := 6) (fs := [.ref q7, .null, .null, .null, .null, .null, .null, .null, .int 0, .int 0]) (v := .ref q15) rfl rfl rfl lk_RX6_15 rfl rfl (ty := (.array .int)) (by decide +kernel) rfl rfl rfl dX6_init_17 (fun H locs hP hD hS => ?_)
  have hP : va_P D vwCl ((q15, .inl (cy 0, 8, .inl (fun _ => 0))) :: (q7, .inl (cy 0, 8, .inl (fun _ => 0))) :: (h0, .inr (6, [.ref q7, .ref q15, .null, .null, .null, .null, .null, .null, .int 0, .int 0])) :: []) _ := hP
  have hD : va_D A ((q15, .inl (cy 0, 8, .inl (fun _ => 0))) :: (q7, .inl (cy 0, 8, .inl (fun _ => 0))) :: (h0, .inr (6, [.ref q7, .ref q15, .null, .null, .null, .null, .null, .null, .int 0, .int 0])) :: []) := hD
  refine lv_aload_n hx hb dX6_init_20 rfl (lv_at hl 0 rfl) ?_
  refine lv_bipush (v := (nI 8)) hx hb dX6_init_21 (by decide) ?_
  refine x_newa C hP hD hS hA 0 (N' := 8) wa_int rfl rfl rfl (by decide) (by decide) (by decide) (by decide) (by decide) dX6_init_23 (fun q23 H hP hD hS => ?_)
  refine x_putF C hP hD hS 3 2 (a := h0) (ci := 6) (fs := [.ref q7, .ref q15, .null, .null, .null, .null, .null, .null, .int 0, .int 0]) (v := .ref q23) rfl rfl rfl lk_RX6_18 rfl rfl (ty := (.array .int)) (by decide +kernel) rfl rfl rfl dX6_init_25 (fun H locs hP hD hS => ?_)
  have hP : va_P D vwCl ((q23, .inl (cy 0, 8, .inl (fun _ => 0))) :: (q15, .inl (cy 0, 8, .inl (fun _ => 0))) :: (q7, .inl (cy 0, 8, .inl (fun _ => 0))) :: (h0, .inr (6, [.ref q7, .ref q15, .ref q23, .null, .null, .null, .null, .null, .int 0, .int 0])) :: []) _ := hP
  have hD : va_D A ((q23, .inl (cy 0, 8, .inl (fun _ => 0))) :: (q15, .inl (cy 0, 8, .inl (fun _ => 0))) :: (q7, .inl (cy 0, 8, .inl (fun _ => 0))) :: (h0, .inr (6, [.ref q7, .ref q15, .ref q23, .null, .null, .null, .null, .null, .int 0, .int 0])) :: []) := hD
  refine lv_aload_n hx hb dX6_init_28 rfl (lv_at hl 0 rfl) ?_
  refine lv_bipush (v := (nI 8)) hx hb dX6_init_29 (by decide) ?_
  refine x_newa C hP hD hS hA 0 (N' := 8) wa_int rfl rfl rfl (by decide) (by decide) (by decide) (by decide) (by decide) dX6_init_31 (fun q31 H hP hD hS => ?_)
  refine x_putF C hP hD hS 4 3 (a := h0) (ci := 6) (fs := [.ref q7, .ref q15, .ref q23, .null, .null, .null, .null, .null, .int 0, .int 0]) (v := .ref q31) rfl rfl rfl lk_RX6_21 rfl rfl (ty := (.array .int)) (by decide +kernel) rfl rfl rfl dX6_init_33 (fun H locs hP hD hS => ?_)
  have hP : va_P D vwCl ((q31, .inl (cy 0, 8, .inl (fun _ => 0))) :: (q23, .inl (cy 0, 8, .inl (fun _ => 0))) :: (q15, .inl (cy 0, 8, .inl (fun _ => 0))) :: (q7, .inl (cy 0, 8, .inl (fun _ => 0))) :: (h0, .inr (6, [.ref q7, .ref q15, .ref q23, .ref q31, .null, .null, .null, .null, .int 0, .int 0])) :: []) _ := hP
  have hD : va_D A ((q31, .inl (cy 0, 8, .inl (fun _ => 0))) :: (q23, .inl (cy 0, 8, .inl (fun _ => 0))) :: (q15, .inl (cy 0, 8, .inl (fun _ => 0))) :: (q7, .inl (cy 0, 8, .inl (fun _ => 0))) :: (h0, .inr (6, [.ref q7, .ref q15, .ref q23, .ref q31, .null, .null, .null, .null, .int 0, .int 0])) :: []) := hD
  refine lv_aload_n hx hb dX6_init_36 rfl (lv_at hl 0 rfl) ?_
  refine lv_bipush (v := (nI 30)) hx hb dX6_init_37 (by decide) ?_
  refine x_newa C hP hD hS hA 0 (N' := 30) wa_int rfl rfl rfl (by decide) (by decide) (by decide) (by decide) (by decide) dX6_init_39 (fun q39 H hP hD hS => ?_)
  refine x_putF C hP hD hS 5 4 (a := h0) (ci := 6) (fs := [.ref q7, .ref q15, .ref q23, .ref q31, .null, .null, .null, .null, .int 0, .int 0]) (v := .ref q39) rfl rfl rfl lk_RX6_24 rfl rfl (ty := (.array .int)) (by decide +kernel) rfl rfl rfl dX6_init_41 (fun H locs hP hD hS => ?_)
  have hP : va_P D vwCl ((q39, .inl (cy 0, 30, .inl (fun _ => 0))) :: (q31, .inl (cy 0, 8, .inl (fun _ => 0))) :: (q23, .inl (cy 0, 8, .inl (fun _ => 0))) :: (q15, .inl (cy 0, 8, .inl (fun _ => 0))) :: (q7, .inl (cy 0, 8, .inl (fun _ => 0))) :: (h0, .inr (6, [.ref q7, .ref q15, .ref q23, .ref q31, .ref q39, .null, .null, .null, .int 0, .int 0])) :: []) _ := hP
  have hD : va_D A ((q39, .inl (cy 0, 30, .inl (fun _ => 0))) :: (q31, .inl (cy 0, 8, .inl (fun _ => 0))) :: (q23, .inl (cy 0, 8, .inl (fun _ => 0))) :: (q15, .inl (cy 0, 8, .inl (fun _ => 0))) :: (q7, .inl (cy 0, 8, .inl (fun _ => 0))) :: (h0, .inr (6, [.ref q7, .ref q15, .ref q23, .ref q31, .ref q39, .null, .null, .null, .int 0, .int 0])) :: []) := hD
  refine lv_aload_n hx hb dX6_init_44 rfl (lv_at hl 0 rfl) ?_
  refine lv_bipush (v := (nI 30)) hx hb dX6_init_45 (by decide) ?_
  refine x_newa C hP hD hS hA 0 (N' := 30) wa_int rfl rfl rfl (by decide) (by decide) (by decide) (by decide) (by decide) dX6_init_47 (fun q47 H hP hD hS => ?_)
  refine x_putF C hP hD hS 6 5 (a := h0) (ci := 6) (fs := [.ref q7, .ref q15, .ref q23, .ref q31, .ref q39, .null, .null, .null, .int 0, .int 0]) (v := .ref q47) rfl rfl rfl lk_RX6_27 rfl rfl (ty := (.array .int)) (by decide +kernel) rfl rfl rfl dX6_init_49 (fun H locs hP hD hS => ?_)
  have hP : va_P D vwCl ((q47, .inl (cy 0, 30, .inl (fun _ => 0))) :: (q39, .inl (cy 0, 30, .inl (fun _ => 0))) :: (q31, .inl (cy 0, 8, .inl (fun _ => 0))) :: (q23, .inl (cy 0, 8, .inl (fun _ => 0))) :: (q15, .inl (cy 0, 8, .inl (fun _ => 0))) :: (q7, .inl (cy 0, 8, .inl (fun _ => 0))) :: (h0, .inr (6, [.ref q7, .ref q15, .ref q23, .ref q31, .ref q39, .ref q47, .null, .null, .int 0, .int 0])) :: []) _ := hP
  have hD : va_D A ((q47, .inl (cy 0, 30, .inl (fun _ => 0))) :: (q39, .inl (cy 0, 30, .inl (fun _ => 0))) :: (q31, .inl (cy 0, 8, .inl (fun _ => 0))) :: (q23, .inl (cy 0, 8, .inl (fun _ => 0))) :: (q15, .inl (cy 0, 8, .inl (fun _ => 0))) :: (q7, .inl (cy 0, 8, .inl (fun _ => 0))) :: (h0, .inr (6, [.ref q7, .ref q15, .ref q23, .ref q31, .ref q39, .ref q47, .null, .null, .int 0, .int 0])) :: []) := hD
  refine lv_aload_n hx hb dX6_init_52 rfl (lv_at hl 0 rfl) ?_
  refine lv_bipush (v := (nI 30)) hx hb dX6_init_53 (by decide) ?_
  refine x_newa C hP hD hS hA 0 (N' := 30) wa_int rfl rfl rfl (by decide) (by decide) (by decide) (by decide) (by decide) dX6_init_55 (fun q55 H hP hD hS => ?_)
  refine x_putF C hP hD hS 7 6 (a := h0) (ci := 6) (fs := [.ref q7, .ref q15, .ref q23, .ref q31, .ref q39, .ref q47, .null, .null, .int 0, .int 0]) (v := .ref q55) rfl rfl rfl lk_RX6_30 rfl rfl (ty := (.array .int)) (by decide +kernel) rfl rfl rfl dX6_init_57 (fun H locs hP hD hS => ?_)
  have hP : va_P D vwCl ((q55, .inl (cy 0, 30, .inl (fun _ => 0))) :: (q47, .inl (cy 0, 30, .inl (fun _ => 0))) :: (q39, .inl (cy 0, 30, .inl (fun _ => 0))) :: (q31, .inl (cy 0, 8, .inl (fun _ => 0))) :: (q23, .inl (cy 0, 8, .inl (fun _ => 0))) :: (q15, .inl (cy 0, 8, .inl (fun _ => 0))) :: (q7, .inl (cy 0, 8, .inl (fun _ => 0))) :: (h0, .inr (6, [.ref q7, .ref q15, .ref q23, .ref q31, .ref q39, .ref q47, .ref q55, .null, .int 0, .int 0])) :: []) _ := hP
  have hD : va_D A ((q55, .inl (cy 0, 30, .inl (fun _ => 0))) :: (q47, .inl (cy 0, 30, .inl (fun _ => 0))) :: (q39, .inl (cy 0, 30, .inl (fun _ => 0))) :: (q31, .inl (cy 0, 8, .inl (fun _ => 0))) :: (q23, .inl (cy 0, 8, .inl (fun _ => 0))) :: (q15, .inl (cy 0, 8, .inl (fun _ => 0))) :: (q7, .inl (cy 0, 8, .inl (fun _ => 0))) :: (h0, .inr (6, [.ref q7, .ref q15, .ref q23, .ref q31, .ref q39, .ref q47, .ref q55, .null, .int 0, .int 0])) :: []) := hD
  refine lv_aload_n hx hb dX6_init_60 rfl (lv_at hl 0 rfl) ?_
  refine lv_bipush (v := (nI 30)) hx hb dX6_init_61 (by decide) ?_
  refine x_newa C hP hD hS hA 0 (N' := 30) wa_int rfl rfl rfl (by decide) (by decide) (by decide) (by decide) (by decide) dX6_init_63 (fun q63 H hP hD hS => ?_)
  refine x_putF C hP hD hS 8 7 (a := h0) (ci := 6) (fs := [.ref q7, .ref q15, .ref q23, .ref q31, .ref q39, .ref q47, .ref q55, .null, .int 0, .int 0]) (v := .ref q63) rfl rfl rfl lk_RX6_33 rfl rfl (ty := (.array .int)) (by decide +kernel) rfl rfl rfl dX6_init_65 (fun H locs hP hD hS => ?_)
  have hP : va_P D vwCl ((q63, .inl (cy 0, 30, .inl (fun _ => 0))) :: (q55, .inl (cy 0, 30, .inl (fun _ => 0))) :: (q47, .inl (cy 0, 30, .inl (fun _ => 0))) :: (q39, .inl (cy 0, 30, .inl (fun _ => 0))) :: (q31, .inl (cy 0, 8, .inl (fun _ => 0))) :: (q23, .inl (cy 0, 8, .inl (fun _ => 0))) :: (q15, .inl (cy 0, 8, .inl (fun _ => 0))) :: (q7, .inl (cy 0, 8, .inl (fun _ => 0))) :: (h0, .inr (6, [.ref q7, .ref q15, .ref q23, .ref q31, .ref q39, .ref q47, .ref q55, .ref q63, .int 0, .int 0])) :: []) _ := hP
  have hD : va_D A ((q63, .inl (cy 0, 30, .inl (fun _ => 0))) :: (q55, .inl (cy 0, 30, .inl (fun _ => 0))) :: (q47, .inl (cy 0, 30, .inl (fun _ => 0))) :: (q39, .inl (cy 0, 30, .inl (fun _ => 0))) :: (q31, .inl (cy 0, 8, .inl (fun _ => 0))) :: (q23, .inl (cy 0, 8, .inl (fun _ => 0))) :: (q15, .inl (cy 0, 8, .inl (fun _ => 0))) :: (q7, .inl (cy 0, 8, .inl (fun _ => 0))) :: (h0, .inr (6, [.ref q7, .ref q15, .ref q23, .ref q31, .ref q39, .ref q47, .ref q55, .ref q63, .int 0, .int 0])) :: []) := hD
  have hPz := hP.sub (ws' := x_oX6 cy (fun k => ([h0, q7, q15, q23, q31, q39, q47, q55, q63] : List Nat).getD k 0)) [8, 7, 6, 5, 4, 3, 2, 1, 0] rfl
  have hDz := hD.sub (ws' := x_oX6 cy (fun k => ([h0, q7, q15, q23, q31, q39, q47, q55, q63] : List Nat).getD k 0)) [8, 7, 6, 5, 4, 3, 2, 1, 0] (by decide) rfl
  exact hret (fun k => ([h0, q7, q15, q23, q31, q39, q47, q55, q63] : List Nat).getD k 0) dX6_init_68 rfl hPz hDz hS
def x_oX5 (cy : Nat → ClassId) (a : Nat → Nat) : va_W := [((a 0), .inr (5, [.ref (a 1), .ref (a 2), .ref (a 3), .int 0])), ((a 1), .inl (cy 0, 8, .inl (fun _ => 0))), ((a 2), .inl (cy 0, 8, .inl (fun _ => 0))), ((a 3), .inl (cy 0, 8, .inl (fun _ => 0)))]
abbrev rm_X5_init : Room := { frames := 1, cells := 3, slots := 24, locals := 40 }
set_option maxHeartbeats 4000000 in
set_option maxRecDepth 100000 in
theorem c_X5_init {l : Launch} {D : va_G} {cy : Nat → ClassId} {s0 : State} {h0 : Nat} : x_Cn l D cy s0 yX5_init (x_uw yX5_init cX5_init 1 none) rm_X5_init h0 [] [(h0, .inr (5, [.null, .null, .null, .int 0]))] (x_oX5 cy) 3 24 := by
  refine x_metc (by decide) rfl (Nat.le_of_ble_eq_true rfl) ?_
  intro p e s m args below meth c ls Q A C hA hA0 hAi hret hl hP hD hS
  have hx := C.1.1
  have hb := C.1.2.1
  have ho := C.1.2.2.2.1
  have hL := C.1.2.2.2.2
  have hl : lv_has ls 1 [(0, .ref h0)] := hl
  have hS : va_S A s.heap s.heap [] := hS
  refine lv_aload_n hx hb dX5_init_0 rfl (lv_at hl 0 rfl) ?_
  refine x_objI C (rest := []) oi_RX5_3 hl.1 dX5_init_1 ⟨by decide, Nat.le_of_ble_eq_true rfl⟩ ?_
  refine lv_aload_n hx hb dX5_init_4 rfl (lv_at hl 0 rfl) ?_
  refine lv_bipush (v := (nI 8)) hx hb dX5_init_5 (by decide) ?_
  refine x_newa C hP hD hS hA 0 (N' := 8) wa_int rfl rfl rfl (by decide) (by decide) (by decide) (by decide) (by decide) dX5_init_7 (fun q7 H hP hD hS => ?_)
  refine x_putF C hP hD hS 1 0 (a := h0) (ci := 5) (fs := [.null, .null, .null, .int 0]) (v := .ref q7) rfl rfl rfl lk_RX5_9 rfl rfl (ty := (.array .int)) (by decide +kernel) rfl rfl rfl dX5_init_9 (fun H locs hP hD hS => ?_)
  have hP : va_P D vwCl ((q7, .inl (cy 0, 8, .inl (fun _ => 0))) :: (h0, .inr (5, [.ref q7, .null, .null, .int 0])) :: []) _ := hP
  have hD : va_D A ((q7, .inl (cy 0, 8, .inl (fun _ => 0))) :: (h0, .inr (5, [.ref q7, .null, .null, .int 0])) :: []) := hD
  refine lv_aload_n hx hb dX5_init_12 rfl (lv_at hl 0 rfl) ?_
  refine lv_bipush (v := (nI 8)) hx hb dX5_init_13 (by decide) ?_
  refine x_newa C hP hD hS hA 0 (N' := 8) wa_int rfl rfl rfl (by decide) (by decide) (by decide) (by decide) (by decide) dX5_init_15 (fun q15 H hP hD hS => ?_)
  refine x_putF C hP hD hS 2 1 (a := h0) (ci := 5) (fs := [.ref q7, .null, .null, .int 0]) (v := .ref q15) rfl rfl rfl lk_RX5_15 rfl rfl (ty := (.array .int)) (by decide +kernel) rfl rfl rfl dX5_init_17 (fun H locs hP hD hS => ?_)
  have hP : va_P D vwCl ((q15, .inl (cy 0, 8, .inl (fun _ => 0))) :: (q7, .inl (cy 0, 8, .inl (fun _ => 0))) :: (h0, .inr (5, [.ref q7, .ref q15, .null, .int 0])) :: []) _ := hP
  have hD : va_D A ((q15, .inl (cy 0, 8, .inl (fun _ => 0))) :: (q7, .inl (cy 0, 8, .inl (fun _ => 0))) :: (h0, .inr (5, [.ref q7, .ref q15, .null, .int 0])) :: []) := hD
  refine lv_aload_n hx hb dX5_init_20 rfl (lv_at hl 0 rfl) ?_
  refine lv_bipush (v := (nI 8)) hx hb dX5_init_21 (by decide) ?_
  refine x_newa C hP hD hS hA 0 (N' := 8) wa_int rfl rfl rfl (by decide) (by decide) (by decide) (by decide) (by decide) dX5_init_23 (fun q23 H hP hD hS => ?_)
  refine x_putF C hP hD hS 3 2 (a := h0) (ci := 5) (fs := [.ref q7, .ref q15, .null, .int 0]) (v := .ref q23) rfl rfl rfl lk_RX5_18 rfl rfl (ty := (.array .int)) (by decide +kernel) rfl rfl rfl dX5_init_25 (fun H locs hP hD hS => ?_)
  have hP : va_P D vwCl ((q23, .inl (cy 0, 8, .inl (fun _ => 0))) :: (q15, .inl (cy 0, 8, .inl (fun _ => 0))) :: (q7, .inl (cy 0, 8, .inl (fun _ => 0))) :: (h0, .inr (5, [.ref q7, .ref q15, .ref q23, .int 0])) :: []) _ := hP
  have hD : va_D A ((q23, .inl (cy 0, 8, .inl (fun _ => 0))) :: (q15, .inl (cy 0, 8, .inl (fun _ => 0))) :: (q7, .inl (cy 0, 8, .inl (fun _ => 0))) :: (h0, .inr (5, [.ref q7, .ref q15, .ref q23, .int 0])) :: []) := hD
  have hPz := hP.sub (ws' := x_oX5 cy (fun k => ([h0, q7, q15, q23] : List Nat).getD k 0)) [3, 2, 1, 0] rfl
  have hDz := hD.sub (ws' := x_oX5 cy (fun k => ([h0, q7, q15, q23] : List Nat).getD k 0)) [3, 2, 1, 0] (by decide) rfl
  exact hret (fun k => ([h0, q7, q15, q23] : List Nat).getD k 0) dX5_init_28 rfl hPz hDz hS
def x_oX0 (cy : Nat → ClassId) (ad : Nat → Nat) (a : Nat → Nat) : va_W := [((a 0), .inr (0, [.ref (a 1), .ref (a 5), .ref (a 15), .ref (a 17), .ref (a 26), .ref (a 30), .ref (a 31), .ref (a 32), .int 0])), ((a 1), .inr (4, [.ref (a 2), .ref (a 3), .ref (a 4), .int 0])), ((a 2), .inl (cy 0, 10, .inl (fun _ => 0))), ((a 3), .inl (cy 0, 10, .inl (fun _ => 0))), ((a 4), .inl (cy 0, 10, .inl (fun _ => 0))), ((a 5), .inr (3, [.ref (a 6), .ref (a 7), .ref (a 8), .ref (a 9), .ref (a 10), .ref (a 11), .ref (a 12), .ref (a 13), .ref (a 14), .int 0])), ((a 6), .inl (cy 0, 100, .inl (fun _ => 0))), ((a 7), .inl (cy 0, 100, .inl (fun _ => 0))), ((a 8), .inl (cy 0, 100, .inl (fun _ => 0))), ((a 9), .inl (cy 0, 100, .inl (fun _ => 0))), ((a 10), .inl (cy 0, 100, .inl (fun _ => 0))), ((a 11), .inl (cy 0, 100, .inl (fun _ => 0))), ((a 12), .inl (cy 0, 100, .inl (fun _ => 0))), ((a 13), .inl (cy 0, 100, .inl (fun _ => 0))), ((a 14), .inl (cy 0, 100, .inl (fun _ => 0))), ((a 15), .inr (9, [.ref (a 16), .ref (a 33), .int 0])), ((a 16), .inl (cy 4, 4, .inr (.inr (.inr (.inr (fun _ => none)))))), ((a 17), .inr (6, [.ref (a 18), .ref (a 19), .ref (a 20), .ref (a 21), .ref (a 22), .ref (a 23), .ref (a 24), .ref (a 25), .int 0, .int 0])), ((a 18), .inl (cy 0, 8, .inl (fun _ => 0))), ((a 19), .inl (cy 0, 8, .inl (fun _ => 0))), ((a 20), .inl (cy 0, 8, .inl (fun _ => 0))), ((a 21), .inl (cy 0, 8, .inl (fun _ => 0))), ((a 22), .inl (cy 0, 30, .inl (fun _ => 0))), ((a 23), .inl (cy 0, 30, .inl (fun _ => 0))), ((a 24), .inl (cy 0, 30, .inl (fun _ => 0))), ((a 25), .inl (cy 0, 30, .inl (fun _ => 0))), ((a 26), .inr (5, [.ref (a 27), .ref (a 28), .ref (a 29), .int 0])), ((a 27), .inl (cy 0, 8, .inl (fun _ => 0))), ((a 28), .inl (cy 0, 8, .inl (fun _ => 0))), ((a 29), .inl (cy 0, 8, .inl (fun _ => 0))), ((a 30), .inl (cy 0, 3, .inl (upd (upd (upd (fun _ => 0) 0 (nI 30)) 1 (nI 90)) 2 (nI 60)))), ((a 31), .inl (cy 0, 4, .inl (upd (upd (upd (upd (fun _ => 0) 0 (nI 0)) 1 (nI 10)) 2 (nI 10)) 3 (nI 10)))), ((a 32), .inl (cy 0, 4, .inl (upd (upd (upd (upd (fun _ => 0) 0 (nI 0)) 1 (nI 8)) 2 (nI 8)) 3 (nI 8)))), ((a 33), .inr (8, [.int (nI 0), .ref (a 34), .ref (a 35)])), ((a 34), .inl (cy 0, 4, .inl (upd (upd (upd (upd (fun _ => 0) 0 (-108)) 1 (nI 720)) 2 (-108)) 3 (nI 0)))), ((a 35), .inl (cy 0, 4, .inl (upd (upd (upd (upd (fun _ => 0) 0 (nI 1)) 1 (nI 2)) 2 (nI 3)) 3 (nI 4))))]
abbrev rm_X0_init : Room := { frames := 3, cells := 35, slots := 1163, locals := 83 }
set_option maxHeartbeats 4000000 in
set_option maxRecDepth 100000 in
theorem c_X0_init {l : Launch} {D : va_G} {cy : Nat → ClassId} {s0 : State} {ad adV : Nat → Nat} (hz : x_Z s0 ad adV) {h0 : Nat} : x_Cn l D cy s0 yX0_init (x_uw yX0_init cX0_init 1 none) rm_X0_init h0 [] [(h0, .inr (0, [.null, .null, .null, .null, .null, .null, .null, .null, .int 0]))] (x_oX0 cy ad) 35 1163 := by
  refine x_metc (by decide) rfl (Nat.le_of_ble_eq_true rfl) ?_
  intro p e s m args below meth c ls Q A C hA hA0 hAi hret hl hP hD hS
  have hx := C.1.1
  have hb := C.1.2.1
  have ho := C.1.2.2.2.1
  have hL := C.1.2.2.2.2
  have hl : lv_has ls 1 [(0, .ref h0)] := hl
  have hS : va_S A s.heap s.heap [] := hS
  refine lv_aload_n hx hb dX0_init_0 rfl (lv_at hl 0 rfl) ?_
  refine x_objI C (rest := []) oi_RX0_1 hl.1 dX0_init_1 ⟨by decide, Nat.le_of_ble_eq_true rfl⟩ ?_
  refine lv_aload_n hx hb dX0_init_4 rfl (lv_at hl 0 rfl) ?_
  refine x_newo C hP hD hS hA (fs := [.null, .null, .null, .int 0]) nw_RX0_7 (ci := 4) rfl tyX4_ok (fun j hj => by rcases (show j = 0 ∨ j = 1 ∨ j = 2 ∨ j = 3 by omega) with rfl | rfl | rfl | rfl <;> rfl) (by decide) (by decide) dX0_init_5 (fun q5 H hP hD hS => ?_)
  refine lv_dup hx hb dX0_init_8 rfl ?_
  refine x_ctor C.1 C.2.1 (rest := [_, _]) hP hD hS hA hA0 (c_X4_init) (Or.inr (by decide +kernel)) mi_X4_init (n := 0) (by decide +kernel) rfl ⟨rfl, rfl, by decide, by decide⟩ rfl hl.1 rfl (Nat.le_of_ble_eq_true rfl) dX0_init_9 ⟨by decide, by decide⟩ (fun a9 Hn locsn ea hPn hDn hSn => ?_)
  clear hP hD hS
  subst ea
  have hP := hPn
  have hD := hDn
  have hS := hSn
  clear hPn hDn hSn
  refine x_putF C hP hD hS 4 0 (a := h0) (ci := 0) (fs := [.null, .null, .null, .null, .null, .null, .null, .null, .int 0]) (v := .ref (a9 0)) rfl rfl rfl lk_RX0_10 rfl rfl (ty := (.object "MilesHall$Members")) (by decide +kernel) rfl rfl rfl dX0_init_12 (fun H locs hP hD hS => ?_)
  have hP : va_P D vwCl (x_oX4 cy a9 ++ ((h0, .inr (0, [.ref (a9 0), .null, .null, .null, .null, .null, .null, .null, .int 0])) :: [])) _ := hP
  have hD : va_D A (x_oX4 cy a9 ++ ((h0, .inr (0, [.ref (a9 0), .null, .null, .null, .null, .null, .null, .null, .int 0])) :: [])) := hD
  refine lv_aload_n hx hb dX0_init_15 rfl (lv_at hl 0 rfl) ?_
  refine x_newo C hP hD hS hA (fs := [.null, .null, .null, .null, .null, .null, .null, .null, .null, .int 0]) nw_RX0_16 (ci := 3) rfl tyX3_ok (fun j hj => by rcases (show j = 0 ∨ j = 1 ∨ j = 2 ∨ j = 3 ∨ j = 4 ∨ j = 5 ∨ j = 6 ∨ j = 7 ∨ j = 8 ∨ j = 9 by omega) with rfl | rfl | rfl | rfl | rfl | rfl | rfl | rfl | rfl | rfl <;> rfl) (by decide) (by decide) dX0_init_16 (fun q16 H hP hD hS => ?_)
  refine lv_dup hx hb dX0_init_19 rfl ?_
  refine x_ctor C.1 C.2.1 (rest := [_, _]) hP hD hS hA hA0 (c_X3_init) (Or.inr (by decide +kernel)) mi_X3_init (n := 0) (by decide +kernel) rfl ⟨rfl, rfl, by decide, by decide⟩ rfl hl.1 rfl (Nat.le_of_ble_eq_true rfl) dX0_init_20 ⟨by decide, by decide⟩ (fun a20 Hn locsn ea hPn hDn hSn => ?_)
  clear hP hD hS
  subst ea
  have hP := hPn
  have hD := hDn
  have hS := hSn
  clear hPn hDn hSn
  refine x_putF C hP hD hS 14 1 (a := h0) (ci := 0) (fs := [.ref (a9 0), .null, .null, .null, .null, .null, .null, .null, .int 0]) (v := .ref (a20 0)) rfl rfl rfl lk_RX0_19 rfl rfl (ty := (.object "MilesHall$Lines")) (by decide +kernel) rfl rfl rfl dX0_init_23 (fun H locs hP hD hS => ?_)
  have hP : va_P D vwCl (x_oX3 cy a20 ++ (x_oX4 cy a9 ++ ((h0, .inr (0, [.ref (a9 0), .ref (a20 0), .null, .null, .null, .null, .null, .null, .int 0])) :: []))) _ := hP
  have hD : va_D A (x_oX3 cy a20 ++ (x_oX4 cy a9 ++ ((h0, .inr (0, [.ref (a9 0), .ref (a20 0), .null, .null, .null, .null, .null, .null, .int 0])) :: []))) := hD
  refine lv_aload_n hx hb dX0_init_26 rfl (lv_at hl 0 rfl) ?_
  refine x_newo C hP hD hS hA (fs := [.null, .null, .int 0]) nw_RX0_23 (ci := 9) rfl tyX9_ok (fun j hj => by rcases (show j = 0 ∨ j = 1 ∨ j = 2 by omega) with rfl | rfl | rfl <;> rfl) (by decide) (by decide) dX0_init_27 (fun q27 H hP hD hS => ?_)
  refine lv_dup hx hb dX0_init_30 rfl ?_
  refine x_ctor C.1 C.2.1 (rest := [_, _]) hP hD hS hA hA0 (c_X9_init hz) (Or.inr (by decide +kernel)) mi_X9_init (n := 0) (by decide +kernel) rfl ⟨rfl, rfl, by decide, by decide⟩ rfl hl.1 rfl (Nat.le_of_ble_eq_true rfl) dX0_init_31 ⟨by decide, by decide⟩ (fun a31 Hn locsn ea hPn hDn hSn => ?_)
  clear hP hD hS
  subst ea
  have hP := hPn
  have hD := hDn
  have hS := hSn
  clear hPn hDn hSn
  refine x_putF C hP hD hS 19 2 (a := h0) (ci := 0) (fs := [.ref (a9 0), .ref (a20 0), .null, .null, .null, .null, .null, .null, .int 0]) (v := .ref (a31 0)) rfl rfl rfl lk_RX0_26 rfl rfl (ty := (.object "MilesHall$Texts")) (by decide +kernel) rfl rfl rfl dX0_init_34 (fun H locs hP hD hS => ?_)
  have hP : va_P D vwCl (x_oX9 cy ad a31 ++ (x_oX3 cy a20 ++ (x_oX4 cy a9 ++ ((h0, .inr (0, [.ref (a9 0), .ref (a20 0), .ref (a31 0), .null, .null, .null, .null, .null, .int 0])) :: [])))) _ := hP
  have hD : va_D A (x_oX9 cy ad a31 ++ (x_oX3 cy a20 ++ (x_oX4 cy a9 ++ ((h0, .inr (0, [.ref (a9 0), .ref (a20 0), .ref (a31 0), .null, .null, .null, .null, .null, .int 0])) :: [])))) := hD
  refine lv_aload_n hx hb dX0_init_37 rfl (lv_at hl 0 rfl) ?_
  refine x_newo C hP hD hS hA (fs := [.null, .null, .null, .null, .null, .null, .null, .null, .int 0, .int 0]) nw_RX0_30 (ci := 6) rfl tyX6_ok (fun j hj => by rcases (show j = 0 ∨ j = 1 ∨ j = 2 ∨ j = 3 ∨ j = 4 ∨ j = 5 ∨ j = 6 ∨ j = 7 ∨ j = 8 ∨ j = 9 by omega) with rfl | rfl | rfl | rfl | rfl | rfl | rfl | rfl | rfl | rfl <;> rfl) (by decide) (by decide) dX0_init_38 (fun q38 H hP hD hS => ?_)
  refine lv_dup hx hb dX0_init_41 rfl ?_
  refine x_ctor C.1 C.2.1 (rest := [_, _]) hP hD hS hA hA0 (c_X6_init) (Or.inr (by decide +kernel)) mi_X6_init (n := 0) (by decide +kernel) rfl ⟨rfl, rfl, by decide, by decide⟩ rfl hl.1 rfl (Nat.le_of_ble_eq_true rfl) dX0_init_42 ⟨by decide, by decide⟩ (fun a42 Hn locsn ea hPn hDn hSn => ?_)
  clear hP hD hS
  subst ea
  have hP := hPn
  have hD := hDn
  have hS := hSn
  clear hPn hDn hSn
  refine x_putF C hP hD hS 28 3 (a := h0) (ci := 0) (fs := [.ref (a9 0), .ref (a20 0), .ref (a31 0), .null, .null, .null, .null, .null, .int 0]) (v := .ref (a42 0)) rfl rfl rfl lk_RX0_33 rfl rfl (ty := (.object "MilesHall$Seats")) (by decide +kernel) rfl rfl rfl dX0_init_45 (fun H locs hP hD hS => ?_)
  have hP : va_P D vwCl (x_oX6 cy a42 ++ (x_oX9 cy ad a31 ++ (x_oX3 cy a20 ++ (x_oX4 cy a9 ++ ((h0, .inr (0, [.ref (a9 0), .ref (a20 0), .ref (a31 0), .ref (a42 0), .null, .null, .null, .null, .int 0])) :: []))))) _ := hP
  have hD : va_D A (x_oX6 cy a42 ++ (x_oX9 cy ad a31 ++ (x_oX3 cy a20 ++ (x_oX4 cy a9 ++ ((h0, .inr (0, [.ref (a9 0), .ref (a20 0), .ref (a31 0), .ref (a42 0), .null, .null, .null, .null, .int 0])) :: []))))) := hD
  refine lv_aload_n hx hb dX0_init_48 rfl (lv_at hl 0 rfl) ?_
  refine x_newo C hP hD hS hA (fs := [.null, .null, .null, .int 0]) nw_RX0_37 (ci := 5) rfl tyX5_ok (fun j hj => by rcases (show j = 0 ∨ j = 1 ∨ j = 2 ∨ j = 3 by omega) with rfl | rfl | rfl | rfl <;> rfl) (by decide) (by decide) dX0_init_49 (fun q49 H hP hD hS => ?_)
  refine lv_dup hx hb dX0_init_52 rfl ?_
  refine x_ctor C.1 C.2.1 (rest := [_, _]) hP hD hS hA hA0 (c_X5_init) (Or.inr (by decide +kernel)) mi_X5_init (n := 0) (by decide +kernel) rfl ⟨rfl, rfl, by decide, by decide⟩ rfl hl.1 rfl (Nat.le_of_ble_eq_true rfl) dX0_init_53 ⟨by decide, by decide⟩ (fun a53 Hn locsn ea hPn hDn hSn => ?_)
  clear hP hD hS
  subst ea
  have hP := hPn
  have hD := hDn
  have hS := hSn
  clear hPn hDn hSn
  refine x_putF C hP hD hS 32 4 (a := h0) (ci := 0) (fs := [.ref (a9 0), .ref (a20 0), .ref (a31 0), .ref (a42 0), .null, .null, .null, .null, .int 0]) (v := .ref (a53 0)) rfl rfl rfl lk_RX0_40 rfl rfl (ty := (.object "MilesHall$Offers")) (by decide +kernel) rfl rfl rfl dX0_init_56 (fun H locs hP hD hS => ?_)
  have hP : va_P D vwCl (x_oX5 cy a53 ++ (x_oX6 cy a42 ++ (x_oX9 cy ad a31 ++ (x_oX3 cy a20 ++ (x_oX4 cy a9 ++ ((h0, .inr (0, [.ref (a9 0), .ref (a20 0), .ref (a31 0), .ref (a42 0), .ref (a53 0), .null, .null, .null, .int 0])) :: [])))))) _ := hP
  have hD : va_D A (x_oX5 cy a53 ++ (x_oX6 cy a42 ++ (x_oX9 cy ad a31 ++ (x_oX3 cy a20 ++ (x_oX4 cy a9 ++ ((h0, .inr (0, [.ref (a9 0), .ref (a20 0), .ref (a31 0), .ref (a42 0), .ref (a53 0), .null, .null, .null, .int 0])) :: [])))))) := hD
  refine lv_aload_n hx hb dX0_init_59 rfl (lv_at hl 0 rfl) ?_
  refine lv_iconst (v := (nI 3)) hx hb dX0_init_60 (by decide) ?_
  refine x_newa C hP hD hS hA 0 (N' := 3) wa_int rfl rfl rfl (by decide) (by decide) (by decide) (by decide) (by decide) dX0_init_61 (fun q61 H hP hD hS => ?_)
  refine lv_dup hx hb dX0_init_63 rfl ?_
  refine lv_iconst (v := (nI 0)) hx hb dX0_init_64 (by decide) ?_
  refine lv_bipush (v := (nI 30)) hx hb dX0_init_65 (by decide) ?_
  refine x_iastL C hP hD hS 0 rfl (j := 0) (by decide) (by unfold vp_in; decide) dX0_init_67 (fun H locs hP hD hS => ?_)
  have hP : va_P D vwCl ((q61, .inl (cy 0, 3, .inl (upd (fun _ => 0) 0 (nI 30)))) :: x_oX5 cy a53 ++ (x_oX6 cy a42 ++ (x_oX9 cy ad a31 ++ (x_oX3 cy a20 ++ (x_oX4 cy a9 ++ ((h0, .inr (0, [.ref (a9 0), .ref (a20 0), .ref (a31 0), .ref (a42 0), .ref (a53 0), .null, .null, .null, .int 0])) :: [])))))) _ := hP
  have hD : va_D A ((q61, .inl (cy 0, 3, .inl (upd (fun _ => 0) 0 (nI 30)))) :: x_oX5 cy a53 ++ (x_oX6 cy a42 ++ (x_oX9 cy ad a31 ++ (x_oX3 cy a20 ++ (x_oX4 cy a9 ++ ((h0, .inr (0, [.ref (a9 0), .ref (a20 0), .ref (a31 0), .ref (a42 0), .ref (a53 0), .null, .null, .null, .int 0])) :: [])))))) := hD
  refine lv_dup hx hb dX0_init_68 rfl ?_
  refine lv_iconst (v := (nI 1)) hx hb dX0_init_69 (by decide) ?_
  refine lv_bipush (v := (nI 90)) hx hb dX0_init_70 (by decide) ?_
  refine x_iastL C hP hD hS 0 rfl (j := 1) (by decide) (by unfold vp_in; decide) dX0_init_72 (fun H locs hP hD hS => ?_)
  have hP : va_P D vwCl ((q61, .inl (cy 0, 3, .inl (upd (upd (fun _ => 0) 0 (nI 30)) 1 (nI 90)))) :: x_oX5 cy a53 ++ (x_oX6 cy a42 ++ (x_oX9 cy ad a31 ++ (x_oX3 cy a20 ++ (x_oX4 cy a9 ++ ((h0, .inr (0, [.ref (a9 0), .ref (a20 0), .ref (a31 0), .ref (a42 0), .ref (a53 0), .null, .null, .null, .int 0])) :: [])))))) _ := hP
  have hD : va_D A ((q61, .inl (cy 0, 3, .inl (upd (upd (fun _ => 0) 0 (nI 30)) 1 (nI 90)))) :: x_oX5 cy a53 ++ (x_oX6 cy a42 ++ (x_oX9 cy ad a31 ++ (x_oX3 cy a20 ++ (x_oX4 cy a9 ++ ((h0, .inr (0, [.ref (a9 0), .ref (a20 0), .ref (a31 0), .ref (a42 0), .ref (a53 0), .null, .null, .null, .int 0])) :: [])))))) := hD
  refine lv_dup hx hb dX0_init_73 rfl ?_
  refine lv_iconst (v := (nI 2)) hx hb dX0_init_74 (by decide) ?_
  refine lv_bipush (v := (nI 60)) hx hb dX0_init_75 (by decide) ?_
  refine x_iastL C hP hD hS 0 rfl (j := 2) (by decide) (by unfold vp_in; decide) dX0_init_77 (fun H locs hP hD hS => ?_)
  have hP : va_P D vwCl ((q61, .inl (cy 0, 3, .inl (upd (upd (upd (fun _ => 0) 0 (nI 30)) 1 (nI 90)) 2 (nI 60)))) :: x_oX5 cy a53 ++ (x_oX6 cy a42 ++ (x_oX9 cy ad a31 ++ (x_oX3 cy a20 ++ (x_oX4 cy a9 ++ ((h0, .inr (0, [.ref (a9 0), .ref (a20 0), .ref (a31 0), .ref (a42 0), .ref (a53 0), .null, .null, .null, .int 0])) :: [])))))) _ := hP
  have hD : va_D A ((q61, .inl (cy 0, 3, .inl (upd (upd (upd (fun _ => 0) 0 (nI 30)) 1 (nI 90)) 2 (nI 60)))) :: x_oX5 cy a53 ++ (x_oX6 cy a42 ++ (x_oX9 cy ad a31 ++ (x_oX3 cy a20 ++ (x_oX4 cy a9 ++ ((h0, .inr (0, [.ref (a9 0), .ref (a20 0), .ref (a31 0), .ref (a42 0), .ref (a53 0), .null, .null, .null, .int 0])) :: [])))))) := hD
  refine x_putF C hP hD hS 33 5 (a := h0) (ci := 0) (fs := [.ref (a9 0), .ref (a20 0), .ref (a31 0), .ref (a42 0), .ref (a53 0), .null, .null, .null, .int 0]) (v := .ref q61) rfl rfl rfl lk_RX0_44 rfl rfl (ty := (.array .int)) (by decide +kernel) rfl rfl rfl dX0_init_78 (fun H locs hP hD hS => ?_)
  have hP : va_P D vwCl ((q61, .inl (cy 0, 3, .inl (upd (upd (upd (fun _ => 0) 0 (nI 30)) 1 (nI 90)) 2 (nI 60)))) :: x_oX5 cy a53 ++ (x_oX6 cy a42 ++ (x_oX9 cy ad a31 ++ (x_oX3 cy a20 ++ (x_oX4 cy a9 ++ ((h0, .inr (0, [.ref (a9 0), .ref (a20 0), .ref (a31 0), .ref (a42 0), .ref (a53 0), .ref q61, .null, .null, .int 0])) :: [])))))) _ := hP
  have hD : va_D A ((q61, .inl (cy 0, 3, .inl (upd (upd (upd (fun _ => 0) 0 (nI 30)) 1 (nI 90)) 2 (nI 60)))) :: x_oX5 cy a53 ++ (x_oX6 cy a42 ++ (x_oX9 cy ad a31 ++ (x_oX3 cy a20 ++ (x_oX4 cy a9 ++ ((h0, .inr (0, [.ref (a9 0), .ref (a20 0), .ref (a31 0), .ref (a42 0), .ref (a53 0), .ref q61, .null, .null, .int 0])) :: [])))))) := hD
  refine lv_aload_n hx hb dX0_init_81 rfl (lv_at hl 0 rfl) ?_
  refine lv_iconst (v := (nI 4)) hx hb dX0_init_82 (by decide) ?_
  refine x_newa C hP hD hS hA 0 (N' := 4) wa_int rfl rfl rfl (by decide) (by decide) (by decide) (by decide) (by decide) dX0_init_83 (fun q83 H hP hD hS => ?_)
  refine lv_dup hx hb dX0_init_85 rfl ?_
  refine lv_iconst (v := (nI 0)) hx hb dX0_init_86 (by decide) ?_
  refine lv_iconst (v := (nI 0)) hx hb dX0_init_87 (by decide) ?_
  refine x_iastL C hP hD hS 0 rfl (j := 0) (by decide) (by unfold vp_in; decide) dX0_init_88 (fun H locs hP hD hS => ?_)
  have hP : va_P D vwCl ((q83, .inl (cy 0, 4, .inl (upd (fun _ => 0) 0 (nI 0)))) :: (q61, .inl (cy 0, 3, .inl (upd (upd (upd (fun _ => 0) 0 (nI 30)) 1 (nI 90)) 2 (nI 60)))) :: x_oX5 cy a53 ++ (x_oX6 cy a42 ++ (x_oX9 cy ad a31 ++ (x_oX3 cy a20 ++ (x_oX4 cy a9 ++ ((h0, .inr (0, [.ref (a9 0), .ref (a20 0), .ref (a31 0), .ref (a42 0), .ref (a53 0), .ref q61, .null, .null, .int 0])) :: [])))))) _ := hP
  have hD : va_D A ((q83, .inl (cy 0, 4, .inl (upd (fun _ => 0) 0 (nI 0)))) :: (q61, .inl (cy 0, 3, .inl (upd (upd (upd (fun _ => 0) 0 (nI 30)) 1 (nI 90)) 2 (nI 60)))) :: x_oX5 cy a53 ++ (x_oX6 cy a42 ++ (x_oX9 cy ad a31 ++ (x_oX3 cy a20 ++ (x_oX4 cy a9 ++ ((h0, .inr (0, [.ref (a9 0), .ref (a20 0), .ref (a31 0), .ref (a42 0), .ref (a53 0), .ref q61, .null, .null, .int 0])) :: [])))))) := hD
  refine lv_dup hx hb dX0_init_89 rfl ?_
  refine lv_iconst (v := (nI 1)) hx hb dX0_init_90 (by decide) ?_
  refine lv_bipush (v := (nI 10)) hx hb dX0_init_91 (by decide) ?_
  refine x_iastL C hP hD hS 0 rfl (j := 1) (by decide) (by unfold vp_in; decide) dX0_init_93 (fun H locs hP hD hS => ?_)
  have hP : va_P D vwCl ((q83, .inl (cy 0, 4, .inl (upd (upd (fun _ => 0) 0 (nI 0)) 1 (nI 10)))) :: (q61, .inl (cy 0, 3, .inl (upd (upd (upd (fun _ => 0) 0 (nI 30)) 1 (nI 90)) 2 (nI 60)))) :: x_oX5 cy a53 ++ (x_oX6 cy a42 ++ (x_oX9 cy ad a31 ++ (x_oX3 cy a20 ++ (x_oX4 cy a9 ++ ((h0, .inr (0, [.ref (a9 0), .ref (a20 0), .ref (a31 0), .ref (a42 0), .ref (a53 0), .ref q61, .null, .null, .int 0])) :: [])))))) _ := hP
  have hD : va_D A ((q83, .inl (cy 0, 4, .inl (upd (upd (fun _ => 0) 0 (nI 0)) 1 (nI 10)))) :: (q61, .inl (cy 0, 3, .inl (upd (upd (upd (fun _ => 0) 0 (nI 30)) 1 (nI 90)) 2 (nI 60)))) :: x_oX5 cy a53 ++ (x_oX6 cy a42 ++ (x_oX9 cy ad a31 ++ (x_oX3 cy a20 ++ (x_oX4 cy a9 ++ ((h0, .inr (0, [.ref (a9 0), .ref (a20 0), .ref (a31 0), .ref (a42 0), .ref (a53 0), .ref q61, .null, .null, .int 0])) :: [])))))) := hD
  refine lv_dup hx hb dX0_init_94 rfl ?_
  refine lv_iconst (v := (nI 2)) hx hb dX0_init_95 (by decide) ?_
  refine lv_bipush (v := (nI 10)) hx hb dX0_init_96 (by decide) ?_
  refine x_iastL C hP hD hS 0 rfl (j := 2) (by decide) (by unfold vp_in; decide) dX0_init_98 (fun H locs hP hD hS => ?_)
  have hP : va_P D vwCl ((q83, .inl (cy 0, 4, .inl (upd (upd (upd (fun _ => 0) 0 (nI 0)) 1 (nI 10)) 2 (nI 10)))) :: (q61, .inl (cy 0, 3, .inl (upd (upd (upd (fun _ => 0) 0 (nI 30)) 1 (nI 90)) 2 (nI 60)))) :: x_oX5 cy a53 ++ (x_oX6 cy a42 ++ (x_oX9 cy ad a31 ++ (x_oX3 cy a20 ++ (x_oX4 cy a9 ++ ((h0, .inr (0, [.ref (a9 0), .ref (a20 0), .ref (a31 0), .ref (a42 0), .ref (a53 0), .ref q61, .null, .null, .int 0])) :: [])))))) _ := hP
  have hD : va_D A ((q83, .inl (cy 0, 4, .inl (upd (upd (upd (fun _ => 0) 0 (nI 0)) 1 (nI 10)) 2 (nI 10)))) :: (q61, .inl (cy 0, 3, .inl (upd (upd (upd (fun _ => 0) 0 (nI 30)) 1 (nI 90)) 2 (nI 60)))) :: x_oX5 cy a53 ++ (x_oX6 cy a42 ++ (x_oX9 cy ad a31 ++ (x_oX3 cy a20 ++ (x_oX4 cy a9 ++ ((h0, .inr (0, [.ref (a9 0), .ref (a20 0), .ref (a31 0), .ref (a42 0), .ref (a53 0), .ref q61, .null, .null, .int 0])) :: [])))))) := hD
  refine lv_dup hx hb dX0_init_99 rfl ?_
  refine lv_iconst (v := (nI 3)) hx hb dX0_init_100 (by decide) ?_
  refine lv_bipush (v := (nI 10)) hx hb dX0_init_101 (by decide) ?_
  refine x_iastL C hP hD hS 0 rfl (j := 3) (by decide) (by unfold vp_in; decide) dX0_init_103 (fun H locs hP hD hS => ?_)
  have hP : va_P D vwCl ((q83, .inl (cy 0, 4, .inl (upd (upd (upd (upd (fun _ => 0) 0 (nI 0)) 1 (nI 10)) 2 (nI 10)) 3 (nI 10)))) :: (q61, .inl (cy 0, 3, .inl (upd (upd (upd (fun _ => 0) 0 (nI 30)) 1 (nI 90)) 2 (nI 60)))) :: x_oX5 cy a53 ++ (x_oX6 cy a42 ++ (x_oX9 cy ad a31 ++ (x_oX3 cy a20 ++ (x_oX4 cy a9 ++ ((h0, .inr (0, [.ref (a9 0), .ref (a20 0), .ref (a31 0), .ref (a42 0), .ref (a53 0), .ref q61, .null, .null, .int 0])) :: [])))))) _ := hP
  have hD : va_D A ((q83, .inl (cy 0, 4, .inl (upd (upd (upd (upd (fun _ => 0) 0 (nI 0)) 1 (nI 10)) 2 (nI 10)) 3 (nI 10)))) :: (q61, .inl (cy 0, 3, .inl (upd (upd (upd (fun _ => 0) 0 (nI 30)) 1 (nI 90)) 2 (nI 60)))) :: x_oX5 cy a53 ++ (x_oX6 cy a42 ++ (x_oX9 cy ad a31 ++ (x_oX3 cy a20 ++ (x_oX4 cy a9 ++ ((h0, .inr (0, [.ref (a9 0), .ref (a20 0), .ref (a31 0), .ref (a42 0), .ref (a53 0), .ref q61, .null, .null, .int 0])) :: [])))))) := hD
  refine x_putF C hP hD hS 34 6 (a := h0) (ci := 0) (fs := [.ref (a9 0), .ref (a20 0), .ref (a31 0), .ref (a42 0), .ref (a53 0), .ref q61, .null, .null, .int 0]) (v := .ref q83) rfl rfl rfl lk_RX0_48 rfl rfl (ty := (.array .int)) (by decide +kernel) rfl rfl rfl dX0_init_104 (fun H locs hP hD hS => ?_)
  have hP : va_P D vwCl ((q83, .inl (cy 0, 4, .inl (upd (upd (upd (upd (fun _ => 0) 0 (nI 0)) 1 (nI 10)) 2 (nI 10)) 3 (nI 10)))) :: (q61, .inl (cy 0, 3, .inl (upd (upd (upd (fun _ => 0) 0 (nI 30)) 1 (nI 90)) 2 (nI 60)))) :: x_oX5 cy a53 ++ (x_oX6 cy a42 ++ (x_oX9 cy ad a31 ++ (x_oX3 cy a20 ++ (x_oX4 cy a9 ++ ((h0, .inr (0, [.ref (a9 0), .ref (a20 0), .ref (a31 0), .ref (a42 0), .ref (a53 0), .ref q61, .ref q83, .null, .int 0])) :: [])))))) _ := hP
  have hD : va_D A ((q83, .inl (cy 0, 4, .inl (upd (upd (upd (upd (fun _ => 0) 0 (nI 0)) 1 (nI 10)) 2 (nI 10)) 3 (nI 10)))) :: (q61, .inl (cy 0, 3, .inl (upd (upd (upd (fun _ => 0) 0 (nI 30)) 1 (nI 90)) 2 (nI 60)))) :: x_oX5 cy a53 ++ (x_oX6 cy a42 ++ (x_oX9 cy ad a31 ++ (x_oX3 cy a20 ++ (x_oX4 cy a9 ++ ((h0, .inr (0, [.ref (a9 0), .ref (a20 0), .ref (a31 0), .ref (a42 0), .ref (a53 0), .ref q61, .ref q83, .null, .int 0])) :: [])))))) := hD
  refine lv_aload_n hx hb dX0_init_107 rfl (lv_at hl 0 rfl) ?_
  refine lv_iconst (v := (nI 4)) hx hb dX0_init_108 (by decide) ?_
  refine x_newa C hP hD hS hA 0 (N' := 4) wa_int rfl rfl rfl (by decide) (by decide) (by decide) (by decide) (by decide) dX0_init_109 (fun q109 H hP hD hS => ?_)
  refine lv_dup hx hb dX0_init_111 rfl ?_
  refine lv_iconst (v := (nI 0)) hx hb dX0_init_112 (by decide) ?_
  refine lv_iconst (v := (nI 0)) hx hb dX0_init_113 (by decide) ?_
  refine x_iastL C hP hD hS 0 rfl (j := 0) (by decide) (by unfold vp_in; decide) dX0_init_114 (fun H locs hP hD hS => ?_)
  have hP : va_P D vwCl ((q109, .inl (cy 0, 4, .inl (upd (fun _ => 0) 0 (nI 0)))) :: (q83, .inl (cy 0, 4, .inl (upd (upd (upd (upd (fun _ => 0) 0 (nI 0)) 1 (nI 10)) 2 (nI 10)) 3 (nI 10)))) :: (q61, .inl (cy 0, 3, .inl (upd (upd (upd (fun _ => 0) 0 (nI 30)) 1 (nI 90)) 2 (nI 60)))) :: x_oX5 cy a53 ++ (x_oX6 cy a42 ++ (x_oX9 cy ad a31 ++ (x_oX3 cy a20 ++ (x_oX4 cy a9 ++ ((h0, .inr (0, [.ref (a9 0), .ref (a20 0), .ref (a31 0), .ref (a42 0), .ref (a53 0), .ref q61, .ref q83, .null, .int 0])) :: [])))))) _ := hP
  have hD : va_D A ((q109, .inl (cy 0, 4, .inl (upd (fun _ => 0) 0 (nI 0)))) :: (q83, .inl (cy 0, 4, .inl (upd (upd (upd (upd (fun _ => 0) 0 (nI 0)) 1 (nI 10)) 2 (nI 10)) 3 (nI 10)))) :: (q61, .inl (cy 0, 3, .inl (upd (upd (upd (fun _ => 0) 0 (nI 30)) 1 (nI 90)) 2 (nI 60)))) :: x_oX5 cy a53 ++ (x_oX6 cy a42 ++ (x_oX9 cy ad a31 ++ (x_oX3 cy a20 ++ (x_oX4 cy a9 ++ ((h0, .inr (0, [.ref (a9 0), .ref (a20 0), .ref (a31 0), .ref (a42 0), .ref (a53 0), .ref q61, .ref q83, .null, .int 0])) :: [])))))) := hD
  refine lv_dup hx hb dX0_init_115 rfl ?_
  refine lv_iconst (v := (nI 1)) hx hb dX0_init_116 (by decide) ?_
  refine lv_bipush (v := (nI 8)) hx hb dX0_init_117 (by decide) ?_
  refine x_iastL C hP hD hS 0 rfl (j := 1) (by decide) (by unfold vp_in; decide) dX0_init_119 (fun H locs hP hD hS => ?_)
  have hP : va_P D vwCl ((q109, .inl (cy 0, 4, .inl (upd (upd (fun _ => 0) 0 (nI 0)) 1 (nI 8)))) :: (q83, .inl (cy 0, 4, .inl (upd (upd (upd (upd (fun _ => 0) 0 (nI 0)) 1 (nI 10)) 2 (nI 10)) 3 (nI 10)))) :: (q61, .inl (cy 0, 3, .inl (upd (upd (upd (fun _ => 0) 0 (nI 30)) 1 (nI 90)) 2 (nI 60)))) :: x_oX5 cy a53 ++ (x_oX6 cy a42 ++ (x_oX9 cy ad a31 ++ (x_oX3 cy a20 ++ (x_oX4 cy a9 ++ ((h0, .inr (0, [.ref (a9 0), .ref (a20 0), .ref (a31 0), .ref (a42 0), .ref (a53 0), .ref q61, .ref q83, .null, .int 0])) :: [])))))) _ := hP
  have hD : va_D A ((q109, .inl (cy 0, 4, .inl (upd (upd (fun _ => 0) 0 (nI 0)) 1 (nI 8)))) :: (q83, .inl (cy 0, 4, .inl (upd (upd (upd (upd (fun _ => 0) 0 (nI 0)) 1 (nI 10)) 2 (nI 10)) 3 (nI 10)))) :: (q61, .inl (cy 0, 3, .inl (upd (upd (upd (fun _ => 0) 0 (nI 30)) 1 (nI 90)) 2 (nI 60)))) :: x_oX5 cy a53 ++ (x_oX6 cy a42 ++ (x_oX9 cy ad a31 ++ (x_oX3 cy a20 ++ (x_oX4 cy a9 ++ ((h0, .inr (0, [.ref (a9 0), .ref (a20 0), .ref (a31 0), .ref (a42 0), .ref (a53 0), .ref q61, .ref q83, .null, .int 0])) :: [])))))) := hD
  refine lv_dup hx hb dX0_init_120 rfl ?_
  refine lv_iconst (v := (nI 2)) hx hb dX0_init_121 (by decide) ?_
  refine lv_bipush (v := (nI 8)) hx hb dX0_init_122 (by decide) ?_
  refine x_iastL C hP hD hS 0 rfl (j := 2) (by decide) (by unfold vp_in; decide) dX0_init_124 (fun H locs hP hD hS => ?_)
  have hP : va_P D vwCl ((q109, .inl (cy 0, 4, .inl (upd (upd (upd (fun _ => 0) 0 (nI 0)) 1 (nI 8)) 2 (nI 8)))) :: (q83, .inl (cy 0, 4, .inl (upd (upd (upd (upd (fun _ => 0) 0 (nI 0)) 1 (nI 10)) 2 (nI 10)) 3 (nI 10)))) :: (q61, .inl (cy 0, 3, .inl (upd (upd (upd (fun _ => 0) 0 (nI 30)) 1 (nI 90)) 2 (nI 60)))) :: x_oX5 cy a53 ++ (x_oX6 cy a42 ++ (x_oX9 cy ad a31 ++ (x_oX3 cy a20 ++ (x_oX4 cy a9 ++ ((h0, .inr (0, [.ref (a9 0), .ref (a20 0), .ref (a31 0), .ref (a42 0), .ref (a53 0), .ref q61, .ref q83, .null, .int 0])) :: [])))))) _ := hP
  have hD : va_D A ((q109, .inl (cy 0, 4, .inl (upd (upd (upd (fun _ => 0) 0 (nI 0)) 1 (nI 8)) 2 (nI 8)))) :: (q83, .inl (cy 0, 4, .inl (upd (upd (upd (upd (fun _ => 0) 0 (nI 0)) 1 (nI 10)) 2 (nI 10)) 3 (nI 10)))) :: (q61, .inl (cy 0, 3, .inl (upd (upd (upd (fun _ => 0) 0 (nI 30)) 1 (nI 90)) 2 (nI 60)))) :: x_oX5 cy a53 ++ (x_oX6 cy a42 ++ (x_oX9 cy ad a31 ++ (x_oX3 cy a20 ++ (x_oX4 cy a9 ++ ((h0, .inr (0, [.ref (a9 0), .ref (a20 0), .ref (a31 0), .ref (a42 0), .ref (a53 0), .ref q61, .ref q83, .null, .int 0])) :: [])))))) := hD
  refine lv_dup hx hb dX0_init_125 rfl ?_
  refine lv_iconst (v := (nI 3)) hx hb dX0_init_126 (by decide) ?_
  refine lv_bipush (v := (nI 8)) hx hb dX0_init_127 (by decide) ?_
  refine x_iastL C hP hD hS 0 rfl (j := 3) (by decide) (by unfold vp_in; decide) dX0_init_129 (fun H locs hP hD hS => ?_)
  have hP : va_P D vwCl ((q109, .inl (cy 0, 4, .inl (upd (upd (upd (upd (fun _ => 0) 0 (nI 0)) 1 (nI 8)) 2 (nI 8)) 3 (nI 8)))) :: (q83, .inl (cy 0, 4, .inl (upd (upd (upd (upd (fun _ => 0) 0 (nI 0)) 1 (nI 10)) 2 (nI 10)) 3 (nI 10)))) :: (q61, .inl (cy 0, 3, .inl (upd (upd (upd (fun _ => 0) 0 (nI 30)) 1 (nI 90)) 2 (nI 60)))) :: x_oX5 cy a53 ++ (x_oX6 cy a42 ++ (x_oX9 cy ad a31 ++ (x_oX3 cy a20 ++ (x_oX4 cy a9 ++ ((h0, .inr (0, [.ref (a9 0), .ref (a20 0), .ref (a31 0), .ref (a42 0), .ref (a53 0), .ref q61, .ref q83, .null, .int 0])) :: [])))))) _ := hP
  have hD : va_D A ((q109, .inl (cy 0, 4, .inl (upd (upd (upd (upd (fun _ => 0) 0 (nI 0)) 1 (nI 8)) 2 (nI 8)) 3 (nI 8)))) :: (q83, .inl (cy 0, 4, .inl (upd (upd (upd (upd (fun _ => 0) 0 (nI 0)) 1 (nI 10)) 2 (nI 10)) 3 (nI 10)))) :: (q61, .inl (cy 0, 3, .inl (upd (upd (upd (fun _ => 0) 0 (nI 30)) 1 (nI 90)) 2 (nI 60)))) :: x_oX5 cy a53 ++ (x_oX6 cy a42 ++ (x_oX9 cy ad a31 ++ (x_oX3 cy a20 ++ (x_oX4 cy a9 ++ ((h0, .inr (0, [.ref (a9 0), .ref (a20 0), .ref (a31 0), .ref (a42 0), .ref (a53 0), .ref q61, .ref q83, .null, .int 0])) :: [])))))) := hD
  refine x_putF C hP hD hS 35 7 (a := h0) (ci := 0) (fs := [.ref (a9 0), .ref (a20 0), .ref (a31 0), .ref (a42 0), .ref (a53 0), .ref q61, .ref q83, .null, .int 0]) (v := .ref q109) rfl rfl rfl lk_RX0_51 rfl rfl (ty := (.array .int)) (by decide +kernel) rfl rfl rfl dX0_init_130 (fun H locs hP hD hS => ?_)
  have hP : va_P D vwCl ((q109, .inl (cy 0, 4, .inl (upd (upd (upd (upd (fun _ => 0) 0 (nI 0)) 1 (nI 8)) 2 (nI 8)) 3 (nI 8)))) :: (q83, .inl (cy 0, 4, .inl (upd (upd (upd (upd (fun _ => 0) 0 (nI 0)) 1 (nI 10)) 2 (nI 10)) 3 (nI 10)))) :: (q61, .inl (cy 0, 3, .inl (upd (upd (upd (fun _ => 0) 0 (nI 30)) 1 (nI 90)) 2 (nI 60)))) :: x_oX5 cy a53 ++ (x_oX6 cy a42 ++ (x_oX9 cy ad a31 ++ (x_oX3 cy a20 ++ (x_oX4 cy a9 ++ ((h0, .inr (0, [.ref (a9 0), .ref (a20 0), .ref (a31 0), .ref (a42 0), .ref (a53 0), .ref q61, .ref q83, .ref q109, .int 0])) :: [])))))) _ := hP
  have hD : va_D A ((q109, .inl (cy 0, 4, .inl (upd (upd (upd (upd (fun _ => 0) 0 (nI 0)) 1 (nI 8)) 2 (nI 8)) 3 (nI 8)))) :: (q83, .inl (cy 0, 4, .inl (upd (upd (upd (upd (fun _ => 0) 0 (nI 0)) 1 (nI 10)) 2 (nI 10)) 3 (nI 10)))) :: (q61, .inl (cy 0, 3, .inl (upd (upd (upd (fun _ => 0) 0 (nI 30)) 1 (nI 90)) 2 (nI 60)))) :: x_oX5 cy a53 ++ (x_oX6 cy a42 ++ (x_oX9 cy ad a31 ++ (x_oX3 cy a20 ++ (x_oX4 cy a9 ++ ((h0, .inr (0, [.ref (a9 0), .ref (a20 0), .ref (a31 0), .ref (a42 0), .ref (a53 0), .ref q61, .ref q83, .ref q109, .int 0])) :: [])))))) := hD
  have hPz := hP.sub (ws' := x_oX0 cy ad (fun k => ([h0, (a9 0), (a9 1), (a9 2), (a9 3), (a20 0), (a20 1), (a20 2), (a20 3), (a20 4), (a20 5), (a20 6), (a20 7), (a20 8), (a20 9), (a31 0), (a31 1), (a42 0), (a42 1), (a42 2), (a42 3), (a42 4), (a42 5), (a42 6), (a42 7), (a42 8), (a53 0), (a53 1), (a53 2), (a53 3), q61, q83, q109, (a31 2), (a31 3), (a31 4)] : List Nat).getD k 0)) [35, 31, 32, 33, 34, 21, 22, 23, 24, 25, 26, 27, 28, 29, 30, 16, 17, 7, 8, 9, 10, 11, 12, 13, 14, 15, 3, 4, 5, 6, 2, 1, 0, 18, 19, 20] rfl
  have hDz := hD.sub (ws' := x_oX0 cy ad (fun k => ([h0, (a9 0), (a9 1), (a9 2), (a9 3), (a20 0), (a20 1), (a20 2), (a20 3), (a20 4), (a20 5), (a20 6), (a20 7), (a20 8), (a20 9), (a31 0), (a31 1), (a42 0), (a42 1), (a42 2), (a42 3), (a42 4), (a42 5), (a42 6), (a42 7), (a42 8), (a53 0), (a53 1), (a53 2), (a53 3), q61, q83, q109, (a31 2), (a31 3), (a31 4)] : List Nat).getD k 0)) [35, 31, 32, 33, 34, 21, 22, 23, 24, 25, 26, 27, 28, 29, 30, 16, 17, 7, 8, 9, 10, 11, 12, 13, 14, 15, 3, 4, 5, 6, 2, 1, 0, 18, 19, 20] (by decide) rfl
  exact hret (fun k => ([h0, (a9 0), (a9 1), (a9 2), (a9 3), (a20 0), (a20 1), (a20 2), (a20 3), (a20 4), (a20 5), (a20 6), (a20 7), (a20 8), (a20 9), (a31 0), (a31 1), (a42 0), (a42 1), (a42 2), (a42 3), (a42 4), (a42 5), (a42 6), (a42 7), (a42 8), (a53 0), (a53 1), (a53 2), (a53 3), q61, q83, q109, (a31 2), (a31 3), (a31 4)] : List Nat).getD k 0) dX0_init_133 rfl hPz hDz hS
def x_oX1 (cy : Nat → ClassId) (a : Nat → Nat) : va_W := [((a 0), .inr (1, [.ref (a 1), .int 0, .int 0, .int 0, .int 0, .int 0, .int 0, .int 0, .int 0, .int 0, .int 0])), ((a 1), .inl (cy 0, 132, .inl (fun _ => 0)))]
abbrev rm_X1_init : Room := { frames := 1, cells := 1, slots := 132, locals := 40 }
set_option maxHeartbeats 4000000 in
set_option maxRecDepth 100000 in
theorem c_X1_init {l : Launch} {D : va_G} {cy : Nat → ClassId} {s0 : State} {h0 : Nat} : x_Cn l D cy s0 yX1_init (x_uw yX1_init cX1_init 1 none) rm_X1_init h0 [] [(h0, .inr (1, [.null, .int 0, .int 0, .int 0, .int 0, .int 0, .int 0, .int 0, .int 0, .int 0, .int 0]))] (x_oX1 cy) 1 132 := by
  refine x_metc (by decide) rfl (Nat.le_of_ble_eq_true rfl) ?_
  intro p e s m args below meth c ls Q A C hA hA0 hAi hret hl hP hD hS
  have hx := C.1.1
  have hb := C.1.2.1
  have ho := C.1.2.2.2.1
  have hL := C.1.2.2.2.2
  have hl : lv_has ls 1 [(0, .ref h0)] := hl
  have hS : va_S A s.heap s.heap [] := hS
  refine lv_aload_n hx hb dX1_init_0 rfl (lv_at hl 0 rfl) ?_
  refine x_objI C (rest := []) oi_RX1_3 hl.1 dX1_init_1 ⟨by decide, Nat.le_of_ble_eq_true rfl⟩ ?_
  refine lv_aload_n hx hb dX1_init_4 rfl (lv_at hl 0 rfl) ?_
  refine lv_sipush (v := (nI 132)) hx hb dX1_init_5 (by decide) ?_
  refine x_newa C hP hD hS hA 0 (N' := 132) wa_int rfl rfl rfl (by decide) (by decide) (by decide) (by decide) (by decide) dX1_init_8 (fun q8 H hP hD hS => ?_)
  refine x_putF C hP hD hS 1 0 (a := h0) (ci := 1) (fs := [.null, .int 0, .int 0, .int 0, .int 0, .int 0, .int 0, .int 0, .int 0, .int 0, .int 0]) (v := .ref q8) rfl rfl rfl lk_RX1_9 rfl rfl (ty := (.array .int)) (by decide +kernel) rfl rfl rfl dX1_init_10 (fun H locs hP hD hS => ?_)
  have hP : va_P D vwCl ((q8, .inl (cy 0, 132, .inl (fun _ => 0))) :: (h0, .inr (1, [.ref q8, .int 0, .int 0, .int 0, .int 0, .int 0, .int 0, .int 0, .int 0, .int 0, .int 0])) :: []) _ := hP
  have hD : va_D A ((q8, .inl (cy 0, 132, .inl (fun _ => 0))) :: (h0, .inr (1, [.ref q8, .int 0, .int 0, .int 0, .int 0, .int 0, .int 0, .int 0, .int 0, .int 0, .int 0])) :: []) := hD
  have hPz := hP.sub (ws' := x_oX1 cy (fun k => ([h0, q8] : List Nat).getD k 0)) [1, 0] rfl
  have hDz := hD.sub (ws' := x_oX1 cy (fun k => ([h0, q8] : List Nat).getD k 0)) [1, 0] (by decide) rfl
  exact hret (fun k => ([h0, q8] : List Nat).getD k 0) dX1_init_13 rfl hPz hDz hS
def x_oX2 (cy : Nat → ClassId) (a : Nat → Nat) : va_W := [((a 0), .inr (2, [.ref (a 1), .ref (a 3), .ref (a 4), .ref (a 5), .ref (a 6), .ref (a 7), .ref (a 8), .ref (a 9), .ref (a 10), .int 0])), ((a 1), .inr (1, [.ref (a 2), .int 0, .int 0, .int 0, .int 0, .int 0, .int 0, .int 0, .int 0, .int 0, .int 0])), ((a 2), .inl (cy 0, 132, .inl (fun _ => 0))), ((a 3), .inl (cy 0, 100, .inl (fun _ => 0))), ((a 4), .inl (cy 0, 100, .inl (fun _ => 0))), ((a 5), .inl (cy 0, 100, .inl (fun _ => 0))), ((a 6), .inl (cy 0, 40, .inl (fun _ => 0))), ((a 7), .inl (cy 0, 4, .inl (fun _ => 0))), ((a 8), .inl (cy 0, 4, .inl (fun _ => 0))), ((a 9), .inl (cy 0, 100, .inl (fun _ => 0))), ((a 10), .inl (cy 0, 100, .inl (fun _ => 0)))]
abbrev rm_X2_init : Room := { frames := 2, cells := 10, slots := 691, locals := 60 }
set_option maxHeartbeats 4000000 in
set_option maxRecDepth 100000 in
theorem c_X2_init {l : Launch} {D : va_G} {cy : Nat → ClassId} {s0 : State} {h0 : Nat} : x_Cn l D cy s0 yX2_init (x_uw yX2_init cX2_init 1 none) rm_X2_init h0 [] [(h0, .inr (2, [.null, .null, .null, .null, .null, .null, .null, .null, .null, .int 0]))] (x_oX2 cy) 10 691 := by
  refine x_metc (by decide) rfl (Nat.le_of_ble_eq_true rfl) ?_
  intro p e s m args below meth c ls Q A C hA hA0 hAi hret hl hP hD hS
  have hx := C.1.1
  have hb := C.1.2.1
  have ho := C.1.2.2.2.1
  have hL := C.1.2.2.2.2
  have hl : lv_has ls 1 [(0, .ref h0)] := hl
  have hS : va_S A s.heap s.heap [] := hS
  refine lv_aload_n hx hb dX2_init_0 rfl (lv_at hl 0 rfl) ?_
  refine x_objI C (rest := []) oi_RX2_3 hl.1 dX2_init_1 ⟨by decide, Nat.le_of_ble_eq_true rfl⟩ ?_
  refine lv_aload_n hx hb dX2_init_4 rfl (lv_at hl 0 rfl) ?_
  refine x_newo C hP hD hS hA (fs := [.null, .int 0, .int 0, .int 0, .int 0, .int 0, .int 0, .int 0, .int 0, .int 0, .int 0]) nw_RX2_9 (ci := 1) rfl tyX1_ok (fun j hj => by rcases (show j = 0 ∨ j = 1 ∨ j = 2 ∨ j = 3 ∨ j = 4 ∨ j = 5 ∨ j = 6 ∨ j = 7 ∨ j = 8 ∨ j = 9 ∨ j = 10 by omega) with rfl | rfl | rfl | rfl | rfl | rfl | rfl | rfl | rfl | rfl | rfl <;> rfl) (by decide) (by decide) dX2_init_5 (fun q5 H hP hD hS => ?_)
  refine lv_dup hx hb dX2_init_8 rfl ?_
  refine x_ctor C.1 C.2.1 (rest := [_, _]) hP hD hS hA hA0 (c_X1_init) (Or.inr (by decide +kernel)) mi_X1_init (n := 0) (by decide +kernel) rfl ⟨rfl, rfl, by decide, by decide⟩ rfl hl.1 rfl (Nat.le_of_ble_eq_true rfl) dX2_init_9 ⟨by decide, by decide⟩ (fun a9 Hn locsn ea hPn hDn hSn => ?_)
  clear hP hD hS
  subst ea
  have hP := hPn
  have hD := hDn
  have hS := hSn
  clear hPn hDn hSn
  refine x_putF C hP hD hS 2 0 (a := h0) (ci := 2) (fs := [.null, .null, .null, .null, .null, .null, .null, .null, .null, .int 0]) (v := .ref (a9 0)) rfl rfl rfl lk_RX2_12 rfl rfl (ty := (.object "MilesHall$Figures")) (by decide +kernel) rfl rfl rfl dX2_init_12 (fun H locs hP hD hS => ?_)
  have hP : va_P D vwCl (x_oX1 cy a9 ++ ((h0, .inr (2, [.ref (a9 0), .null, .null, .null, .null, .null, .null, .null, .null, .int 0])) :: [])) _ := hP
  have hD : va_D A (x_oX1 cy a9 ++ ((h0, .inr (2, [.ref (a9 0), .null, .null, .null, .null, .null, .null, .null, .null, .int 0])) :: [])) := hD
  refine lv_aload_n hx hb dX2_init_15 rfl (lv_at hl 0 rfl) ?_
  refine lv_bipush (v := (nI 100)) hx hb dX2_init_16 (by decide) ?_
  refine x_newa C hP hD hS hA 0 (N' := 100) wa_int rfl rfl rfl (by decide) (by decide) (by decide) (by decide) (by decide) dX2_init_18 (fun q18 H hP hD hS => ?_)
  refine x_putF C hP hD hS 3 1 (a := h0) (ci := 2) (fs := [.ref (a9 0), .null, .null, .null, .null, .null, .null, .null, .null, .int 0]) (v := .ref q18) rfl rfl rfl lk_RX2_18 rfl rfl (ty := (.array .int)) (by decide +kernel) rfl rfl rfl dX2_init_20 (fun H locs hP hD hS => ?_)
  have hP : va_P D vwCl ((q18, .inl (cy 0, 100, .inl (fun _ => 0))) :: x_oX1 cy a9 ++ ((h0, .inr (2, [.ref (a9 0), .ref q18, .null, .null, .null, .null, .null, .null, .null, .int 0])) :: [])) _ := hP
  have hD : va_D A ((q18, .inl (cy 0, 100, .inl (fun _ => 0))) :: x_oX1 cy a9 ++ ((h0, .inr (2, [.ref (a9 0), .ref q18, .null, .null, .null, .null, .null, .null, .null, .int 0])) :: [])) := hD
  refine lv_aload_n hx hb dX2_init_23 rfl (lv_at hl 0 rfl) ?_
  refine lv_bipush (v := (nI 100)) hx hb dX2_init_24 (by decide) ?_
  refine x_newa C hP hD hS hA 0 (N' := 100) wa_int rfl rfl rfl (by decide) (by decide) (by decide) (by decide) (by decide) dX2_init_26 (fun q26 H hP hD hS => ?_)
  refine x_putF C hP hD hS 4 2 (a := h0) (ci := 2) (fs := [.ref (a9 0), .ref q18, .null, .null, .null, .null, .null, .null, .null, .int 0]) (v := .ref q26) rfl rfl rfl lk_RX2_22 rfl rfl (ty := (.array .int)) (by decide +kernel) rfl rfl rfl dX2_init_28 (fun H locs hP hD hS => ?_)
  have hP : va_P D vwCl ((q26, .inl (cy 0, 100, .inl (fun _ => 0))) :: (q18, .inl (cy 0, 100, .inl (fun _ => 0))) :: x_oX1 cy a9 ++ ((h0, .inr (2, [.ref (a9 0), .ref q18, .ref q26, .null, .null, .null, .null, .null, .null, .int 0])) :: [])) _ := hP
  have hD : va_D A ((q26, .inl (cy 0, 100, .inl (fun _ => 0))) :: (q18, .inl (cy 0, 100, .inl (fun _ => 0))) :: x_oX1 cy a9 ++ ((h0, .inr (2, [.ref (a9 0), .ref q18, .ref q26, .null, .null, .null, .null, .null, .null, .int 0])) :: [])) := hD
  refine lv_aload_n hx hb dX2_init_31 rfl (lv_at hl 0 rfl) ?_
  refine lv_bipush (v := (nI 100)) hx hb dX2_init_32 (by decide) ?_
  refine x_newa C hP hD hS hA 0 (N' := 100) wa_int rfl rfl rfl (by decide) (by decide) (by decide) (by decide) (by decide) dX2_init_34 (fun q34 H hP hD hS => ?_)
  refine x_putF C hP hD hS 5 3 (a := h0) (ci := 2) (fs := [.ref (a9 0), .ref q18, .ref q26, .null, .null, .null, .null, .null, .null, .int 0]) (v := .ref q34) rfl rfl rfl lk_RX2_25 rfl rfl (ty := (.array .int)) (by decide +kernel) rfl rfl rfl dX2_init_36 (fun H locs hP hD hS => ?_)
  have hP : va_P D vwCl ((q34, .inl (cy 0, 100, .inl (fun _ => 0))) :: (q26, .inl (cy 0, 100, .inl (fun _ => 0))) :: (q18, .inl (cy 0, 100, .inl (fun _ => 0))) :: x_oX1 cy a9 ++ ((h0, .inr (2, [.ref (a9 0), .ref q18, .ref q26, .ref q34, .null, .null, .null, .null, .null, .int 0])) :: [])) _ := hP
  have hD : va_D A ((q34, .inl (cy 0, 100, .inl (fun _ => 0))) :: (q26, .inl (cy 0, 100, .inl (fun _ => 0))) :: (q18, .inl (cy 0, 100, .inl (fun _ => 0))) :: x_oX1 cy a9 ++ ((h0, .inr (2, [.ref (a9 0), .ref q18, .ref q26, .ref q34, .null, .null, .null, .null, .null, .int 0])) :: [])) := hD
  refine lv_aload_n hx hb dX2_init_39 rfl (lv_at hl 0 rfl) ?_
  refine lv_bipush (v := (nI 40)) hx hb dX2_init_40 (by decide) ?_
  refine x_newa C hP hD hS hA 0 (N' := 40) wa_int rfl rfl rfl (by decide) (by decide) (by decide) (by decide) (by decide) dX2_init_42 (fun q42 H hP hD hS => ?_)
  refine x_putF C hP hD hS 6 4 (a := h0) (ci := 2) (fs := [.ref (a9 0), .ref q18, .ref q26, .ref q34, .null, .null, .null, .null, .null, .int 0]) (v := .ref q42) rfl rfl rfl lk_RX2_28 rfl rfl (ty := (.array .int)) (by decide +kernel) rfl rfl rfl dX2_init_44 (fun H locs hP hD hS => ?_)
  have hP : va_P D vwCl ((q42, .inl (cy 0, 40, .inl (fun _ => 0))) :: (q34, .inl (cy 0, 100, .inl (fun _ => 0))) :: (q26, .inl (cy 0, 100, .inl (fun _ => 0))) :: (q18, .inl (cy 0, 100, .inl (fun _ => 0))) :: x_oX1 cy a9 ++ ((h0, .inr (2, [.ref (a9 0), .ref q18, .ref q26, .ref q34, .ref q42, .null, .null, .null, .null, .int 0])) :: [])) _ := hP
  have hD : va_D A ((q42, .inl (cy 0, 40, .inl (fun _ => 0))) :: (q34, .inl (cy 0, 100, .inl (fun _ => 0))) :: (q26, .inl (cy 0, 100, .inl (fun _ => 0))) :: (q18, .inl (cy 0, 100, .inl (fun _ => 0))) :: x_oX1 cy a9 ++ ((h0, .inr (2, [.ref (a9 0), .ref q18, .ref q26, .ref q34, .ref q42, .null, .null, .null, .null, .int 0])) :: [])) := hD
  refine lv_aload_n hx hb dX2_init_47 rfl (lv_at hl 0 rfl) ?_
  refine lv_iconst (v := (nI 4)) hx hb dX2_init_48 (by decide) ?_
  refine x_newa C hP hD hS hA 0 (N' := 4) wa_int rfl rfl rfl (by decide) (by decide) (by decide) (by decide) (by decide) dX2_init_49 (fun q49 H hP hD hS => ?_)
  refine x_putF C hP hD hS 7 5 (a := h0) (ci := 2) (fs := [.ref (a9 0), .ref q18, .ref q26, .ref q34, .ref q42, .null, .null, .null, .null, .int 0]) (v := .ref q49) rfl rfl rfl lk_RX2_31 rfl rfl (ty := (.array .int)) (by decide +kernel) rfl rfl rfl dX2_init_51 (fun H locs hP hD hS => ?_)
  have hP : va_P D vwCl ((q49, .inl (cy 0, 4, .inl (fun _ => 0))) :: (q42, .inl (cy 0, 40, .inl (fun _ => 0))) :: (q34, .inl (cy 0, 100, .inl (fun _ => 0))) :: (q26, .inl (cy 0, 100, .inl (fun _ => 0))) :: (q18, .inl (cy 0, 100, .inl (fun _ => 0))) :: x_oX1 cy a9 ++ ((h0, .inr (2, [.ref (a9 0), .ref q18, .ref q26, .ref q34, .ref q42, .ref q49, .null, .null, .null, .int 0])) :: [])) _ := hP
  have hD : va_D A ((q49, .inl (cy 0, 4, .inl (fun _ => 0))) :: (q42, .inl (cy 0, 40, .inl (fun _ => 0))) :: (q34, .inl (cy 0, 100, .inl (fun _ => 0))) :: (q26, .inl (cy 0, 100, .inl (fun _ => 0))) :: (q18, .inl (cy 0, 100, .inl (fun _ => 0))) :: x_oX1 cy a9 ++ ((h0, .inr (2, [.ref (a9 0), .ref q18, .ref q26, .ref q34, .ref q42, .ref q49, .null, .null, .null, .int 0])) :: [])) := hD
  refine lv_aload_n hx hb dX2_init_54 rfl (lv_at hl 0 rfl) ?_
  refine lv_iconst (v := (nI 4)) hx hb dX2_init_55 (by decide) ?_
  refine x_newa C hP hD hS hA 0 (N' := 4) wa_int rfl rfl rfl (by decide) (by decide) (by decide) (by decide) (by decide) dX2_init_56 (fun q56 H hP hD hS => ?_)
  refine x_putF C hP hD hS 8 6 (a := h0) (ci := 2) (fs := [.ref (a9 0), .ref q18, .ref q26, .ref q34, .ref q42, .ref q49, .null, .null, .null, .int 0]) (v := .ref q56) rfl rfl rfl lk_RX2_34 rfl rfl (ty := (.array .int)) (by decide +kernel) rfl rfl rfl dX2_init_58 (fun H locs hP hD hS => ?_)
  have hP : va_P D vwCl ((q56, .inl (cy 0, 4, .inl (fun _ => 0))) :: (q49, .inl (cy 0, 4, .inl (fun _ => 0))) :: (q42, .inl (cy 0, 40, .inl (fun _ => 0))) :: (q34, .inl (cy 0, 100, .inl (fun _ => 0))) :: (q26, .inl (cy 0, 100, .inl (fun _ => 0))) :: (q18, .inl (cy 0, 100, .inl (fun _ => 0))) :: x_oX1 cy a9 ++ ((h0, .inr (2, [.ref (a9 0), .ref q18, .ref q26, .ref q34, .ref q42, .ref q49, .ref q56, .null, .null, .int 0])) :: [])) _ := hP
  have hD : va_D A ((q56, .inl (cy 0, 4, .inl (fun _ => 0))) :: (q49, .inl (cy 0, 4, .inl (fun _ => 0))) :: (q42, .inl (cy 0, 40, .inl (fun _ => 0))) :: (q34, .inl (cy 0, 100, .inl (fun _ => 0))) :: (q26, .inl (cy 0, 100, .inl (fun _ => 0))) :: (q18, .inl (cy 0, 100, .inl (fun _ => 0))) :: x_oX1 cy a9 ++ ((h0, .inr (2, [.ref (a9 0), .ref q18, .ref q26, .ref q34, .ref q42, .ref q49, .ref q56, .null, .null, .int 0])) :: [])) := hD
  refine lv_aload_n hx hb dX2_init_61 rfl (lv_at hl 0 rfl) ?_
  refine lv_bipush (v := (nI 100)) hx hb dX2_init_62 (by decide) ?_
  refine x_newa C hP hD hS hA 0 (N' := 100) wa_int rfl rfl rfl (by decide) (by decide) (by decide) (by decide) (by decide) dX2_init_64 (fun q64 H hP hD hS => ?_)
  refine x_putF C hP hD hS 9 7 (a := h0) (ci := 2) (fs := [.ref (a9 0), .ref q18, .ref q26, .ref q34, .ref q42, .ref q49, .ref q56, .null, .null, .int 0]) (v := .ref q64) rfl rfl rfl lk_RX2_37 rfl rfl (ty := (.array .int)) (by decide +kernel) rfl rfl rfl dX2_init_66 (fun H locs hP hD hS => ?_)
  have hP : va_P D vwCl ((q64, .inl (cy 0, 100, .inl (fun _ => 0))) :: (q56, .inl (cy 0, 4, .inl (fun _ => 0))) :: (q49, .inl (cy 0, 4, .inl (fun _ => 0))) :: (q42, .inl (cy 0, 40, .inl (fun _ => 0))) :: (q34, .inl (cy 0, 100, .inl (fun _ => 0))) :: (q26, .inl (cy 0, 100, .inl (fun _ => 0))) :: (q18, .inl (cy 0, 100, .inl (fun _ => 0))) :: x_oX1 cy a9 ++ ((h0, .inr (2, [.ref (a9 0), .ref q18, .ref q26, .ref q34, .ref q42, .ref q49, .ref q56, .ref q64, .null, .int 0])) :: [])) _ := hP
  have hD : va_D A ((q64, .inl (cy 0, 100, .inl (fun _ => 0))) :: (q56, .inl (cy 0, 4, .inl (fun _ => 0))) :: (q49, .inl (cy 0, 4, .inl (fun _ => 0))) :: (q42, .inl (cy 0, 40, .inl (fun _ => 0))) :: (q34, .inl (cy 0, 100, .inl (fun _ => 0))) :: (q26, .inl (cy 0, 100, .inl (fun _ => 0))) :: (q18, .inl (cy 0, 100, .inl (fun _ => 0))) :: x_oX1 cy a9 ++ ((h0, .inr (2, [.ref (a9 0), .ref q18, .ref q26, .ref q34, .ref q42, .ref q49, .ref q56, .ref q64, .null, .int 0])) :: [])) := hD
  refine lv_aload_n hx hb dX2_init_69 rfl (lv_at hl 0 rfl) ?_
  refine lv_bipush (v := (nI 100)) hx hb dX2_init_70 (by decide) ?_
  refine x_newa C hP hD hS hA 0 (N' := 100) wa_int rfl rfl rfl (by decide) (by decide) (by decide) (by decide) (by decide) dX2_init_72 (fun q72 H hP hD hS => ?_)
  refine x_putF C hP hD hS 10 8 (a := h0) (ci := 2) (fs := [.ref (a9 0), .ref q18, .ref q26, .ref q34, .ref q42, .ref q49, .ref q56, .ref q64, .null, .int 0]) (v := .ref q72) rfl rfl rfl lk_RX2_40 rfl rfl (ty := (.array .int)) (by decide +kernel) rfl rfl rfl dX2_init_74 (fun H locs hP hD hS => ?_)
  have hP : va_P D vwCl ((q72, .inl (cy 0, 100, .inl (fun _ => 0))) :: (q64, .inl (cy 0, 100, .inl (fun _ => 0))) :: (q56, .inl (cy 0, 4, .inl (fun _ => 0))) :: (q49, .inl (cy 0, 4, .inl (fun _ => 0))) :: (q42, .inl (cy 0, 40, .inl (fun _ => 0))) :: (q34, .inl (cy 0, 100, .inl (fun _ => 0))) :: (q26, .inl (cy 0, 100, .inl (fun _ => 0))) :: (q18, .inl (cy 0, 100, .inl (fun _ => 0))) :: x_oX1 cy a9 ++ ((h0, .inr (2, [.ref (a9 0), .ref q18, .ref q26, .ref q34, .ref q42, .ref q49, .ref q56, .ref q64, .ref q72, .int 0])) :: [])) _ := hP
  have hD : va_D A ((q72, .inl (cy 0, 100, .inl (fun _ => 0))) :: (q64, .inl (cy 0, 100, .inl (fun _ => 0))) :: (q56, .inl (cy 0, 4, .inl (fun _ => 0))) :: (q49, .inl (cy 0, 4, .inl (fun _ => 0))) :: (q42, .inl (cy 0, 40, .inl (fun _ => 0))) :: (q34, .inl (cy 0, 100, .inl (fun _ => 0))) :: (q26, .inl (cy 0, 100, .inl (fun _ => 0))) :: (q18, .inl (cy 0, 100, .inl (fun _ => 0))) :: x_oX1 cy a9 ++ ((h0, .inr (2, [.ref (a9 0), .ref q18, .ref q26, .ref q34, .ref q42, .ref q49, .ref q56, .ref q64, .ref q72, .int 0])) :: [])) := hD
  have hPz := hP.sub (ws' := x_oX2 cy (fun k => ([h0, (a9 0), (a9 1), q18, q26, q34, q42, q49, q56, q64, q72] : List Nat).getD k 0)) [10, 8, 9, 7, 6, 5, 4, 3, 2, 1, 0] rfl
  have hDz := hD.sub (ws' := x_oX2 cy (fun k => ([h0, (a9 0), (a9 1), q18, q26, q34, q42, q49, q56, q64, q72] : List Nat).getD k 0)) [10, 8, 9, 7, 6, 5, 4, 3, 2, 1, 0] (by decide) rfl
  exact hret (fun k => ([h0, (a9 0), (a9 1), q18, q26, q34, q42, q49, q56, q64, q72] : List Nat).getD k 0) dX2_init_77 rfl hPz hDz hS
def x_oX10 (cy : Nat → ClassId) (a : Nat → Nat) : va_W := [((a 0), .inr (10, [.ref (a 1), .int (-1)])), ((a 1), .inl (cy 5, 3001, .inr (.inl (fun _ => 0))))]
abbrev rm_X10_init : Room := { frames := 1, cells := 1, slots := 3001, locals := 40 }
set_option maxHeartbeats 4000000 in
set_option maxRecDepth 100000 in
theorem c_X10_init {l : Launch} {D : va_G} {cy : Nat → ClassId} {s0 : State} {h0 : Nat} : x_Cn l D cy s0 yX10_init (x_uw yX10_init cX10_init 1 none) rm_X10_init h0 [] [(h0, .inr (10, [.null, .int 0]))] (x_oX10 cy) 1 3001 := by
  refine x_metc (by decide) rfl (Nat.le_of_ble_eq_true rfl) ?_
  intro p e s m args below meth c ls Q A C hA hA0 hAi hret hl hP hD hS
  have hx := C.1.1
  have hb := C.1.2.1
  have ho := C.1.2.2.2.1
  have hL := C.1.2.2.2.2
  have hl : lv_has ls 1 [(0, .ref h0)] := hl
  have hS : va_S A s.heap s.heap [] := hS
  refine lv_aload_n hx hb dX10_init_0 rfl (lv_at hl 0 rfl) ?_
  refine x_objI C (rest := []) oi_RX10_3 hl.1 dX10_init_1 ⟨by decide, Nat.le_of_ble_eq_true rfl⟩ ?_
  refine lv_aload_n hx hb dX10_init_4 rfl (lv_at hl 0 rfl) ?_
  refine lv_sipush (v := (nI 3001)) hx hb dX10_init_5 (by decide) ?_
  refine x_newl C hP hD hS hA (N' := 3001) wa_long (by decide) (by decide) (by decide) (by decide) (by decide) dX10_init_8 (fun q8 H hP hD hS => ?_)
  refine x_putF C hP hD hS 1 0 (a := h0) (ci := 10) (fs := [.null, .int 0]) (v := .ref q8) rfl rfl rfl lk_RX10_9 rfl rfl (ty := (.array .long)) (by decide +kernel) rfl rfl rfl dX10_init_10 (fun H locs hP hD hS => ?_)
  have hP : va_P D vwCl ((q8, .inl (cy 5, 3001, .inr (.inl (fun _ => 0)))) :: (h0, .inr (10, [.ref q8, .int 0])) :: []) _ := hP
  have hD : va_D A ((q8, .inl (cy 5, 3001, .inr (.inl (fun _ => 0)))) :: (h0, .inr (10, [.ref q8, .int 0])) :: []) := hD
  refine lv_aload_n hx hb dX10_init_13 rfl (lv_at hl 0 rfl) ?_
  refine lv_iconst (v := (-1)) hx hb dX10_init_14 (by decide) ?_
  refine x_putN C hP hD hS 1 1 (a := h0) (ci := 10) (fs := [.ref q8, .int 0]) (v := .int (-1)) rfl rfl rfl lk_RX10_15 rfl rfl (ty := .int) (by decide +kernel) rfl rfl rfl dX10_init_15 (fun H locs hP hD hS => ?_)
  have hP : va_P D vwCl ((q8, .inl (cy 5, 3001, .inr (.inl (fun _ => 0)))) :: (h0, .inr (10, [.ref q8, .int (-1)])) :: []) _ := hP
  have hD : va_D A ((q8, .inl (cy 5, 3001, .inr (.inl (fun _ => 0)))) :: (h0, .inr (10, [.ref q8, .int (-1)])) :: []) := hD
  have hPz := hP.sub (ws' := x_oX10 cy (fun k => ([h0, q8] : List Nat).getD k 0)) [1, 0] rfl
  have hDz := hD.sub (ws' := x_oX10 cy (fun k => ([h0, q8] : List Nat).getD k 0)) [1, 0] (by decide) rfl
  exact hret (fun k => ([h0, q8] : List Nat).getD k 0) dX10_init_18 rfl hPz hDz hS
def x_oX7 (cy : Nat → ClassId) (ad : Nat → Nat) (a : Nat → Nat) : va_W := [((a 0), .inr (7, [.ref (a 1), .ref (a 2), .ref (a 3), .int 0, .int 0, .int 0, .int 0, .int 0, .int 0, .int 0, .int 0, .int 0, .int 0, .ref (ad 0)])), ((a 1), .inl (cy 2, 132, .inl (fun _ => 0))), ((a 2), .inl (cy 0, 132, .inl (fun _ => 0))), ((a 3), .inl (cy 0, 4, .inl (fun _ => 0)))]
abbrev rm_X7_init : Room := { frames := 1, cells := 3, slots := 268, locals := 40 }
set_option maxHeartbeats 4000000 in
set_option maxRecDepth 100000 in
theorem c_X7_init {l : Launch} {D : va_G} {cy : Nat → ClassId} {s0 : State} {ad adV : Nat → Nat} (hz : x_Z s0 ad adV) {h0 : Nat} : x_Cn l D cy s0 yX7_init (x_uw yX7_init cX7_init 1 none) rm_X7_init h0 [] [(h0, .inr (7, [.null, .null, .null, .int 0, .int 0, .int 0, .int 0, .int 0, .int 0, .int 0, .int 0, .int 0, .int 0, .null]))] (x_oX7 cy ad) 3 268 := by
  refine x_metc (by decide) rfl (Nat.le_of_ble_eq_true rfl) ?_
  intro p e s m args below meth c ls Q A C hA hA0 hAi hret hl hP hD hS
  have hx := C.1.1
  have hb := C.1.2.1
  have ho := C.1.2.2.2.1
  have hL := C.1.2.2.2.2
  have hl : lv_has ls 1 [(0, .ref h0)] := hl
  have hS : va_S A s.heap s.heap [] := hS
  refine lv_aload_n hx hb dX7_init_0 rfl (lv_at hl 0 rfl) ?_
  refine x_objI C (rest := []) oi_RX7_3 hl.1 dX7_init_1 ⟨by decide, Nat.le_of_ble_eq_true rfl⟩ ?_
  refine lv_aload_n hx hb dX7_init_4 rfl (lv_at hl 0 rfl) ?_
  refine lv_sipush (v := (nI 132)) hx hb dX7_init_5 (by decide) ?_
  refine x_newa C hP hD hS hA 2 (N' := 132) wa_byte rfl rfl rfl (by decide) (by decide) (by decide) (by decide) (by decide) dX7_init_8 (fun q8 H hP hD hS => ?_)
  refine x_putF C hP hD hS 1 0 (a := h0) (ci := 7) (fs := [.null, .null, .null, .int 0, .int 0, .int 0, .int 0, .int 0, .int 0, .int 0, .int 0, .int 0, .int 0, .null]) (v := .ref q8) rfl rfl rfl lk_RX7_9 rfl rfl (ty := (.array .byte)) (by decide +kernel) rfl rfl rfl dX7_init_10 (fun H locs hP hD hS => ?_)
  have hP : va_P D vwCl ((q8, .inl (cy 2, 132, .inl (fun _ => 0))) :: (h0, .inr (7, [.ref q8, .null, .null, .int 0, .int 0, .int 0, .int 0, .int 0, .int 0, .int 0, .int 0, .int 0, .int 0, .null])) :: []) _ := hP
  have hD : va_D A ((q8, .inl (cy 2, 132, .inl (fun _ => 0))) :: (h0, .inr (7, [.ref q8, .null, .null, .int 0, .int 0, .int 0, .int 0, .int 0, .int 0, .int 0, .int 0, .int 0, .int 0, .null])) :: []) := hD
  refine lv_aload_n hx hb dX7_init_13 rfl (lv_at hl 0 rfl) ?_
  refine lv_sipush (v := (nI 132)) hx hb dX7_init_14 (by decide) ?_
  refine x_newa C hP hD hS hA 0 (N' := 132) wa_int rfl rfl rfl (by decide) (by decide) (by decide) (by decide) (by decide) dX7_init_17 (fun q17 H hP hD hS => ?_)
  refine x_putF C hP hD hS 2 1 (a := h0) (ci := 7) (fs := [.ref q8, .null, .null, .int 0, .int 0, .int 0, .int 0, .int 0, .int 0, .int 0, .int 0, .int 0, .int 0, .null]) (v := .ref q17) rfl rfl rfl lk_RX7_15 rfl rfl (ty := (.array .int)) (by decide +kernel) rfl rfl rfl dX7_init_19 (fun H locs hP hD hS => ?_)
  have hP : va_P D vwCl ((q17, .inl (cy 0, 132, .inl (fun _ => 0))) :: (q8, .inl (cy 2, 132, .inl (fun _ => 0))) :: (h0, .inr (7, [.ref q8, .ref q17, .null, .int 0, .int 0, .int 0, .int 0, .int 0, .int 0, .int 0, .int 0, .int 0, .int 0, .null])) :: []) _ := hP
  have hD : va_D A ((q17, .inl (cy 0, 132, .inl (fun _ => 0))) :: (q8, .inl (cy 2, 132, .inl (fun _ => 0))) :: (h0, .inr (7, [.ref q8, .ref q17, .null, .int 0, .int 0, .int 0, .int 0, .int 0, .int 0, .int 0, .int 0, .int 0, .int 0, .null])) :: []) := hD
  refine lv_aload_n hx hb dX7_init_22 rfl (lv_at hl 0 rfl) ?_
  refine lv_iconst (v := (nI 4)) hx hb dX7_init_23 (by decide) ?_
  refine x_newa C hP hD hS hA 0 (N' := 4) wa_int rfl rfl rfl (by decide) (by decide) (by decide) (by decide) (by decide) dX7_init_24 (fun q24 H hP hD hS => ?_)
  refine x_putF C hP hD hS 3 2 (a := h0) (ci := 7) (fs := [.ref q8, .ref q17, .null, .int 0, .int 0, .int 0, .int 0, .int 0, .int 0, .int 0, .int 0, .int 0, .int 0, .null]) (v := .ref q24) rfl rfl rfl lk_RX7_19 rfl rfl (ty := (.array .int)) (by decide +kernel) rfl rfl rfl dX7_init_26 (fun H locs hP hD hS => ?_)
  have hP : va_P D vwCl ((q24, .inl (cy 0, 4, .inl (fun _ => 0))) :: (q17, .inl (cy 0, 132, .inl (fun _ => 0))) :: (q8, .inl (cy 2, 132, .inl (fun _ => 0))) :: (h0, .inr (7, [.ref q8, .ref q17, .ref q24, .int 0, .int 0, .int 0, .int 0, .int 0, .int 0, .int 0, .int 0, .int 0, .int 0, .null])) :: []) _ := hP
  have hD : va_D A ((q24, .inl (cy 0, 4, .inl (fun _ => 0))) :: (q17, .inl (cy 0, 132, .inl (fun _ => 0))) :: (q8, .inl (cy 2, 132, .inl (fun _ => 0))) :: (h0, .inr (7, [.ref q8, .ref q17, .ref q24, .int 0, .int 0, .int 0, .int 0, .int 0, .int 0, .int 0, .int 0, .int 0, .int 0, .null])) :: []) := hD
  refine lv_aload_n hx hb dX7_init_29 rfl (lv_at hl 0 rfl) ?_
  refine va_ldcS hx hb ho (vk_R.warm C.2.1.2.2.1 (hz.1.2 0 _ rfl)) dX7_init_30 ?_
  refine x_putN C hP hD hS 3 13 (a := h0) (ci := 7) (fs := [.ref q8, .ref q17, .ref q24, .int 0, .int 0, .int 0, .int 0, .int 0, .int 0, .int 0, .int 0, .int 0, .int 0, .null]) (v := .ref (ad 0)) rfl rfl rfl lk_RX7_24 rfl rfl (ty := (.object "java/lang/String")) (by decide +kernel) rfl rfl rfl dX7_init_32 (fun H locs hP hD hS => ?_)
  have hP : va_P D vwCl ((q24, .inl (cy 0, 4, .inl (fun _ => 0))) :: (q17, .inl (cy 0, 132, .inl (fun _ => 0))) :: (q8, .inl (cy 2, 132, .inl (fun _ => 0))) :: (h0, .inr (7, [.ref q8, .ref q17, .ref q24, .int 0, .int 0, .int 0, .int 0, .int 0, .int 0, .int 0, .int 0, .int 0, .int 0, .ref (ad 0)])) :: []) _ := hP
  have hD : va_D A ((q24, .inl (cy 0, 4, .inl (fun _ => 0))) :: (q17, .inl (cy 0, 132, .inl (fun _ => 0))) :: (q8, .inl (cy 2, 132, .inl (fun _ => 0))) :: (h0, .inr (7, [.ref q8, .ref q17, .ref q24, .int 0, .int 0, .int 0, .int 0, .int 0, .int 0, .int 0, .int 0, .int 0, .int 0, .ref (ad 0)])) :: []) := hD
  have hPz := hP.sub (ws' := x_oX7 cy ad (fun k => ([h0, q8, q17, q24] : List Nat).getD k 0)) [3, 2, 1, 0] rfl
  have hDz := hD.sub (ws' := x_oX7 cy ad (fun k => ([h0, q8, q17, q24] : List Nat).getD k 0)) [3, 2, 1, 0] (by decide) rfl
  exact hret (fun k => ([h0, q8, q17, q24] : List Nat).getD k 0) dX7_init_35 rfl hPz hDz hS
def x_oX11 (cy : Nat → ClassId) (ad : Nat → Nat) (a : Nat → Nat) : va_W := [((a 0), .inr (11, [.ref (a 1), .ref (a 34), .ref (a 67), .ref (a 78), .ref (a 80), .ref (a 84), .ref (a 85), .ref (a 86), .ref (a 87), .int 0, .int 0])), ((a 1), .inr (0, [.ref (a 2), .ref (a 6), .ref (a 16), .ref (a 18), .ref (a 27), .ref (a 31), .ref (a 32), .ref (a 33), .int 0])), ((a 2), .inr (4, [.ref (a 3), .ref (a 4), .ref (a 5), .int 0])), ((a 3), .inl (cy 0, 10, .inl (fun _ => 0))), ((a 4), .inl (cy 0, 10, .inl (fun _ => 0))), ((a 5), .inl (cy 0, 10, .inl (fun _ => 0))), ((a 6), .inr (3, [.ref (a 7), .ref (a 8), .ref (a 9), .ref (a 10), .ref (a 11), .ref (a 12), .ref (a 13), .ref (a 14), .ref (a 15), .int 0])), ((a 7), .inl (cy 0, 100, .inl (fun _ => 0))), ((a 8), .inl (cy 0, 100, .inl (fun _ => 0))), ((a 9), .inl (cy 0, 100, .inl (fun _ => 0))), ((a 10), .inl (cy 0, 100, .inl (fun _ => 0))), ((a 11), .inl (cy 0, 100, .inl (fun _ => 0))), ((a 12), .inl (cy 0, 100, .inl (fun _ => 0))), ((a 13), .inl (cy 0, 100, .inl (fun _ => 0))), ((a 14), .inl (cy 0, 100, .inl (fun _ => 0))), ((a 15), .inl (cy 0, 100, .inl (fun _ => 0))), ((a 16), .inr (9, [.ref (a 17), .ref (a 88), .int 0])), ((a 17), .inl (cy 4, 4, .inr (.inr (.inr (.inr (fun _ => none)))))), ((a 18), .inr (6, [.ref (a 19), .ref (a 20), .ref (a 21), .ref (a 22), .ref (a 23), .ref (a 24), .ref (a 25), .ref (a 26), .int 0, .int 0])), ((a 19), .inl (cy 0, 8, .inl (fun _ => 0))), ((a 20), .inl (cy 0, 8, .inl (fun _ => 0))), ((a 21), .inl (cy 0, 8, .inl (fun _ => 0))), ((a 22), .inl (cy 0, 8, .inl (fun _ => 0))), ((a 23), .inl (cy 0, 30, .inl (fun _ => 0))), ((a 24), .inl (cy 0, 30, .inl (fun _ => 0))), ((a 25), .inl (cy 0, 30, .inl (fun _ => 0))), ((a 26), .inl (cy 0, 30, .inl (fun _ => 0))), ((a 27), .inr (5, [.ref (a 28), .ref (a 29), .ref (a 30), .int 0])), ((a 28), .inl (cy 0, 8, .inl (fun _ => 0))), ((a 29), .inl (cy 0, 8, .inl (fun _ => 0))), ((a 30), .inl (cy 0, 8, .inl (fun _ => 0))), ((a 31), .inl (cy 0, 3, .inl (upd (upd (upd (fun _ => 0) 0 (nI 30)) 1 (nI 90)) 2 (nI 60)))), ((a 32), .inl (cy 0, 4, .inl (upd (upd (upd (upd (fun _ => 0) 0 (nI 0)) 1 (nI 10)) 2 (nI 10)) 3 (nI 10)))), ((a 33), .inl (cy 0, 4, .inl (upd (upd (upd (upd (fun _ => 0) 0 (nI 0)) 1 (nI 8)) 2 (nI 8)) 3 (nI 8)))), ((a 34), .inr (0, [.ref (a 35), .ref (a 39), .ref (a 49), .ref (a 51), .ref (a 60), .ref (a 64), .ref (a 65), .ref (a 66), .int 0])), ((a 35), .inr (4, [.ref (a 36), .ref (a 37), .ref (a 38), .int 0])), ((a 36), .inl (cy 0, 10, .inl (fun _ => 0))), ((a 37), .inl (cy 0, 10, .inl (fun _ => 0))), ((a 38), .inl (cy 0, 10, .inl (fun _ => 0))), ((a 39), .inr (3, [.ref (a 40), .ref (a 41), .ref (a 42), .ref (a 43), .ref (a 44), .ref (a 45), .ref (a 46), .ref (a 47), .ref (a 48), .int 0])), ((a 40), .inl (cy 0, 100, .inl (fun _ => 0))), ((a 41), .inl (cy 0, 100, .inl (fun _ => 0))), ((a 42), .inl (cy 0, 100, .inl (fun _ => 0))), ((a 43), .inl (cy 0, 100, .inl (fun _ => 0))), ((a 44), .inl (cy 0, 100, .inl (fun _ => 0))), ((a 45), .inl (cy 0, 100, .inl (fun _ => 0))), ((a 46), .inl (cy 0, 100, .inl (fun _ => 0))), ((a 47), .inl (cy 0, 100, .inl (fun _ => 0))), ((a 48), .inl (cy 0, 100, .inl (fun _ => 0))), ((a 49), .inr (9, [.ref (a 50), .ref (a 91), .int 0])), ((a 50), .inl (cy 4, 4, .inr (.inr (.inr (.inr (fun _ => none)))))), ((a 51), .inr (6, [.ref (a 52), .ref (a 53), .ref (a 54), .ref (a 55), .ref (a 56), .ref (a 57), .ref (a 58), .ref (a 59), .int 0, .int 0])), ((a 52), .inl (cy 0, 8, .inl (fun _ => 0))), ((a 53), .inl (cy 0, 8, .inl (fun _ => 0))), ((a 54), .inl (cy 0, 8, .inl (fun _ => 0))), ((a 55), .inl (cy 0, 8, .inl (fun _ => 0))), ((a 56), .inl (cy 0, 30, .inl (fun _ => 0))), ((a 57), .inl (cy 0, 30, .inl (fun _ => 0))), ((a 58), .inl (cy 0, 30, .inl (fun _ => 0))), ((a 59), .inl (cy 0, 30, .inl (fun _ => 0))), ((a 60), .inr (5, [.ref (a 61), .ref (a 62), .ref (a 63), .int 0])), ((a 61), .inl (cy 0, 8, .inl (fun _ => 0))), ((a 62), .inl (cy 0, 8, .inl (fun _ => 0))), ((a 63), .inl (cy 0, 8, .inl (fun _ => 0))), ((a 64), .inl (cy 0, 3, .inl (upd (upd (upd (fun _ => 0) 0 (nI 30)) 1 (nI 90)) 2 (nI 60)))), ((a 65), .inl (cy 0, 4, .inl (upd (upd (upd (upd (fun _ => 0) 0 (nI 0)) 1 (nI 10)) 2 (nI 10)) 3 (nI 10)))), ((a 66), .inl (cy 0, 4, .inl (upd (upd (upd (upd (fun _ => 0) 0 (nI 0)) 1 (nI 8)) 2 (nI 8)) 3 (nI 8)))), ((a 67), .inr (2, [.ref (a 68), .ref (a 70), .ref (a 71), .ref (a 72), .ref (a 73), .ref (a 74), .ref (a 75), .ref (a 76), .ref (a 77), .int 0])), ((a 68), .inr (1, [.ref (a 69), .int 0, .int 0, .int 0, .int 0, .int 0, .int 0, .int 0, .int 0, .int 0, .int 0])), ((a 69), .inl (cy 0, 132, .inl (fun _ => 0))), ((a 70), .inl (cy 0, 100, .inl (fun _ => 0))), ((a 71), .inl (cy 0, 100, .inl (fun _ => 0))), ((a 72), .inl (cy 0, 100, .inl (fun _ => 0))), ((a 73), .inl (cy 0, 40, .inl (fun _ => 0))), ((a 74), .inl (cy 0, 4, .inl (fun _ => 0))), ((a 75), .inl (cy 0, 4, .inl (fun _ => 0))), ((a 76), .inl (cy 0, 100, .inl (fun _ => 0))), ((a 77), .inl (cy 0, 100, .inl (fun _ => 0))), ((a 78), .inr (10, [.ref (a 79), .int (-1)])), ((a 79), .inl (cy 5, 3001, .inr (.inl (fun _ => 0)))), ((a 80), .inr (7, [.ref (a 81), .ref (a 82), .ref (a 83), .int 0, .int 0, .int 0, .int 0, .int 0, .int 0, .int 0, .int 0, .int 0, .int 0, .ref (ad 0)])), ((a 81), .inl (cy 2, 132, .inl (fun _ => 0))), ((a 82), .inl (cy 0, 132, .inl (fun _ => 0))), ((a 83), .inl (cy 0, 4, .inl (fun _ => 0))), ((a 84), .inl (cy 0, 16, .inl (fun _ => 0))), ((a 85), .inl (cy 0, 30, .inl (fun _ => 0))), ((a 86), .inl (cy 1, 32, .inl (fun _ => 0))), ((a 87), .inl (cy 0, 2, .inl (upd (upd (fun _ => 0) 0 (-1)) 1 (-1)))), ((a 88), .inr (8, [.int (nI 0), .ref (a 89), .ref (a 90)])), ((a 89), .inl (cy 0, 4, .inl (upd (upd (upd (upd (fun _ => 0) 0 (-108)) 1 (nI 720)) 2 (-108)) 3 (nI 0)))), ((a 90), .inl (cy 0, 4, .inl (upd (upd (upd (upd (fun _ => 0) 0 (nI 1)) 1 (nI 2)) 2 (nI 3)) 3 (nI 4)))), ((a 91), .inr (8, [.int (nI 0), .ref (a 92), .ref (a 93)])), ((a 92), .inl (cy 0, 4, .inl (upd (upd (upd (upd (fun _ => 0) 0 (-108)) 1 (nI 720)) 2 (-108)) 3 (nI 0)))), ((a 93), .inl (cy 0, 4, .inl (upd (upd (upd (upd (fun _ => 0) 0 (nI 1)) 1 (nI 2)) 2 (nI 3)) 3 (nI 4))))]
abbrev rm_X11_init : Room := { frames := 4, cells := 93, slots := 6410, locals := 103 }
set_option maxHeartbeats 4000000 in
set_option maxRecDepth 100000 in
theorem c_X11_init {l : Launch} {D : va_G} {cy : Nat → ClassId} {s0 : State} {ad adV : Nat → Nat} (hz : x_Z s0 ad adV) {h0 : Nat} : x_Cn l D cy s0 yX11_init (x_uw yX11_init cX11_init 1 none) rm_X11_init h0 [] [(h0, .inr (11, [.null, .null, .null, .null, .null, .null, .null, .null, .null, .int 0, .int 0]))] (x_oX11 cy ad) 93 6410 := by
  refine x_metc (by decide) rfl (Nat.le_of_ble_eq_true rfl) ?_
  intro p e s m args below meth c ls Q A C hA hA0 hAi hret hl hP hD hS
  have hx := C.1.1
  have hb := C.1.2.1
  have ho := C.1.2.2.2.1
  have hL := C.1.2.2.2.2
  have hl : lv_has ls 1 [(0, .ref h0)] := hl
  have hS : va_S A s.heap s.heap [] := hS
  refine lv_aload_n hx hb dX11_init_0 rfl (lv_at hl 0 rfl) ?_
  refine x_objI C (rest := []) oi_RX11_3 hl.1 dX11_init_1 ⟨by decide, Nat.le_of_ble_eq_true rfl⟩ ?_
  refine lv_aload_n hx hb dX11_init_4 rfl (lv_at hl 0 rfl) ?_
  refine x_newo C hP hD hS hA (fs := [.null, .null, .null, .null, .null, .null, .null, .null, .int 0]) nw_RX11_9 (ci := 0) rfl tyX0_ok (fun j hj => by rcases (show j = 0 ∨ j = 1 ∨ j = 2 ∨ j = 3 ∨ j = 4 ∨ j = 5 ∨ j = 6 ∨ j = 7 ∨ j = 8 by omega) with rfl | rfl | rfl | rfl | rfl | rfl | rfl | rfl | rfl <;> rfl) (by decide) (by decide) dX11_init_5 (fun q5 H hP hD hS => ?_)
  refine lv_dup hx hb dX11_init_8 rfl ?_
  refine x_ctor C.1 C.2.1 (rest := [_, _]) hP hD hS hA hA0 (c_X0_init hz) (Or.inr (by decide +kernel)) mi_X0_init (n := 0) (by decide +kernel) rfl ⟨rfl, rfl, by decide, by decide⟩ rfl hl.1 rfl (Nat.le_of_ble_eq_true rfl) dX11_init_9 ⟨by decide, by decide⟩ (fun a9 Hn locsn ea hPn hDn hSn => ?_)
  clear hP hD hS
  subst ea
  have hP := hPn
  have hD := hDn
  have hS := hSn
  clear hPn hDn hSn
  refine x_putF C hP hD hS 36 0 (a := h0) (ci := 11) (fs := [.null, .null, .null, .null, .null, .null, .null, .null, .null, .int 0, .int 0]) (v := .ref (a9 0)) rfl rfl rfl lk_RX11_12 rfl rfl (ty := (.object "MilesHall$Club")) (by decide +kernel) rfl rfl rfl dX11_init_12 (fun H locs hP hD hS => ?_)
  have hP : va_P D vwCl (x_oX0 cy ad a9 ++ ((h0, .inr (11, [.ref (a9 0), .null, .null, .null, .null, .null, .null, .null, .null, .int 0, .int 0])) :: [])) _ := hP
  have hD : va_D A (x_oX0 cy ad a9 ++ ((h0, .inr (11, [.ref (a9 0), .null, .null, .null, .null, .null, .null, .null, .null, .int 0, .int 0])) :: [])) := hD
  refine lv_aload_n hx hb dX11_init_15 rfl (lv_at hl 0 rfl) ?_
  refine x_newo C hP hD hS hA (fs := [.null, .null, .null, .null, .null, .null, .null, .null, .int 0]) nw_RX11_9 (ci := 0) rfl tyX0_ok (fun j hj => by rcases (show j = 0 ∨ j = 1 ∨ j = 2 ∨ j = 3 ∨ j = 4 ∨ j = 5 ∨ j = 6 ∨ j = 7 ∨ j = 8 by omega) with rfl | rfl | rfl | rfl | rfl | rfl | rfl | rfl | rfl <;> rfl) (by decide) (by decide) dX11_init_16 (fun q16 H hP hD hS => ?_)
  refine lv_dup hx hb dX11_init_19 rfl ?_
  refine x_ctor C.1 C.2.1 (rest := [_, _]) hP hD hS hA hA0 (c_X0_init hz) (Or.inr (by decide +kernel)) mi_X0_init (n := 0) (by decide +kernel) rfl ⟨rfl, rfl, by decide, by decide⟩ rfl hl.1 rfl (Nat.le_of_ble_eq_true rfl) dX11_init_20 ⟨by decide, by decide⟩ (fun a20 Hn locsn ea hPn hDn hSn => ?_)
  clear hP hD hS
  subst ea
  have hP := hPn
  have hD := hDn
  have hS := hSn
  clear hPn hDn hSn
  refine x_putF C hP hD hS 72 1 (a := h0) (ci := 11) (fs := [.ref (a9 0), .null, .null, .null, .null, .null, .null, .null, .null, .int 0, .int 0]) (v := .ref (a20 0)) rfl rfl rfl lk_RX11_16 rfl rfl (ty := (.object "MilesHall$Club")) (by decide +kernel) rfl rfl rfl dX11_init_23 (fun H locs hP hD hS => ?_)
  have hP : va_P D vwCl (x_oX0 cy ad a20 ++ (x_oX0 cy ad a9 ++ ((h0, .inr (11, [.ref (a9 0), .ref (a20 0), .null, .null, .null, .null, .null, .null, .null, .int 0, .int 0])) :: []))) _ := hP
  have hD : va_D A (x_oX0 cy ad a20 ++ (x_oX0 cy ad a9 ++ ((h0, .inr (11, [.ref (a9 0), .ref (a20 0), .null, .null, .null, .null, .null, .null, .null, .int 0, .int 0])) :: []))) := hD
  refine lv_aload_n hx hb dX11_init_26 rfl (lv_at hl 0 rfl) ?_
  refine x_newo C hP hD hS hA (fs := [.null, .null, .null, .null, .null, .null, .null, .null, .null, .int 0]) nw_RX11_19 (ci := 2) rfl tyX2_ok (fun j hj => by rcases (show j = 0 ∨ j = 1 ∨ j = 2 ∨ j = 3 ∨ j = 4 ∨ j = 5 ∨ j = 6 ∨ j = 7 ∨ j = 8 ∨ j = 9 by omega) with rfl | rfl | rfl | rfl | rfl | rfl | rfl | rfl | rfl | rfl <;> rfl) (by decide) (by decide) dX11_init_27 (fun q27 H hP hD hS => ?_)
  refine lv_dup hx hb dX11_init_30 rfl ?_
  refine x_ctor C.1 C.2.1 (rest := [_, _]) hP hD hS hA hA0 (c_X2_init) (Or.inr (by decide +kernel)) mi_X2_init (n := 0) (by decide +kernel) rfl ⟨rfl, rfl, by decide, by decide⟩ rfl hl.1 rfl (Nat.le_of_ble_eq_true rfl) dX11_init_31 ⟨by decide, by decide⟩ (fun a31 Hn locsn ea hPn hDn hSn => ?_)
  clear hP hD hS
  subst ea
  have hP := hPn
  have hD := hDn
  have hS := hSn
  clear hPn hDn hSn
  refine x_putF C hP hD hS 83 2 (a := h0) (ci := 11) (fs := [.ref (a9 0), .ref (a20 0), .null, .null, .null, .null, .null, .null, .null, .int 0, .int 0]) (v := .ref (a31 0)) rfl rfl rfl lk_RX11_22 rfl rfl (ty := (.object "MilesHall$Ledger")) (by decide +kernel) rfl rfl rfl dX11_init_34 (fun H locs hP hD hS => ?_)
  have hP : va_P D vwCl (x_oX2 cy a31 ++ (x_oX0 cy ad a20 ++ (x_oX0 cy ad a9 ++ ((h0, .inr (11, [.ref (a9 0), .ref (a20 0), .ref (a31 0), .null, .null, .null, .null, .null, .null, .int 0, .int 0])) :: [])))) _ := hP
  have hD : va_D A (x_oX2 cy a31 ++ (x_oX0 cy ad a20 ++ (x_oX0 cy ad a9 ++ ((h0, .inr (11, [.ref (a9 0), .ref (a20 0), .ref (a31 0), .null, .null, .null, .null, .null, .null, .int 0, .int 0])) :: [])))) := hD
  refine lv_aload_n hx hb dX11_init_37 rfl (lv_at hl 0 rfl) ?_
  refine x_newo C hP hD hS hA (fs := [.null, .int 0]) nw_RX11_26 (ci := 10) rfl tyX10_ok (fun j hj => by rcases (show j = 0 ∨ j = 1 by omega) with rfl | rfl <;> rfl) (by decide) (by decide) dX11_init_38 (fun q38 H hP hD hS => ?_)
  refine lv_dup hx hb dX11_init_41 rfl ?_
  refine x_ctor C.1 C.2.1 (rest := [_, _]) hP hD hS hA hA0 (c_X10_init) (Or.inr (by decide +kernel)) mi_X10_init (n := 0) (by decide +kernel) rfl ⟨rfl, rfl, by decide, by decide⟩ rfl hl.1 rfl (Nat.le_of_ble_eq_true rfl) dX11_init_42 ⟨by decide, by decide⟩ (fun a42 Hn locsn ea hPn hDn hSn => ?_)
  clear hP hD hS
  subst ea
  have hP := hPn
  have hD := hDn
  have hS := hSn
  clear hPn hDn hSn
  refine x_putF C hP hD hS 85 3 (a := h0) (ci := 11) (fs := [.ref (a9 0), .ref (a20 0), .ref (a31 0), .null, .null, .null, .null, .null, .null, .int 0, .int 0]) (v := .ref (a42 0)) rfl rfl rfl lk_RX11_29 rfl rfl (ty := (.object "MilesHall$Ways")) (by decide +kernel) rfl rfl rfl dX11_init_45 (fun H locs hP hD hS => ?_)
  have hP : va_P D vwCl (x_oX10 cy a42 ++ (x_oX2 cy a31 ++ (x_oX0 cy ad a20 ++ (x_oX0 cy ad a9 ++ ((h0, .inr (11, [.ref (a9 0), .ref (a20 0), .ref (a31 0), .ref (a42 0), .null, .null, .null, .null, .null, .int 0, .int 0])) :: []))))) _ := hP
  have hD : va_D A (x_oX10 cy a42 ++ (x_oX2 cy a31 ++ (x_oX0 cy ad a20 ++ (x_oX0 cy ad a9 ++ ((h0, .inr (11, [.ref (a9 0), .ref (a20 0), .ref (a31 0), .ref (a42 0), .null, .null, .null, .null, .null, .int 0, .int 0])) :: []))))) := hD
  refine lv_aload_n hx hb dX11_init_48 rfl (lv_at hl 0 rfl) ?_
  refine x_newo C hP hD hS hA (fs := [.null, .null, .null, .int 0, .int 0, .int 0, .int 0, .int 0, .int 0, .int 0, .int 0, .int 0, .int 0, .null]) nw_RX11_33 (ci := 7) rfl tyX7_ok (fun j hj => by rcases (show j = 0 ∨ j = 1 ∨ j = 2 ∨ j = 3 ∨ j = 4 ∨ j = 5 ∨ j = 6 ∨ j = 7 ∨ j = 8 ∨ j = 9 ∨ j = 10 ∨ j = 11 ∨ j = 12 ∨ j = 13 by omega) with rfl | rfl | rfl | rfl | rfl | rfl | rfl | rfl | rfl | rfl | rfl | rfl | rfl | rfl <;> rfl) (by decide) (by decide) dX11_init_49 (fun q49 H hP hD hS => ?_)
  refine lv_dup hx hb dX11_init_52 rfl ?_
  refine x_ctor C.1 C.2.1 (rest := [_, _]) hP hD hS hA hA0 (c_X7_init hz) (Or.inr (by decide +kernel)) mi_X7_init (n := 0) (by decide +kernel) rfl ⟨rfl, rfl, by decide, by decide⟩ rfl hl.1 rfl (Nat.le_of_ble_eq_true rfl) dX11_init_53 ⟨by decide, by decide⟩ (fun a53 Hn locsn ea hPn hDn hSn => ?_)
  clear hP hD hS
  subst ea
  have hP := hPn
  have hD := hDn
  have hS := hSn
  clear hPn hDn hSn
  refine x_putF C hP hD hS 89 4 (a := h0) (ci := 11) (fs := [.ref (a9 0), .ref (a20 0), .ref (a31 0), .ref (a42 0), .null, .null, .null, .null, .null, .int 0, .int 0]) (v := .ref (a53 0)) rfl rfl rfl lk_RX11_36 rfl rfl (ty := (.object "MilesHall$Tape")) (by decide +kernel) rfl rfl rfl dX11_init_56 (fun H locs hP hD hS => ?_)
  have hP : va_P D vwCl (x_oX7 cy ad a53 ++ (x_oX10 cy a42 ++ (x_oX2 cy a31 ++ (x_oX0 cy ad a20 ++ (x_oX0 cy ad a9 ++ ((h0, .inr (11, [.ref (a9 0), .ref (a20 0), .ref (a31 0), .ref (a42 0), .ref (a53 0), .null, .null, .null, .null, .int 0, .int 0])) :: [])))))) _ := hP
  have hD : va_D A (x_oX7 cy ad a53 ++ (x_oX10 cy a42 ++ (x_oX2 cy a31 ++ (x_oX0 cy ad a20 ++ (x_oX0 cy ad a9 ++ ((h0, .inr (11, [.ref (a9 0), .ref (a20 0), .ref (a31 0), .ref (a42 0), .ref (a53 0), .null, .null, .null, .null, .int 0, .int 0])) :: [])))))) := hD
  refine lv_aload_n hx hb dX11_init_59 rfl (lv_at hl 0 rfl) ?_
  refine lv_bipush (v := (nI 16)) hx hb dX11_init_60 (by decide) ?_
  refine x_newa C hP hD hS hA 0 (N' := 16) wa_int rfl rfl rfl (by decide) (by decide) (by decide) (by decide) (by decide) dX11_init_62 (fun q62 H hP hD hS => ?_)
  refine x_putF C hP hD hS 90 5 (a := h0) (ci := 11) (fs := [.ref (a9 0), .ref (a20 0), .ref (a31 0), .ref (a42 0), .ref (a53 0), .null, .null, .null, .null, .int 0, .int 0]) (v := .ref q62) rfl rfl rfl lk_RX11_40 rfl rfl (ty := (.array .int)) (by decide +kernel) rfl rfl rfl dX11_init_64 (fun H locs hP hD hS => ?_)
  have hP : va_P D vwCl ((q62, .inl (cy 0, 16, .inl (fun _ => 0))) :: x_oX7 cy ad a53 ++ (x_oX10 cy a42 ++ (x_oX2 cy a31 ++ (x_oX0 cy ad a20 ++ (x_oX0 cy ad a9 ++ ((h0, .inr (11, [.ref (a9 0), .ref (a20 0), .ref (a31 0), .ref (a42 0), .ref (a53 0), .ref q62, .null, .null, .null, .int 0, .int 0])) :: [])))))) _ := hP
  have hD : va_D A ((q62, .inl (cy 0, 16, .inl (fun _ => 0))) :: x_oX7 cy ad a53 ++ (x_oX10 cy a42 ++ (x_oX2 cy a31 ++ (x_oX0 cy ad a20 ++ (x_oX0 cy ad a9 ++ ((h0, .inr (11, [.ref (a9 0), .ref (a20 0), .ref (a31 0), .ref (a42 0), .ref (a53 0), .ref q62, .null, .null, .null, .int 0, .int 0])) :: [])))))) := hD
  refine lv_aload_n hx hb dX11_init_67 rfl (lv_at hl 0 rfl) ?_
  refine lv_bipush (v := (nI 30)) hx hb dX11_init_68 (by decide) ?_
  refine x_newa C hP hD hS hA 0 (N' := 30) wa_int rfl rfl rfl (by decide) (by decide) (by decide) (by decide) (by decide) dX11_init_70 (fun q70 H hP hD hS => ?_)
  refine x_putF C hP hD hS 91 6 (a := h0) (ci := 11) (fs := [.ref (a9 0), .ref (a20 0), .ref (a31 0), .ref (a42 0), .ref (a53 0), .ref q62, .null, .null, .null, .int 0, .int 0]) (v := .ref q70) rfl rfl rfl lk_RX11_44 rfl rfl (ty := (.array .int)) (by decide +kernel) rfl rfl rfl dX11_init_72 (fun H locs hP hD hS => ?_)
  have hP : va_P D vwCl ((q70, .inl (cy 0, 30, .inl (fun _ => 0))) :: (q62, .inl (cy 0, 16, .inl (fun _ => 0))) :: x_oX7 cy ad a53 ++ (x_oX10 cy a42 ++ (x_oX2 cy a31 ++ (x_oX0 cy ad a20 ++ (x_oX0 cy ad a9 ++ ((h0, .inr (11, [.ref (a9 0), .ref (a20 0), .ref (a31 0), .ref (a42 0), .ref (a53 0), .ref q62, .ref q70, .null, .null, .int 0, .int 0])) :: [])))))) _ := hP
  have hD : va_D A ((q70, .inl (cy 0, 30, .inl (fun _ => 0))) :: (q62, .inl (cy 0, 16, .inl (fun _ => 0))) :: x_oX7 cy ad a53 ++ (x_oX10 cy a42 ++ (x_oX2 cy a31 ++ (x_oX0 cy ad a20 ++ (x_oX0 cy ad a9 ++ ((h0, .inr (11, [.ref (a9 0), .ref (a20 0), .ref (a31 0), .ref (a42 0), .ref (a53 0), .ref q62, .ref q70, .null, .null, .int 0, .int 0])) :: [])))))) := hD
  refine lv_aload_n hx hb dX11_init_75 rfl (lv_at hl 0 rfl) ?_
  refine lv_bipush (v := (nI 32)) hx hb dX11_init_76 (by decide) ?_
  refine x_newa C hP hD hS hA 1 (N' := 32) wa_short rfl rfl rfl (by decide) (by decide) (by decide) (by decide) (by decide) dX11_init_78 (fun q78 H hP hD hS => ?_)
  refine x_putF C hP hD hS 92 7 (a := h0) (ci := 11) (fs := [.ref (a9 0), .ref (a20 0), .ref (a31 0), .ref (a42 0), .ref (a53 0), .ref q62, .ref q70, .null, .null, .int 0, .int 0]) (v := .ref q78) rfl rfl rfl lk_RX11_47 rfl rfl (ty := (.array .short)) (by decide +kernel) rfl rfl rfl dX11_init_80 (fun H locs hP hD hS => ?_)
  have hP : va_P D vwCl ((q78, .inl (cy 1, 32, .inl (fun _ => 0))) :: (q70, .inl (cy 0, 30, .inl (fun _ => 0))) :: (q62, .inl (cy 0, 16, .inl (fun _ => 0))) :: x_oX7 cy ad a53 ++ (x_oX10 cy a42 ++ (x_oX2 cy a31 ++ (x_oX0 cy ad a20 ++ (x_oX0 cy ad a9 ++ ((h0, .inr (11, [.ref (a9 0), .ref (a20 0), .ref (a31 0), .ref (a42 0), .ref (a53 0), .ref q62, .ref q70, .ref q78, .null, .int 0, .int 0])) :: [])))))) _ := hP
  have hD : va_D A ((q78, .inl (cy 1, 32, .inl (fun _ => 0))) :: (q70, .inl (cy 0, 30, .inl (fun _ => 0))) :: (q62, .inl (cy 0, 16, .inl (fun _ => 0))) :: x_oX7 cy ad a53 ++ (x_oX10 cy a42 ++ (x_oX2 cy a31 ++ (x_oX0 cy ad a20 ++ (x_oX0 cy ad a9 ++ ((h0, .inr (11, [.ref (a9 0), .ref (a20 0), .ref (a31 0), .ref (a42 0), .ref (a53 0), .ref q62, .ref q70, .ref q78, .null, .int 0, .int 0])) :: [])))))) := hD
  refine lv_aload_n hx hb dX11_init_83 rfl (lv_at hl 0 rfl) ?_
  refine lv_iconst (v := (nI 2)) hx hb dX11_init_84 (by decide) ?_
  refine x_newa C hP hD hS hA 0 (N' := 2) wa_int rfl rfl rfl (by decide) (by decide) (by decide) (by decide) (by decide) dX11_init_85 (fun q85 H hP hD hS => ?_)
  refine lv_dup hx hb dX11_init_87 rfl ?_
  refine lv_iconst (v := (nI 0)) hx hb dX11_init_88 (by decide) ?_
  refine lv_iconst (v := (-1)) hx hb dX11_init_89 (by decide) ?_
  refine x_iastL C hP hD hS 0 rfl (j := 0) (by decide) (by unfold vp_in; decide) dX11_init_90 (fun H locs hP hD hS => ?_)
  have hP : va_P D vwCl ((q85, .inl (cy 0, 2, .inl (upd (fun _ => 0) 0 (-1)))) :: (q78, .inl (cy 1, 32, .inl (fun _ => 0))) :: (q70, .inl (cy 0, 30, .inl (fun _ => 0))) :: (q62, .inl (cy 0, 16, .inl (fun _ => 0))) :: x_oX7 cy ad a53 ++ (x_oX10 cy a42 ++ (x_oX2 cy a31 ++ (x_oX0 cy ad a20 ++ (x_oX0 cy ad a9 ++ ((h0, .inr (11, [.ref (a9 0), .ref (a20 0), .ref (a31 0), .ref (a42 0), .ref (a53 0), .ref q62, .ref q70, .ref q78, .null, .int 0, .int 0])) :: [])))))) _ := hP
  have hD : va_D A ((q85, .inl (cy 0, 2, .inl (upd (fun _ => 0) 0 (-1)))) :: (q78, .inl (cy 1, 32, .inl (fun _ => 0))) :: (q70, .inl (cy 0, 30, .inl (fun _ => 0))) :: (q62, .inl (cy 0, 16, .inl (fun _ => 0))) :: x_oX7 cy ad a53 ++ (x_oX10 cy a42 ++ (x_oX2 cy a31 ++ (x_oX0 cy ad a20 ++ (x_oX0 cy ad a9 ++ ((h0, .inr (11, [.ref (a9 0), .ref (a20 0), .ref (a31 0), .ref (a42 0), .ref (a53 0), .ref q62, .ref q70, .ref q78, .null, .int 0, .int 0])) :: [])))))) := hD
  refine lv_dup hx hb dX11_init_91 rfl ?_
  refine lv_iconst (v := (nI 1)) hx hb dX11_init_92 (by decide) ?_
  refine lv_iconst (v := (-1)) hx hb dX11_init_93 (by decide) ?_
  refine x_iastL C hP hD hS 0 rfl (j := 1) (by decide) (by unfold vp_in; decide) dX11_init_94 (fun H locs hP hD hS => ?_)
  have hP : va_P D vwCl ((q85, .inl (cy 0, 2, .inl (upd (upd (fun _ => 0) 0 (-1)) 1 (-1)))) :: (q78, .inl (cy 1, 32, .inl (fun _ => 0))) :: (q70, .inl (cy 0, 30, .inl (fun _ => 0))) :: (q62, .inl (cy 0, 16, .inl (fun _ => 0))) :: x_oX7 cy ad a53 ++ (x_oX10 cy a42 ++ (x_oX2 cy a31 ++ (x_oX0 cy ad a20 ++ (x_oX0 cy ad a9 ++ ((h0, .inr (11, [.ref (a9 0), .ref (a20 0), .ref (a31 0), .ref (a42 0), .ref (a53 0), .ref q62, .ref q70, .ref q78, .null, .int 0, .int 0])) :: [])))))) _ := hP
  have hD : va_D A ((q85, .inl (cy 0, 2, .inl (upd (upd (fun _ => 0) 0 (-1)) 1 (-1)))) :: (q78, .inl (cy 1, 32, .inl (fun _ => 0))) :: (q70, .inl (cy 0, 30, .inl (fun _ => 0))) :: (q62, .inl (cy 0, 16, .inl (fun _ => 0))) :: x_oX7 cy ad a53 ++ (x_oX10 cy a42 ++ (x_oX2 cy a31 ++ (x_oX0 cy ad a20 ++ (x_oX0 cy ad a9 ++ ((h0, .inr (11, [.ref (a9 0), .ref (a20 0), .ref (a31 0), .ref (a42 0), .ref (a53 0), .ref q62, .ref q70, .ref q78, .null, .int 0, .int 0])) :: [])))))) := hD
  refine x_putF C hP hD hS 93 8 (a := h0) (ci := 11) (fs := [.ref (a9 0), .ref (a20 0), .ref (a31 0), .ref (a42 0), .ref (a53 0), .ref q62, .ref q70, .ref q78, .null, .int 0, .int 0]) (v := .ref q85) rfl rfl rfl lk_RX11_51 rfl rfl (ty := (.array .int)) (by decide +kernel) rfl rfl rfl dX11_init_95 (fun H locs hP hD hS => ?_)
  have hP : va_P D vwCl ((q85, .inl (cy 0, 2, .inl (upd (upd (fun _ => 0) 0 (-1)) 1 (-1)))) :: (q78, .inl (cy 1, 32, .inl (fun _ => 0))) :: (q70, .inl (cy 0, 30, .inl (fun _ => 0))) :: (q62, .inl (cy 0, 16, .inl (fun _ => 0))) :: x_oX7 cy ad a53 ++ (x_oX10 cy a42 ++ (x_oX2 cy a31 ++ (x_oX0 cy ad a20 ++ (x_oX0 cy ad a9 ++ ((h0, .inr (11, [.ref (a9 0), .ref (a20 0), .ref (a31 0), .ref (a42 0), .ref (a53 0), .ref q62, .ref q70, .ref q78, .ref q85, .int 0, .int 0])) :: [])))))) _ := hP
  have hD : va_D A ((q85, .inl (cy 0, 2, .inl (upd (upd (fun _ => 0) 0 (-1)) 1 (-1)))) :: (q78, .inl (cy 1, 32, .inl (fun _ => 0))) :: (q70, .inl (cy 0, 30, .inl (fun _ => 0))) :: (q62, .inl (cy 0, 16, .inl (fun _ => 0))) :: x_oX7 cy ad a53 ++ (x_oX10 cy a42 ++ (x_oX2 cy a31 ++ (x_oX0 cy ad a20 ++ (x_oX0 cy ad a9 ++ ((h0, .inr (11, [.ref (a9 0), .ref (a20 0), .ref (a31 0), .ref (a42 0), .ref (a53 0), .ref q62, .ref q70, .ref q78, .ref q85, .int 0, .int 0])) :: [])))))) := hD
  have hPz := hP.sub (ws' := x_oX11 cy ad (fun k => ([h0, (a9 0), (a9 1), (a9 2), (a9 3), (a9 4), (a9 5), (a9 6), (a9 7), (a9 8), (a9 9), (a9 10), (a9 11), (a9 12), (a9 13), (a9 14), (a9 15), (a9 16), (a9 17), (a9 18), (a9 19), (a9 20), (a9 21), (a9 22), (a9 23), (a9 24), (a9 25), (a9 26), (a9 27), (a9 28), (a9 29), (a9 30), (a9 31), (a9 32), (a20 0), (a20 1), (a20 2), (a20 3), (a20 4), (a20 5), (a20 6), (a20 7), (a20 8), (a20 9), (a20 10), (a20 11), (a20 12), (a20 13), (a20 14), (a20 15), (a20 16), (a20 17), (a20 18), (a20 19), (a20 20), (a20 21), (a20 22), (a20 23), (a20 24), (a20 25), (a20 26), (a20 27), (a20 28), (a20 29), (a20 30), (a20 31), (a20 32), (a31 0), (a31 1), (a31 2), (a31 3), (a31 4), (a31 5), (a31 6), (a31 7), (a31 8), (a31 9), (a31 10), (a42 0), (a42 1), (a53 0), (a53 1), (a53 2), (a53 3), q62, q70, q78, q85, (a9 33), (a9 34), (a9 35), (a20 33), (a20 34), (a20 35)] : List Nat).getD k 0)) [93, 57, 58, 59, 60, 61, 62, 63, 64, 65, 66, 67, 68, 69, 70, 71, 72, 73, 74, 75, 76, 77, 78, 79, 80, 81, 82, 83, 84, 85, 86, 87, 88, 89, 21, 22, 23, 24, 25, 26, 27, 28, 29, 30, 31, 32, 33, 34, 35, 36, 37, 38, 39, 40, 41, 42, 43, 44, 45, 46, 47, 48, 49, 50, 51, 52, 53, 10, 11, 12, 13, 14, 15, 16, 17, 18, 19, 20, 8, 9, 4, 5, 6, 7, 3, 2, 1, 0, 90, 91, 92, 54, 55, 56] rfl
  have hDz := hD.sub (ws' := x_oX11 cy ad (fun k => ([h0, (a9 0), (a9 1), (a9 2), (a9 3), (a9 4), (a9 5), (a9 6), (a9 7), (a9 8), (a9 9), (a9 10), (a9 11), (a9 12), (a9 13), (a9 14), (a9 15), (a9 16), (a9 17), (a9 18), (a9 19), (a9 20), (a9 21), (a9 22), (a9 23), (a9 24), (a9 25), (a9 26), (a9 27), (a9 28), (a9 29), (a9 30), (a9 31), (a9 32), (a20 0), (a20 1), (a20 2), (a20 3), (a20 4), (a20 5), (a20 6), (a20 7), (a20 8), (a20 9), (a20 10), (a20 11), (a20 12), (a20 13), (a20 14), (a20 15), (a20 16), (a20 17), (a20 18), (a20 19), (a20 20), (a20 21), (a20 22), (a20 23), (a20 24), (a20 25), (a20 26), (a20 27), (a20 28), (a20 29), (a20 30), (a20 31), (a20 32), (a31 0), (a31 1), (a31 2), (a31 3), (a31 4), (a31 5), (a31 6), (a31 7), (a31 8), (a31 9), (a31 10), (a42 0), (a42 1), (a53 0), (a53 1), (a53 2), (a53 3), q62, q70, q78, q85, (a9 33), (a9 34), (a9 35), (a20 33), (a20 34), (a20 35)] : List Nat).getD k 0)) [93, 57, 58, 59, 60, 61, 62, 63, 64, 65, 66, 67, 68, 69, 70, 71, 72, 73, 74, 75, 76, 77, 78, 79, 80, 81, 82, 83, 84, 85, 86, 87, 88, 89, 21, 22, 23, 24, 25, 26, 27, 28, 29, 30, 31, 32, 33, 34, 35, 36, 37, 38, 39, 40, 41, 42, 43, 44, 45, 46, 47, 48, 49, 50, 51, 52, 53, 10, 11, 12, 13, 14, 15, 16, 17, 18, 19, 20, 8, 9, 4, 5, 6, 7, 3, 2, 1, 0, 90, 91, 92, 54, 55, 56] (by decide) rfl
  exact hret (fun k => ([h0, (a9 0), (a9 1), (a9 2), (a9 3), (a9 4), (a9 5), (a9 6), (a9 7), (a9 8), (a9 9), (a9 10), (a9 11), (a9 12), (a9 13), (a9 14), (a9 15), (a9 16), (a9 17), (a9 18), (a9 19), (a9 20), (a9 21), (a9 22), (a9 23), (a9 24), (a9 25), (a9 26), (a9 27), (a9 28), (a9 29), (a9 30), (a9 31), (a9 32), (a20 0), (a20 1), (a20 2), (a20 3), (a20 4), (a20 5), (a20 6), (a20 7), (a20 8), (a20 9), (a20 10), (a20 11), (a20 12), (a20 13), (a20 14), (a20 15), (a20 16), (a20 17), (a20 18), (a20 19), (a20 20), (a20 21), (a20 22), (a20 23), (a20 24), (a20 25), (a20 26), (a20 27), (a20 28), (a20 29), (a20 30), (a20 31), (a20 32), (a31 0), (a31 1), (a31 2), (a31 3), (a31 4), (a31 5), (a31 6), (a31 7), (a31 8), (a31 9), (a31 10), (a42 0), (a42 1), (a53 0), (a53 1), (a53 2), (a53 3), q62, q70, q78, q85, (a9 33), (a9 34), (a9 35), (a20 33), (a20 34), (a20 35)] : List Nat).getD k 0) dX11_init_98 rfl hPz hDz hS
