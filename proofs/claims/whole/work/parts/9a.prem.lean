/-! ===== what the Statement gives at the law's start ===== -/
def y_FL : List Cond := flatC (Jvm.Cond.and given_1 narrow_1)
def y_tm (i : Nat) : Term := Term.string "MilesHall$Tape" (x_txi.getD i (0, "")).1
theorem y_s1 : ∀ i, i < 17 → x_len.getD i 0 < 100 := by decide +kernel
theorem y_s2 : ∀ i, i < 17 → Cond.exactly (y_tm i) "java/lang/String" ∈ y_FL := by decide +kernel
theorem y_s3 : ∀ i, i < 17 → Cond.eq (.field (y_tm i) "java/lang/String" "coder" "B") (.int 0) ∈ y_FL := by decide +kernel
theorem y_s4 : ∀ i, i < 17 → Cond.arrayOf (.field (y_tm i) "java/lang/String" "value" "[B") .byte ∈ y_FL := by decide +kernel
theorem y_s5 : ∀ i, i < 17 → Cond.eq (.length (.field (y_tm i) "java/lang/String" "value" "[B")) (.int (Int32.ofNat (x_len.getD i 0))) ∈ y_FL := by decide +kernel
theorem y_s6 : ∀ i, i < 17 → ∀ j, j < x_len.getD i 0 → Cond.eq (.elem (.field (y_tm i) "java/lang/String" "value" "[B") (.int (Int32.ofNat j))) (.int ((x_byt.getD i []).getD j 0)) ∈ y_FL := by decide +kernel
def y_nef (c : Cond) : Option (Nat × Nat) := match c with
  | .not (.eq (.string a i) (.string b j)) => if a = "MilesHall$Tape" ∧ b = "MilesHall$Tape" then some (i, j) else none
  | _ => none
def y_nel : List (Nat × Nat) := [(22, 82), (22, 84), (82, 84), (22, 86), (82, 86), (84, 86), (22, 88), (82, 88), (84, 88), (86, 88), (22, 90), (82, 90), (84, 90), (86, 90), (88, 90), (22, 92), (82, 92), (84, 92), (86, 92), (88, 92), (90, 92), (22, 94), (82, 94), (84, 94), (86, 94), (88, 94), (90, 94), (92, 94), (22, 96), (82, 96), (84, 96), (86, 96), (88, 96), (90, 96), (92, 96), (94, 96), (22, 164), (82, 164), (84, 164), (86, 164), (88, 164), (90, 164), (92, 164), (94, 164), (96, 164), (22, 169), (82, 169), (84, 169), (86, 169), (88, 169), (90, 169), (92, 169), (94, 169), (96, 169), (164, 169), (22, 177), (82, 177), (84, 177), (86, 177), (88, 177), (90, 177), (92, 177), (94, 177), (96, 177), (164, 177), (169, 177), (22, 98), (82, 98), (84, 98), (86, 98), (88, 98), (90, 98), (92, 98), (94, 98), (96, 98), (164, 98), (169, 98), (177, 98), (22, 100), (82, 100), (84, 100), (86, 100), (88, 100), (90, 100), (92, 100), (94, 100), (96, 100), (164, 100), (169, 100), (177, 100), (98, 100), (22, 102), (82, 102), (84, 102), (86, 102), (88, 102), (90, 102), (92, 102), (94, 102), (96, 102), (164, 102), (169, 102), (177, 102), (98, 102), (100, 102), (22, 104), (82, 104), (84, 104), (86, 104), (88, 104), (90, 104), (92, 104), (94, 104), (96, 104), (164, 104), (169, 104), (177, 104), (98, 104), (100, 104), (102, 104), (22, 106), (82, 106), (84, 106), (86, 106), (88, 106), (90, 106), (92, 106), (94, 106), (96, 106), (164, 106), (169, 106), (177, 106), (98, 106), (100, 106), (102, 106), (104, 106)]
theorem y_ne1 : y_FL.filterMap y_nef = y_nel := by decide +kernel
theorem y_ne2 {c : Cond} {i j : Nat} (h : y_nef c = some (i, j)) : c = .not (.eq (.string "MilesHall$Tape" i) (.string "MilesHall$Tape" j)) := by
  unfold y_nef at h
  split at h
  · split at h
    · rename_i hab
      obtain ⟨rfl, rfl⟩ := hab
      cases h
      rfl
    · cases h
  · cases h
theorem y_ne3 {i j : Nat} (h : (i, j) ∈ y_nel) : Cond.not (Cond.eq (.string "MilesHall$Tape" i) (.string "MilesHall$Tape" j)) ∈ y_FL := by
  rw [← y_ne1] at h
  obtain ⟨c, h1, h2⟩ := List.mem_filterMap.mp h
  rw [← y_ne2 h2]
  exact h1
theorem y_ne4b : (List.range 17).all (fun i => (List.range 17).all (fun j => i == j || (y_nel.contains ((x_txi.getD i (0, "")).1, (x_txi.getD j (0, "")).1) || y_nel.contains ((x_txi.getD j (0, "")).1, (x_txi.getD i (0, "")).1)))) = true := by decide +kernel
theorem y_ne4 (i : Nat) (hi : i < 17) (j : Nat) (hj : j < 17) (hne : i ≠ j) : (((x_txi.getD i (0, "")).1, (x_txi.getD j (0, "")).1) ∈ y_nel ∨ ((x_txi.getD j (0, "")).1, (x_txi.getD i (0, "")).1) ∈ y_nel) := by
  have h1 := List.all_eq_true.mp (List.all_eq_true.mp y_ne4b i (List.mem_range.mpr hi)) j (List.mem_range.mpr hj)
  simp only [Bool.or_eq_true, beq_iff_eq, List.contains_iff_mem] at h1
  exact h1.resolve_left hne
theorem y_s7 (i : Nat) (hi : i < 17) (j : Nat) (hj : j < 17) (hne : i ≠ j) : (Cond.not (Cond.eq (y_tm i) (y_tm j)) ∈ y_FL ∨ Cond.not (Cond.eq (y_tm j) (y_tm i)) ∈ y_FL) := (y_ne4 i hi j hj hne).imp y_ne3 y_ne3
theorem y_s8 : ∀ i, i < 17 → Cond.stringRef "MilesHall$Tape" (x_txi.getD i (0, "")).1 (x_txi.getD i (0, "")).2 ∈ tables_1 := by decide +kernel
theorem y_nest : x_nest.all (fun w => decide (w ∈ tables_1) && w.onTables) = true := by decide +kernel
theorem y_cl1 {s : State} {args : Array Value} (hL : ∀ w ∈ wsU, w.before args s = true) {ty : FieldType} (h : Cond.arrayClass ty ∈ wsU) (hp : ∀ C, ty ≠ .object C) : ∃ cA, ArrOfT s cA ty ∧ va_RA s cA ty := by
  obtain ⟨cA, kA, comp, h1, h2, h3⟩ := Cond.arrayClass_spec (hL _ h)
  refine ⟨cA, fun n z => ⟨fun k h => (by cases h), kA, h2, comp, h3⟩, ?_⟩
  cases ty with
  | object C => exact absurd rfl (hp C)
  | _ => exact h1
theorem y_cl2 {s : State} {args : Array Value} (h : (Cond.arrayOver (.object "MilesHall$Terms")).before args s = true) : ∃ cA, ArrOfT s cA (.object "MilesHall$Terms") ∧ va_RA s cA (.object "MilesHall$Terms") := by
  obtain ⟨comp, cA, kA, h1, h2, h3, h4, h5⟩ := Cond.arrayOver_spec h
  exact ⟨cA, fun n z => ⟨fun k h => (by cases h), kA, h3, comp, h4⟩, kA, comp, h3, h4, h1, h5⟩
theorem y_prem {s : State} {args : Array Value} (hts : ∀ w ∈ lw_tbl, w.before args s = true) (hgv : (Jvm.Cond.and given_1 narrow_1).before args s = true) : ∃ (D : va_G) (cy : Nat → ClassId) (ad adV : Nat → Nat), x_N D cy s s ∧ x_Z s ad adV := by
  have hL : ∀ w ∈ wsU, w.before args s = true := fun w hw => hts w (List.mem_filter.mp hw).1
  have hT : ∀ w ∈ tables_1, w.before args s = true := fun w hw => hts w (List.mem_append_right _ hw)
  have hF : ∀ w ∈ y_FL, w.before args s = true := flat_of_before _ hgv
  have hA : ∀ a : Nat, a < s.heap.size → ¬ (fun a => s.heap.size ≤ a) a := fun a h g => absurd g (Nat.not_le.mpr h)
  obtain ⟨c0, i0, h0⟩ := u_known (C := RX0) (T := TX0) (N := 9) (n := 9) hL inlX0 (hL (.instantiable RX0 9) (x_mem1w (by decide +kernel)))
  obtain ⟨c1, i1, h1⟩ := u_known (C := RX1) (T := TX1) (N := 11) (n := 11) hL inlX1 (hL (.instantiable RX1 11) (x_mem1w (by decide +kernel)))
  obtain ⟨c2, i2, h2⟩ := u_known (C := RX2) (T := TX2) (N := 10) (n := 10) hL inlX2 (hL (.instantiable RX2 10) (x_mem1w (by decide +kernel)))
  obtain ⟨c3, i3, h3⟩ := u_known (C := RX3) (T := TX3) (N := 10) (n := 10) hL inlX3 (hL (.instantiable RX3 10) (x_mem1w (by decide +kernel)))
  obtain ⟨c4, i4, h4⟩ := u_known (C := RX4) (T := TX4) (N := 4) (n := 4) hL inlX4 (hL (.instantiable RX4 4) (x_mem1w (by decide +kernel)))
  obtain ⟨c5, i5, h5⟩ := u_known (C := RX5) (T := TX5) (N := 4) (n := 4) hL inlX5 (hL (.instantiable RX5 4) (x_mem1w (by decide +kernel)))
  obtain ⟨c6, i6, h6⟩ := u_known (C := RX6) (T := TX6) (N := 10) (n := 10) hL inlX6 (hL (.instantiable RX6 10) (x_mem1w (by decide +kernel)))
  obtain ⟨c7, i7, h7⟩ := u_known (C := RX7) (T := TX7) (N := 14) (n := 14) hL inlX7 (hL (.instantiable RX7 14) (x_mem1w (by decide +kernel)))
  obtain ⟨c8, i8, h8⟩ := u_known (C := RX8) (T := TX8) (N := 3) (n := 3) hL inlX8 (hL (.instantiable RX8 3) (x_mem1w (by decide +kernel)))
  obtain ⟨c9, i9, h9⟩ := u_known (C := RX9) (T := TX9) (N := 3) (n := 3) hL inlX9 (hL (.instantiable RX9 3) (x_mem1w (by decide +kernel)))
  obtain ⟨c10, i10, h10⟩ := u_known (C := RX10) (T := TX10) (N := 2) (n := 2) hL inlX10 (hL (.instantiable RX10 2) (x_mem1w (by decide +kernel)))
  obtain ⟨c11, i11, h11⟩ := u_known (C := RX11) (T := TX11) (N := 11) (n := 11) hL inlX11 (hL (.instantiable RX11 11) (x_mem1w (by decide +kernel)))
  obtain ⟨c12, i12, h12⟩ := u_known (C := RX12) (T := TX12) (N := 39) (n := 39) hL inlX12 (hL (.instantiable RX12 39) (x_mem1w (by decide +kernel)))
  obtain ⟨y0, a0⟩ := y_cl1 hL (ty := .int) wa_int (by intro C h; cases h)
  obtain ⟨y1, a1⟩ := y_cl1 hL (ty := .short) wa_short (by intro C h; cases h)
  obtain ⟨y2, a2⟩ := y_cl1 hL (ty := .byte) wa_byte (by intro C h; cases h)
  obtain ⟨y3, a3⟩ := y_cl1 hL (ty := .boolean) wa_boolean (by intro C h; cases h)
  have hover : (Cond.arrayOver (.object "MilesHall$Terms")).before args s = true := hT _ (by decide +kernel)
  obtain ⟨y4, a4⟩ := y_cl2 hover
  obtain ⟨y5, a5⟩ := y_cl1 hL (ty := .long) wa_long (by intro C h; cases h)
  obtain ⟨ad, adV, hvS, hvE⟩ := vk_Sof (args := args) (s := s) (N := 17) (tm := y_tm) (len := x_len) (byt := x_byt) (A := fun a => s.heap.size ≤ a) (fun i hi => Nat.lt_trans (y_s1 i hi) (by decide)) (fun i hi => hF _ (y_s2 i hi)) (fun i hi => hF _ (y_s3 i hi)) (fun i hi => hF _ (y_s4 i hi)) (fun i hi => hF _ (y_s5 i hi)) (fun i hi j hj => hF _ (y_s6 i hi j hj)) (fun i j hi hj hne => (y_s7 i hi j hj hne).imp (hF _) (hF _)) hA
  refine ⟨(fun k => [c0, c1, c2, c3, c4, c5, c6, c7, c8, c9, c10, c11, c12].getD k c0, fun k => [i0, i1, i2, i3, i4, i5, i6, i7, i8, i9, i10, i11, i12].getD k i0), fun k => [y0, y1, y2, y3, y4, y5].getD k y0, ad, adV, ⟨⟨fun k q hq => ?_, fun k q hq => ?_⟩, fun w hw => ?_, State.WarmedH.refl s, Nat.le_refl _, fun _ _ => rfl⟩, ⟨hvS, fun i t ht => ?_⟩, ?_, ?_, ?_, ?_, va_AO.of hover⟩
  · match k, hq with
    | 0, hq => cases hq; exact h0
    | 1, hq => cases hq; exact h1
    | 2, hq => cases hq; exact h2
    | 3, hq => cases hq; exact h3
    | 4, hq => cases hq; exact h4
    | 5, hq => cases hq; exact h5
    | 6, hq => cases hq; exact h6
    | 7, hq => cases hq; exact h7
    | 8, hq => cases hq; exact h8
    | 9, hq => cases hq; exact h9
    | 10, hq => cases hq; exact h10
    | 11, hq => cases hq; exact h11
    | 12, hq => cases hq; exact h12
    | k + 13, hq => simp [vwCl] at hq
  · match k, hq with
    | 0, hq => cases hq; exact a0
    | 1, hq => cases hq; exact a1
    | 2, hq => cases hq; exact a2
    | 3, hq => cases hq; exact a3
    | 4, hq => cases hq; exact a4
    | 5, hq => cases hq; exact a5
    | k + 6, hq => simp [x_ty] at hq
  · have h1 := List.all_eq_true.mp y_nest w hw
    simp only [Bool.and_eq_true, decide_eq_true_eq] at h1
    exact va_Nw.of h1.2 (hT _ h1.1)
  · have hi : i < 17 := (List.getElem?_eq_some_iff.mp ht).1
    have e : x_txi.getD i (0, "") = t := by rw [List.getD_eq_getElem?_getD, ht]; rfl
    have h1 := hT _ (y_s8 i hi)
    have h2 := hvE i hi
    unfold y_tm at h2
    rw [e] at h1 h2
    refine ⟨?_, ?_⟩
    · exact vk_R.of h1 h2 |>.1
    · exact vk_R.of h1 h2 |>.2
  · exact va_Zof (hT _ (by decide +kernel)) (hT _ (by decide +kernel)) (va_eqi (hF _ (by decide +kernel))) hA
  · exact va_Zqof (hT _ (by decide +kernel)) (hT _ (by decide +kernel)) (hF _ (by decide +kernel)) hA
  · obtain ⟨t, e1, e2⟩ := va_Tof (args := args) (s := s) (tm := .static "MilesHall" "LEAST_RULE" "[I") (ty := .int) (N := 3) (f := fun i => .int (x_least i)) (A := fun a => s.heap.size ≤ a) (by decide) (hF _ (by decide +kernel)) (va_eqt (hF _ (by decide +kernel))) (fun j hj => by rcases (show j = 0 ∨ j = 1 ∨ j = 2 by omega) with rfl | rfl | rfl <;> exact va_eqt (hF _ (by decide +kernel))) hA
    exact ⟨t, va_Zref (hT _ (by decide +kernel)) (hT _ (by decide +kernel)) e1 hA, e2⟩
  · obtain ⟨t, e1, e2⟩ := va_Tof (args := args) (s := s) (tm := .static "MilesHall" "MOST_RULE" "[I") (ty := .int) (N := 3) (f := fun i => .int (x_most i)) (A := fun a => s.heap.size ≤ a) (by decide) (hF _ (by decide +kernel)) (va_eqt (hF _ (by decide +kernel))) (fun j hj => by rcases (show j = 0 ∨ j = 1 ∨ j = 2 by omega) with rfl | rfl | rfl <;> exact va_eqt (hF _ (by decide +kernel))) hA
    exact ⟨t, va_Zref (hT _ (by decide +kernel)) (hT _ (by decide +kernel)) e1 hA, e2⟩
