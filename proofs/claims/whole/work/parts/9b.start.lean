/-! ===== the law's start ===== -/
def y_X0 : x_M := fun k => match k with
  | 31 => upd (upd (upd (fun _ => 0) 0 (nI 30)) 1 (nI 90)) 2 (nI 60)
  | 64 => upd (upd (upd (fun _ => 0) 0 (nI 30)) 1 (nI 90)) 2 (nI 60)
  | 32 => upd (upd (upd (upd (fun _ => 0) 0 (nI 0)) 1 (nI 10)) 2 (nI 10)) 3 (nI 10)
  | 65 => upd (upd (upd (upd (fun _ => 0) 0 (nI 0)) 1 (nI 10)) 2 (nI 10)) 3 (nI 10)
  | 33 => upd (upd (upd (upd (fun _ => 0) 0 (nI 0)) 1 (nI 8)) 2 (nI 8)) 3 (nI 8)
  | 66 => upd (upd (upd (upd (fun _ => 0) 0 (nI 0)) 1 (nI 8)) 2 (nI 8)) 3 (nI 8)
  | 78 => upd (fun _ => 0) 1 (-1)
  | 87 => upd (upd (fun _ => 0) 0 (-1)) 1 (-1)
  | 88 => upd (fun _ => 0) 0 (nI 0)
  | 89 => upd (upd (upd (upd (upd (fun _ => 0) 0 (-108)) 1 (nI 720)) 2 (-108)) 3 (nI 0)) 2147483648 (nI 4)
  | 90 => upd (upd (upd (upd (fun _ => 0) 0 (nI 1)) 1 (nI 2)) 2 (nI 3)) 3 (nI 4)
  | 91 => upd (fun _ => 0) 0 (nI 0)
  | 92 => upd (upd (upd (upd (upd (fun _ => 0) 0 (-108)) 1 (nI 720)) 2 (-108)) 3 (nI 0)) 2147483648 (nI 4)
  | 93 => upd (upd (upd (upd (fun _ => 0) 0 (nI 1)) 1 (nI 2)) 2 (nI 3)) 3 (nI 4)
  | _ => fun _ => 0
def y_M0 : x_M := x_up (x_up (x_up (x_up (x_up (x_up (x_up (x_up (x_up x_Y0 1 1 (nI 30)) 1 2 (nI 90)) 1 3 (nI 60)) 1 10 (nI 10)) 1 11 (nI 8)) 1 12 (nI 10)) 1 13 (nI 8)) 1 14 (nI 10)) 1 15 (nI 8)
theorem y_init : f_X12_init x_Y0 = some ((), y_M0) := by
  unfold f_X12_init
  rw [show x_FU = 99996 + 1 + 1 + 1 + 1 from rfl]
  simp (disch := omega) only [z_wr]
  rw [f_X12_init_227_s, if_neg (by decide)]
  simp (disch := omega) only [z_wr, z_add, z_mul]
  rw [f_X12_init_227_s, if_neg (by decide)]
  simp (disch := omega) only [z_wr, z_add, z_mul]
  rw [f_X12_init_227_s, if_neg (by decide)]
  simp (disch := omega) only [z_wr, z_add, z_mul]
  rw [f_X12_init_227_s, if_pos (by decide)]
  rfl
def y_oX (cy : Nat → ClassId) (ad : Nat → Nat) (a : Nat → Nat) : va_W := ((x_oX11 cy ad a).set 89 (a 89, .inl (cy 0, 4, .inl (upd (upd (upd (upd (upd (fun _ => 0) 0 (-108)) 1 (nI 720)) 2 (-108)) 3 (nI 0)) 2147483648 (nI 4))))).set 92 (a 92, .inl (cy 0, 4, .inl (upd (upd (upd (upd (upd (fun _ => 0) 0 (-108)) 1 (nI 720)) 2 (-108)) 3 (nI 0)) 2147483648 (nI 4))))
set_option maxRecDepth 100000 in
set_option maxHeartbeats 4000000 in
theorem y_oX_w {cy : Nat → ClassId} {ad a : Nat → Nat} : y_oX cy ad a = x_w cy a ad x_spX 94 y_X0 := by
  unfold x_w
  rw [show List.range 94 = [0, 1, 2, 3, 4, 5, 6, 7, 8, 9, 10, 11, 12, 13, 14, 15, 16, 17, 18, 19, 20, 21, 22, 23, 24, 25, 26, 27, 28, 29, 30, 31, 32, 33, 34, 35, 36, 37, 38, 39, 40, 41, 42, 43, 44, 45, 46, 47, 48, 49, 50, 51, 52, 53, 54, 55, 56, 57, 58, 59, 60, 61, 62, 63, 64, 65, 66, 67, 68, 69, 70, 71, 72, 73, 74, 75, 76, 77, 78, 79, 80, 81, 82, 83, 84, 85, 86, 87, 88, 89, 90, 91, 92, 93] from rfl]
  simp only [List.map_cons, List.map_nil]
  have e79 : x_E cy a ad (x_spX 79) (y_X0 79) = .inl (cy 5, 3001, .inr (.inl (fun _ => 0))) := by
    have e1 : x_jg (y_X0 79) = fun _ => 0 := by
      funext i
      exact x_j_00
    show (Sum.inl (cy 5, 3001, .inr (.inl (x_jg (y_X0 79)))) : va_E) = _
    rw [e1]
  rw [e79]
  rfl
theorem y_mi1 : Cond.initialized yX11_init.cls ∈ wsU ∧ Cond.code yX11_init cX11_init 1 none ∈ wsU ∧ Cond.instanceMethod yX11_init ∈ wsU := ⟨x_mem1w (by decide +kernel), x_mem1w (by decide +kernel), x_mem1w (by decide +kernel)⟩
theorem y_mi2 : Cond.initialized yX12_init.cls ∈ wsU ∧ Cond.code yX12_init cX12_init 2 none ∈ wsU ∧ Cond.instanceMethod yX12_init ∈ wsU := ⟨x_mem1w (by decide +kernel), x_mem1w (by decide +kernel), x_mem1w (by decide +kernel)⟩
set_option maxHeartbeats 4000000 in
set_option maxRecDepth 100000 in
theorem y_start {Rl : Nat → x_M → x_M → Prop} (hE : y_H Rl) (hR0 : Rl 94 y_X0 y_M0) {p : Program} {e : Env} {s : State} {m : MethodId} {below : List Frame} {meth : Method} {c : Code} (l : Launch) {b L : Nat} {xs : Nat → Int32} (hL : L ≤ 3072) (C0 : lw_At p s m meth c b L xs) : W p l e room_1 s m #[Value.ref b] below meth c s.heap [] 0 0 (lw_Z below #[Value.ref b] s) (entryFrame m ([Value.ref b] : List Value).toArray 4) := by
  obtain ⟨hx, hb, hr, hml, hown, hts, hX, hbl, hlocks, hgv⟩ := id C0
  obtain ⟨D, cy, ad, adV, hN, hZ⟩ := y_prem hts hgv
  have hL' : ∀ w ∈ wsU, w.before #[Value.ref b] s = true := fun w hw => hts w (List.mem_filter.mp hw).1
  have C : CallFix p m c code 4 s #[Value.ref b] wsU RL := ⟨hx, hb, hml, hown, hL'⟩
  have CC : y_C p s m c b L xs D cy ad adV := ⟨C, hN, hZ, hX, hbl⟩
  have hA : ∀ a : Nat, s.heap.size ≤ a → (fun a => s.heap.size ≤ a) a := fun _ h => h
  have hS : va_S (fun a => s.heap.size ≤ a) s.heap s.heap [] := va_S.rf
  have hP : va_P D vwCl [] s.heap := fun k q h => by simp at h
  have hD : va_D (fun a => s.heap.size ≤ a) [] := ⟨fun i j p q h => by simp at h, fun k q h => by simp at h⟩
  have hl := lv_entry ([.ref b]) (n := 4) (Nat.le_of_ble_eq_true rfl)
  rw [lg_entry_eq]
  generalize (lg_sl ([.ref b]) ++ List.replicate (4 - (lg_sl ([.ref b])).length) Slot.unset).toArray = ls at hl ⊢
  have hl : lv_has ls 4 [(0, .ref b)] := hl
  refine va_new hx hb hL' (x_cls (ci := 11) rfl).1 tyX11 tyX11_ok hown (hL' _ lw_new1.1) (hL' _ lw_new1.2.1) (hL' _ lw_new1.2.2) hN.1 hP hD hS hA (ci := 11) rfl (fs := [.null, .null, .null, .null, .null, .null, .null, .null, .null, .int 0, .int 0]) (fun j hj => by rcases (show j = 0 ∨ j = 1 ∨ j = 2 ∨ j = 3 ∨ j = 4 ∨ j = 5 ∨ j = 6 ∨ j = 7 ∨ j = 8 ∨ j = 9 ∨ j = 10 by omega) with rfl | rfl | rfl | rfl | rfl | rfl | rfl | rfl | rfl | rfl | rfl <;> rfl) (by decide) (by decide) dL_law_0 (fun qx H hP hD hS => ?_)
  refine lv_dup hx hb dL_law_3 rfl ?_
  refine x_ctor C hN (rest := [.ref qx]) (b := qx) hP hD hS hA hA (c_X11_init hZ) (Or.inl lw_in1) y_mi1 (n := 0) (by decide +kernel) rfl ⟨rfl, rfl, by decide, by decide⟩ rfl hl.1 rfl (Nat.le_of_ble_eq_true rfl) dL_law_4 ⟨by decide, by decide⟩ (fun q H locs ea hP1 hD1 hS1 => ?_)
  clear hP hD hS
  subst ea
  have hP := hP1
  have hD := hD1
  have hS := hS1
  clear hP1 hD1 hS1
  rw [List.append_nil] at hP hD
  obtain ⟨hP, hD⟩ := x_remark hP hD 89 (a := q 89) (n := 4) (cA := cy 0) (f := upd (upd (upd (upd (fun _ => 0) 0 (-108)) 1 (nI 720)) 2 (-108)) 3 (nI 0)) (upd (upd (upd (upd (upd (fun _ => 0) 0 (-108)) 1 (nI 720)) 2 (-108)) 3 (nI 0)) 2147483648 (nI 4)) rfl (fun j hj => (pk_un (k := 2147483648) (show j ≠ 2147483648 by omega)).symm)
  obtain ⟨hP, hD⟩ := x_remark hP hD 92 (a := q 92) (n := 4) (cA := cy 0) (f := upd (upd (upd (upd (fun _ => 0) 0 (-108)) 1 (nI 720)) 2 (-108)) 3 (nI 0)) (upd (upd (upd (upd (upd (fun _ => 0) 0 (-108)) 1 (nI 720)) 2 (-108)) 3 (nI 0)) 2147483648 (nI 4)) rfl (fun j hj => (pk_un (k := 2147483648) (show j ≠ 2147483648 by omega)).symm)
  have hP : va_P D vwCl (x_w cy q ad x_spX 94 y_X0) H := by rw [← y_oX_w]; exact hP
  have hD : va_D (fun a => s.heap.size ≤ a) (x_w cy q ad x_spX 94 y_X0) := by rw [← y_oX_w]; exact hD
  refine lv_astore_n (lv' := [(1, .ref (q 0)), (0, .ref b)]) hx hb dL_law_7 rfl hl (by decide) rfl (fun ls hl => ?_)
  refine va_new hx hb hL' (x_cls (ci := 12) rfl).1 tyX12 tyX12_ok hown (hL' _ lw_new2.1) (hL' _ lw_new2.2.1) (hL' _ lw_new2.2.2) hN.1 hP hD hS hA (ci := 12) rfl (fs := [.null, .null, .int 0, .null, .int 0, .int 0, .int 0, .int 0, .int 0, .int 0, .int 0, .int 0, .int 0, .int 0, .null, .null, .int 0, .int 0, .int 0, .null, .null, .null, .null, .null, .int 0, .null, .null, .null, .null, .null, .null, .null, .null, .null, .null, .int 0, .null, .null, .null]) (fun j hj => by rcases (show j = 0 ∨ j = 1 ∨ j = 2 ∨ j = 3 ∨ j = 4 ∨ j = 5 ∨ j = 6 ∨ j = 7 ∨ j = 8 ∨ j = 9 ∨ j = 10 ∨ j = 11 ∨ j = 12 ∨ j = 13 ∨ j = 14 ∨ j = 15 ∨ j = 16 ∨ j = 17 ∨ j = 18 ∨ j = 19 ∨ j = 20 ∨ j = 21 ∨ j = 22 ∨ j = 23 ∨ j = 24 ∨ j = 25 ∨ j = 26 ∨ j = 27 ∨ j = 28 ∨ j = 29 ∨ j = 30 ∨ j = 31 ∨ j = 32 ∨ j = 33 ∨ j = 34 ∨ j = 35 ∨ j = 36 ∨ j = 37 ∨ j = 38 by omega) with rfl | rfl | rfl | rfl | rfl | rfl | rfl | rfl | rfl | rfl | rfl | rfl | rfl | rfl | rfl | rfl | rfl | rfl | rfl | rfl | rfl | rfl | rfl | rfl | rfl | rfl | rfl | rfl | rfl | rfl | rfl | rfl | rfl | rfl | rfl | rfl | rfl | rfl | rfl <;> rfl) (by decide) (by decide) dL_law_8 (fun qy H hP hD hS => ?_)
  have hP := x_swapP hP
  have hD := x_swapD hD
  refine lv_dup hx hb dL_law_11 rfl ?_
  refine x_ctor C hN (rest := [.ref qy]) (b := qy) hP hD hS hA hA (c_X12_init (ad := ad) y_init) (Or.inl lw_in2) y_mi2 (n := 0) (by decide +kernel) rfl ⟨rfl, rfl, by decide, by decide⟩ rfl hl.1 rfl (Nat.le_of_ble_eq_true rfl) dL_law_12 ⟨by decide, by decide⟩ (fun qm H locs ea hP1 hD1 hS1 => ?_)
  clear hP hD hS
  subst ea
  have hP := hP1
  have hD := hD1
  have hS := hS1
  clear hP1 hD1 hS1
  refine lv_astore_n (lv' := [(2, .ref (qm 0)), (1, .ref (q 0)), (0, .ref b)]) hx hb dL_law_15 rfl hl (by decide) rfl (fun ls hl => ?_)
  refine lv_iconst (v := nI 0) hx hb dL_law_16 (by decide) ?_
  refine lv_istore_n (lv' := [(3, .int (nI 0)), (2, .ref (qm 0)), (1, .ref (q 0)), (0, .ref b)]) hx hb dL_law_17 rfl hl (by decide) rfl (fun ls hl => ?_)
  have hlen : (x_w cy qm ad x_spM 24 y_M0).length = 24 := by simp [x_w]
  have p1 : ∀ k, k < 24 → (x_w cy qm ad x_spM 24 y_M0 ++ x_w cy q ad x_spX 94 y_X0)[k]? = some (qm k, x_E cy qm ad (x_spM k) (y_M0 k)) := fun k hk => by
    rw [List.getElem?_append_left (by omega)]
    exact x_w_get hk
  have p2 : ∀ k, k < 94 → (x_w cy qm ad x_spM 24 y_M0 ++ x_w cy q ad x_spX 94 y_X0)[24 + k]? = some (q k, x_E cy q ad (x_spX k) (y_X0 k)) := fun k hk => by
    rw [List.getElem?_append_right (by omega), hlen, Nat.add_sub_cancel_left]
    exact x_w_get hk
  have hB : y_B D cy ad s q 94 y_X0 qm y_M0 H locs := by
    refine ⟨fun k x hk => ?_, fun k x hk => ?_, ⟨fun i j hi hj h => ?_, fun k hk => hD.2 _ _ (p2 k hk)⟩, ⟨fun i j hi hj h => ?_, fun k hk => hD.2 _ _ (p1 k hk)⟩, fun i k hi hk h => ?_, hS⟩
    · obtain ⟨h1, h2⟩ := y_at hk
      rw [x_w_get h1] at hk
      cases hk
      exact hP (24 + k) _ (p2 k h1)
    · obtain ⟨h1, h2⟩ := y_at hk
      rw [x_w_get h1] at hk
      cases hk
      exact hP k _ (p1 k h1)
    · have := hD.1 _ _ _ _ (p2 i hi) (p2 j hj) h
      omega
    · exact hD.1 _ _ _ _ (p1 i hi) (p1 j hj) h
    · have := hD.1 _ _ _ _ (p1 i hi) (p2 k hk) h
      omega
  refine W.widen (k := 200) (n := 80000) (by decide) (by decide) ?_
  exact y_loop hE CC hL hr hlocks 512 0 q 94 y_X0 y_M0 H locs ls 200 80000 (by omega) (by omega) (by omega) (by omega) (by omega) hB hR0 (lv_sub hl [3, 2, 1, 0] rfl)
