/-! ===== Tape.termsFrom ===== -/
section YT
variable {p : Program} {l : Launch} {e : Env} {R : Room} {s : State} {m : MethodId} {args : Array Value} {below : List Frame} {meth : Method} {c : Code} {H : Heap} {locs : List Loc} {cells slots : Nat} {Q : State → Prop} {cc : ByteArray} {nL pc : Nat} {own : String} {ls : Array Slot} {rest : List Value}
variable {D : va_G} {cy : Nat → ClassId} {s0 : State} {ws : va_W} {A : Nat → Prop}
theorem x_preL {As : List Value} (hN : x_N D cy s0 s) (hP : va_P D vwCl ws H) (hS : va_S A s.heap H locs) (hA0 : ∀ q, A q → s0.heap.size ≤ q) : PreS s H (va_Pc As (fun U => U.heap.size = H.size ∧ x_N D cy s0 U ∧ va_P D vwCl ws U.heap)) As := by
  obtain ⟨-, -, -, hz, ho⟩ := id hN
  refine ⟨fun a U g mk h => ⟨h.1, h.2.1, h.2.2.1.same (V := U.calling g mk a) rfl rfl, h.2.2.2⟩, fun U hU hW => ⟨rfl, by rw [hU], hN.warm hW (by rw [hU]; exact Nat.le_trans hz hS.1) (fun a ha => ?_), by rw [hU]; exact hP⟩⟩
  rw [hU, hS.2.1 a (Nat.lt_of_lt_of_le ha hz) (fun h => absurd (hA0 a h) (by omega))]
  exact ho a ha
theorem x_freeL (hD : va_D A ws) (hS : va_S A s.heap H locs) (hA : ∀ q, s.heap.size ≤ q → A q) : ∀ q, va_A ws H.size q → A q := by
  rintro q (⟨k, e2, hk⟩ | h)
  · exact hD.2 k _ hk
  · exact hA q (Nat.le_trans hS.1 h)
/-- a call of Arrays.copyOf over any world -/
theorem y_copy (C : CallFix p m c cc nL s args wsU own) (hN : x_N D cy s0 s) (hP : va_P D vwCl ws H) (hD : va_D A ws) (hS : va_S A s.heap H locs) (hA : ∀ q, s.heap.size ≤ q → A q) (hA0 : ∀ q, A q → s0.heap.size ≤ q) {q0 a n0 n index : Nat} {f : Nat → Int32} (he : ws[q0]? = some (a, .inl (cy 0, n0, .inl f))) (hn : n ≤ n0) (hn0 : n0 ≤ 132) (ml : x_ml own index yJ7_copyOf_59c91 cJ7_copyOf_59c91 3 (some (.array .int)) 2) (hrm : 4 ≤ R.frames ∧ 102 ≤ R.locals) (hsz : ls.size = nL) (hrest : (rest.map fun v => v.category).sum ≤ 8) (hdg : decode cc pc = .ok (.invokestatic index, 3)) (hcap : cells + 1 ≤ R.cells ∧ slots + 132 ≤ R.slots)
    (kk : ∀ (ra : Nat) (H1 : Heap) (locs1 : List Loc), va_P D vwCl ((ra, .inl (cy 0, n, .inl f)) :: ws) H1 → va_D A ((ra, .inl (cy 0, n, .inl f)) :: ws) → va_S A s.heap H1 locs1 → W p l e R s m args below meth c H1 locs1 (cells + 1) (slots + 132) Q (F0 m (pc + 3) ls (.ref ra :: rest))) : W p l e R s m args below meth c H locs cells slots Q (F0 m pc ls (.int (nI n) :: .ref a :: rest)) := by
  have hL := C.2.2.2.2
  obtain ⟨⟨m1, m2, m3⟩, md⟩ := ml
  have hAA := x_freeL hD hS hA
  have hM1 := c_copyOf (l := l) (D := D) (cy := cy) (s0 := s0) (x_nodup.mp hD).1 he hn hn0 H.size
  have hrun : va_Run p l e R s m args below meth c H locs cells slots 1 132 (F0 m pc ls (.int (nI n) :: .ref a :: rest)) rest (va_Qr (fun _ : Unit => True) (fun _ ra t => va_P D vwCl ((ra, .inl (cy 0, n, .inl f)) :: ws) t.heap ∧ va_D (va_A ws H.size) ((ra, .inl (cy 0, n, .inl f)) :: ws)) (va_A ws H.size) ([Value.ref a, .int (nI n)]).toArray) (va_A ws H.size) :=
    va_runS (bytes := cJ7_copyOf_59c91) (maxL := 3) (ret := some (.array .int)) (n := 2) C hM1 ⟨callB_of 2 hL (x_uw_good (y := yJ7_copyOf_59c91) (cc := cJ7_copyOf_59c91) (n := 3) (ret := some (.array .int)) m3) rfl rfl rfl (hL _ m2) (hL _ m1) md ⟨by show 3 + 1 ≤ R.frames; omega, by show 8 + (3 + 11) + 80 ≤ R.locals; omega⟩, hL _ tw_st⟩ (x_preL hN hP hS hA0) rfl rfl hsz rfl (lv_room hrest) hdg hcap
  refine va_callr hrun hS (fun q _ h => hAA q h) hAA (fun u ra t H1 locs1 ht hvm hp hB hz1 hk1 hS => ?_)
  obtain ⟨hP1, hD1⟩ := hB
  rw [ht] at hP1
  exact kk ra H1 locs1 hP1 (hD1.weaken (fun k x _ h => hAA x.1 h)) hS
end YT
def y_tw (cy : Nat → ClassId) (d : Int32) (n : Nat) (M : x_M) (ra rb rc : Nat) : va_W := [(ra, .inr (8, [.int d, .ref rb, .ref rc])), (rc, .inl (cy 0, 4, .inl (M 83))), (rb, .inl (cy 0, n, .inl (M 82)))]
abbrev rm_tf : Room := { frames := 6, cells := 3, slots := 267, locals := 160 }
set_option maxHeartbeats 4000000 in
set_option maxRecDepth 100000 in
theorem c_X7_termsFrom {l : Launch} {D : va_G} {cy : Nat → ClassId} {q ad : Nat → Nat} {NC : Nat} {s0 : State} (hq : x_Q q NC s0.heap.size) (hN9 : 88 ≤ NC) {M : x_M} {d : Int32} {n : Nat} (hu : M 80 10 = nI n) (hn : n ≤ 132) (sz : Nat) (hsz0 : s0.heap.size ≤ sz) : Met l yX7_termsFrom (x_uw yX7_termsFrom cX7_termsFrom 2 (some (.object "MilesHall$Terms"))) rm_tf (va_Pc [.ref (q 80), .int d] (x_Pre D cy q ad x_spX NC s0 sz M)) (va_Qr (fun _ : Unit => True) (fun _ ra t => ∃ rb rc, va_P D vwCl (y_tw cy d n M ra rb rc ++ x_w cy q ad x_spX NC M) t.heap ∧ va_D (x_A q NC sz) (y_tw cy d n M ra rb rc ++ x_w cy q ad x_spX NC M)) (x_A q NC sz)) 3 267 (x_A q NC sz) := by
  refine x_startL (by decide) (Nat.le_of_ble_eq_true rfl) ?_
  intro p e s m below meth c ls C hN hr hlocks hsz hl hP
  subst hsz
  have hx := C.1
  have hb := C.2.1
  have hL := C.2.2.2.2
  have hK := hN.1
  have hD : va_D (x_A q NC s.heap.size) (x_w cy q ad x_spX NC M) := x_w_D hq.1 (fun k hk => Or.inl ⟨k, hk, rfl⟩) M
  have hA : ∀ a, s.heap.size ≤ a → x_A q NC s.heap.size a := fun a h => Or.inr h
  have hA0 : ∀ a, x_A q NC s.heap.size a → s0.heap.size ≤ a := by
    rintro a (⟨k, hk, rfl⟩ | h)
    · exact hq.2 k hk
    · exact Nat.le_trans hsz0 h
  have hS : va_S (x_A q NC s.heap.size) s.heap s.heap [] := va_S.rf
  have hl : lv_has ls 2 [(0, .ref (q 80)), (1, .int d)] := hl
  have f7 := x_cls (ci := 7) rfl
  have f8 := x_cls (ci := 8) rfl
  refine va_new hx hb hL f8.1 tyX8 tyX8_ok C.2.2.2.1 (hL _ tw_nw.1) (hL _ tw_nw.2.1) (hL _ tw_nw.2.2) hK hP hD hS hA (ci := 8) rfl (fs := [.int 0, .null, .null]) (fun j hj => by rcases (show j = 0 ∨ j = 1 ∨ j = 2 by omega) with rfl | rfl | rfl <;> rfl) (by decide) (by decide) dX7_termsFrom_0 (fun qa H hP hD hS => ?_)
  have hP := x_swapP hP
  have hD := x_swapD hD
  have g81 : ∀ j : Nat, (x_w cy q ad x_spX NC M)[80]? = some (q 80, .inr (7, x_fs q ad (M 80) 0 [(1, 81), (1, 82), (1, 83), (0, 0), (0, 0), (0, 0), (0, 0), (0, 0), (0, 0), (0, 0), (0, 0), (0, 0), (0, 0), (2, 0)])) := by
    intro j
    rw [x_w_get (show 80 < NC by omega), sX_80]
    rfl
  have g83 : (x_w cy q ad x_spX NC M)[82]? = some (q 82, .inl (cy 0, 132, .inl (M 82))) := by
    rw [x_w_get (show 82 < NC by omega), sX_82]
    rfl
  have g84 : (x_w cy q ad x_spX NC M)[83]? = some (q 83, .inl (cy 0, 4, .inl (M 83))) := by
    rw [x_w_get (show 83 < NC by omega), sX_83]
    rfl
  refine lv_dup hx hb dX7_termsFrom_3 rfl ?_
  refine lv_iload_n hx hb dX7_termsFrom_4 rfl (lv_at hl 1 rfl) ?_
  refine lv_aload_n hx hb dX7_termsFrom_5 rfl (lv_at hl 0 rfl) ?_
  refine va_get hx hb hL f7.1 C.2.2.2.1 hK hP 81 (by rw [List.getElem?_cons_succ]; exact g81 0) rfl 1 (by decide) (hL _ lk_RX7_15) (fun _ h => h) (v := .ref (q 82)) rfl dX7_termsFrom_6 ?_
  refine lv_aload_n hx hb dX7_termsFrom_9 rfl (lv_at hl 0 rfl) ?_
  refine va_get hx hb hL f7.1 C.2.2.2.1 hK hP 81 (by rw [List.getElem?_cons_succ]; exact g81 0) rfl 10 (by decide) (hL _ lk_RX7_37) (fun _ h => h) (v := .int (nI n)) (by rw [← hu]; rfl) dX7_termsFrom_10 ?_
  refine y_copy (rest := [.int d, .ref qa, .ref qa]) C hN hP hD hS hA hA0 (q0 := 83) (by rw [List.getElem?_cons_succ]; exact g83) hn (by decide) tw_ml ⟨by decide, by decide⟩ hl.1 (Nat.le_of_ble_eq_true rfl) dX7_termsFrom_13 ⟨by decide, by decide⟩ (fun rb H locs hP hD hS => ?_)
  refine lv_aload_n hx hb dX7_termsFrom_16 rfl (lv_at hl 0 rfl) ?_
  refine va_get hx hb hL f7.1 C.2.2.2.1 hK hP 82 (by rw [List.getElem?_cons_succ, List.getElem?_cons_succ]; exact g81 0) rfl 2 (by decide) (hL _ lk_RX7_19) (fun _ h => h) (v := .ref (q 83)) rfl dX7_termsFrom_17 ?_
  refine lv_iconst (v := (nI 4)) hx hb dX7_termsFrom_20 (by decide) ?_
  refine y_copy (rest := [.ref rb, .int d, .ref qa, .ref qa]) C hN hP hD hS hA hA0 (q0 := 85) (by rw [List.getElem?_cons_succ, List.getElem?_cons_succ]; exact g84) (Nat.le_refl 4) (by decide) tw_ml ⟨by decide, by decide⟩ hl.1 (Nat.le_of_ble_eq_true rfl) dX7_termsFrom_21 ⟨by decide, by decide⟩ (fun rc H locs hP hD hS => ?_)
  obtain ⟨hP, hD⟩ := x_perm (List.perm_middle (l₁ := [(rc, (.inl (cy 0, 4, .inl (M 83)) : va_E)), (rb, .inl (cy 0, n, .inl (M 82)))])) hP hD
  refine x_ctor C hN (rest := [.ref qa]) (b := qa) hP hD hS hA hA0 (c_X8_init d rb rc) (Or.inl tw_ini) mi_X8_init (n := 3) (by decide +kernel) rfl ⟨rfl, rfl, by decide, by decide⟩ rfl hl.1 rfl (Nat.le_of_ble_eq_true rfl) dX7_termsFrom_24 ⟨by decide, by decide⟩ (fun a24 Hn locsn ea hPn hDn hSn => ?_)
  subst ea
  exact W.aret (v := .ref (a24 0)) hx hb hr (Or.inl ⟨_, rfl⟩) (Or.inr ⟨_, rfl⟩) (fun t ht hW => ⟨⟨(), a24 0, rfl, trivial, rb, rc, by rw [ht]; exact hPn, hDn⟩, hSn.F ht⟩) hSn.2.2 dX7_termsFrom_27
