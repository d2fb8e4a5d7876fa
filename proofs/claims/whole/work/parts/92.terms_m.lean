/-! ===== Arrays.copyOf, and TERMS that are made ===== -/
theorem x_mem1w {w : Cond} (h : (decide (w ∈ tables_1) && goodWord w) = true) : w ∈ wsU := x_mema (ws := [w]) (by rw [List.all_cons, List.all_nil, Bool.and_true]; exact h) w (List.mem_singleton.mpr rfl)
theorem tw_clone : Cond.methodLink RJ7 316 ⟨"[I", "clone", "()Ljava/lang/Object;"⟩ ∈ wsU := x_mem1w (by decide +kernel)
theorem tw_same : Cond.sameMethod "[I" "java/lang/Object" "clone" "()Ljava/lang/Object;" ∈ wsU := x_mem1w (by decide +kernel)
theorem tw_nat : Cond.native ⟨"java/lang/Object", "clone", "()Ljava/lang/Object;"⟩ ∈ wsU := x_mem1w (by decide +kernel)
theorem tw_inst : Cond.instanceMethod ⟨"java/lang/Object", "clone", "()Ljava/lang/Object;"⟩ ∈ wsU := x_mem1w (by decide +kernel)
theorem tw_sel : Cond.selects "[I" ⟨"[I", "clone", "()Ljava/lang/Object;"⟩ ⟨"java/lang/Object", "clone", "()Ljava/lang/Object;"⟩ ∈ wsU := x_mem1w (by decide +kernel)
theorem tw_cast : Cond.classLink RJ7 317 "[I" ∈ wsU := x_mem1w (by decide +kernel)
theorem tw_min : x_mw RJ7 304 Lib.Math.min.name Lib.Math.min.code := ⟨x_mem1w (by decide +kernel), x_mem1w (by decide +kernel), x_mem1w (by decide +kernel), x_mem1w (by decide +kernel)⟩
theorem tw_ac : x_acw RJ7 150 := ⟨x_mem1w (by decide +kernel), x_mem1w (by decide +kernel), x_mem1w (by decide +kernel), x_mem1w (by decide +kernel)⟩
theorem tw_int : Cond.arrayClass (newarray.typeOf .int) ∈ wsU := x_mem1w (by decide +kernel)
theorem tw_ml : x_ml RX7 40 yJ7_copyOf_59c91 cJ7_copyOf_59c91 3 (some (.array .int)) 2 := ⟨⟨x_mem1w (by decide +kernel), x_mem1w (by decide +kernel), x_mem1w (by decide +kernel)⟩, by decide +kernel⟩
theorem tw_st : Cond.static yJ7_copyOf_59c91 ∈ wsU := x_mem1w (by decide +kernel)
theorem tw_nw : x_nw RX7 35 RX8 3 := ⟨x_mem1w (by decide +kernel), x_mem1w (by decide +kernel), x_mem1w (by decide +kernel)⟩
theorem tw_ini : Cond.methodLink RX7 46 yX8_init ∈ wsU := x_mem1w (by decide +kernel)
theorem tw_ml2 : x_ml RX11 214 yX7_termsFrom cX7_termsFrom 2 (some (.object "MilesHall$Terms")) 1 := ⟨⟨x_mem1w (by decide +kernel), x_mem1w (by decide +kernel), x_mem1w (by decide +kernel)⟩, by decide +kernel⟩
theorem tw_mv2 : x_mv yX7_termsFrom := ⟨x_mem1w (by decide +kernel), x_mem1w (by decide +kernel)⟩
theorem tw_ml3 : x_ml RX11 218 yX9_add cX9_add 2 none 1 := ⟨⟨x_mem1w (by decide +kernel), x_mem1w (by decide +kernel), x_mem1w (by decide +kernel)⟩, by decide +kernel⟩
theorem tw_mv3 : x_mv yX9_add := ⟨x_mem1w (by decide +kernel), x_mem1w (by decide +kernel)⟩
theorem tw_cnt : Cond.fieldLink RX11 222 (TX7 5).1 (TX7 5).2.1 (TX7 5).2.2.1 ∈ wsU := x_mem1w (by decide +kernel)
theorem x_startL {l : Launch} {D : va_G} {cy : Nat → ClassId} {s0 : State} {y : MethodName} {cc : ByteArray} {nL : Nat} {ret : Option FieldType} {rm : Room} {av : List Value} {Qc : Array Value → State → Outcome → State → Prop} {mc ms : Nat} {wi : va_W} {sz : Nat} {free : Nat → Prop} (hy : plainName y.cls = true) (hn : (lg_sl av).length ≤ nL)
    (body : ∀ (p : Program) (e : Env) (s : State) (m : MethodId) (below : List Frame) (meth : Method) (c : Code) (ls : Array Slot), CallFix p m c cc nL s av.toArray wsU y.cls → x_N D cy s0 s → meth.sig.returnType = ret → meth.locks = false → s.heap.size = sz → lv_has ls nL (lv_args 0 av) → va_P D vwCl wi s.heap →
      W p l e rm s m av.toArray below meth c s.heap [] 0 0 (MQ below Qc av.toArray s mc ms free) (F0 m 0 ls [])) : Met l y (x_uw y cc nL ret) rm (va_Pc av (fun U => U.heap.size = sz ∧ x_N D cy s0 U ∧ va_P D vwCl wi U.heap)) Qc mc ms free := by
  refine Met.ofW (cc := cc) (maxL := nL) (ret := ret) hy rfl ?_
  intro p e s m args below meth c s₁ B hml hv
  obtain ⟨rfl, hsz, hN, hP⟩ := hv
  have hts := atoms_spec (ws := x_uw y cc nL ret) B.pre
  have hown : s.vm.findClass y.cls = some m.cls := findClass_of_methodNamed B.named
  rw [lg_entry_eq]
  exact body p e s m below meth c _ ⟨B.exec, B.bytes, hml, hown, fun w h => hts w (List.mem_cons_of_mem _ h)⟩ hN B.returns B.notSynchronized hsz (lv_entry av hn) hP
theorem x_nd_D {ws : va_W} {sz : Nat} (h : (ws.map (fun x => x.1)).Nodup) : va_D (va_A ws sz) ws := x_nodup.mpr ⟨h, fun x hx => by
  obtain ⟨k, hk⟩ := List.getElem?_of_mem hx
  exact Or.inl ⟨k, x.2, hk⟩⟩
abbrev rm_copyOf : Room := { frames := 3, cells := 1, slots := 132, locals := 80 }
set_option maxHeartbeats 4000000 in
set_option maxRecDepth 100000 in
theorem c_copyOf {l : Launch} {D : va_G} {cy : Nat → ClassId} {s0 : State} {ws : va_W} {q0 a n0 n : Nat} {f : Nat → Int32} (hnd : (ws.map (fun x => x.1)).Nodup) (he : ws[q0]? = some (a, .inl (cy 0, n0, .inl f))) (hn : n ≤ n0) (hn0 : n0 ≤ 132) (sz : Nat) : Met l yJ7_copyOf_59c91 (x_uw yJ7_copyOf_59c91 cJ7_copyOf_59c91 3 (some (.array .int))) rm_copyOf (va_Pc [.ref a, .int (nI n)] (fun U => U.heap.size = sz ∧ x_N D cy s0 U ∧ va_P D vwCl ws U.heap)) (va_Qr (fun _ : Unit => True) (fun _ ra t => va_P D vwCl ((ra, .inl (cy 0, n, .inl f)) :: ws) t.heap ∧ va_D (va_A ws sz) ((ra, .inl (cy 0, n, .inl f)) :: ws)) (va_A ws sz)) 1 132 (va_A ws sz) := by
  refine x_startL (by decide) (Nat.le_of_ble_eq_true rfl) ?_
  intro p e s m below meth c ls C hN hr hlocks hsz hl hP
  subst hsz
  have hx := C.1
  have hb := C.2.1
  have hL := C.2.2.2.2
  have hK := hN.1
  have hD := x_nd_D (sz := s.heap.size) hnd
  have hA : ∀ q, s.heap.size ≤ q → va_A ws s.heap.size q := fun q h => Or.inr h
  have hS : va_S (va_A ws s.heap.size) s.heap s.heap [] := va_S.rf
  have hnm : s.vm.findClass "[I" = some (cy 0) := va_nm_int (hK.2 0 (cy 0, .int) rfl).2
  have hcl : va_Nw (.castable "[I" "java/lang/Cloneable") s := hN.2.1 _ (by simp [x_nest])
  have hl : lv_has ls 3 [(0, .ref a), (1, .int (nI n))] := hl
  refine lv_iload_n hx hb dJ7_copyOf_59c91_0 rfl (lv_at hl 1 rfl) ?_
  refine lv_aload_n hx hb dJ7_copyOf_59c91_1 rfl (lv_at hl 0 rfl) ?_
  refine va_alen hx hb hK hP q0 0 he (ty := .int) rfl (v := nI n0) rfl dJ7_copyOf_59c91_2 ?_
  refine lv_icmp_ne (tgt := 14) hx hb dJ7_copyOf_59c91_3 (by decide) (fun hne => ?_) (fun heq => ?_)
  · refine lv_iload_n hx hb dJ7_copyOf_59c91_14 rfl (lv_at hl 1 rfl) ?_
    refine va_newa hx hb (hL _ tw_int) rfl hK hP hD hS hA (n := nI n) (N' := n) (a0 := (n, .inl (fun _ => 0))) (fun cA => rfl) (nI_pos (by omega)) (nI_clamp (by omega)) (by show n * 4 ≤ 536870912; omega) (by decide) (by show 0 + n ≤ 132; omega) dJ7_copyOf_59c91_15 (fun q cA H1 hK' hP hD hS => ?_)
    have e1 := x_cy (t := 0) hK' rfl
    subst e1
    have hP := x_swapP hP
    have hD := x_swapD hD
    refine lv_astore_n (lv' := [(2, .ref q), (0, .ref a), (1, .int (nI n))]) hx hb dJ7_copyOf_59c91_17 rfl hl (by decide) rfl (fun ls hl => ?_)
    refine lv_aload_n hx hb dJ7_copyOf_59c91_18 rfl (lv_at hl 1 rfl) ?_
    refine lv_iconst (v := (nI 0)) hx hb dJ7_copyOf_59c91_19 (by decide) ?_
    refine lv_aload_n hx hb dJ7_copyOf_59c91_20 rfl (lv_at hl 0 rfl) ?_
    refine lv_iconst (v := (nI 0)) hx hb dJ7_copyOf_59c91_21 (by decide) ?_
    refine lv_aload_n hx hb dJ7_copyOf_59c91_22 rfl (lv_at hl 1 rfl) ?_
    have he2 : ((q, (.inl (cy 0, n, .inl (fun _ => 0)) : va_E)) :: ws)[q0 + 1]? = some (a, .inl (cy 0, n0, .inl f)) := by rw [List.getElem?_cons_succ]; exact he
    refine va_alen hx hb hK hP (q0 + 1) 0 he2 (ty := .int) rfl (v := nI n0) rfl dJ7_copyOf_59c91_23 ?_
    refine lv_iload_n hx hb dJ7_copyOf_59c91_24 rfl (lv_at hl 2 rfl) ?_
    refine va_mmin hx hb (by rw [hl.1]; exact C.2.2.1) C.2.2.2.1 (hL _ tw_min.1) (hL _ tw_min.2.1) (hL _ tw_min.2.2.1) (hL _ tw_min.2.2.2) (by decide) (Nat.le_of_ble_eq_true rfl) (by decide) (by show 0 + n ≤ 132; omega) dJ7_copyOf_59c91_25 ?_
    have em : (if nI n < nI n0 then nI n else nI n0) = nI n := by
      by_cases h : nI n < nI n0
      · rw [if_pos h]
      · rw [if_neg h]
        rw [nI_ltI (by omega) (by omega)] at h
        rw [show n0 = n by omega]
    rw [em]
    have h0 : (nI 0).toNatClampNeg = 0 := by decide
    have hnn : (nI n).toNatClampNeg = n := nI_clamp (by omega)
    refine va_copyi hx hb (by rw [hl.1]; exact C.2.2.1) C.2.2.2.1 (hL _ tw_ac.1) (hL _ tw_ac.2.1) (hL _ tw_ac.2.2.1) (hL _ tw_ac.2.2.2) hK hP hD hS (q0 + 1) 0 0 0 he2 rfl rfl rfl rfl (by decide) (by decide) (nI_pos (by omega)) (by rw [h0, hnn]; omega) (by rw [h0, hnn]; omega) (fun i _ => rfl) (by decide) (by decide) dJ7_copyOf_59c91_28 (fun H1 locs1 hP hD hS => ?_)
    refine lv_aload_n hx hb dJ7_copyOf_59c91_31 rfl (lv_at hl 0 rfl) ?_
    rw [List.set_cons_zero, h0, hnn] at hP hD
    obtain ⟨hP, hD⟩ := x_remark hP hD 0 f rfl (fun j hj => by
      rw [pk_cpy_in (by omega) (by omega)]
      congr 1
      omega)
    rw [List.set_cons_zero] at hP hD
    refine W.widen (k := 1) (n := 132) (by decide) (by show 0 + n ≤ 132; omega) ?_
    exact W.aret (v := .ref q) hx hb hr (Or.inr ⟨_, rfl⟩) (Or.inr ⟨_, rfl⟩) (fun t ht hW => ⟨⟨(), q, rfl, trivial, by rw [ht]; exact hP, hD⟩, hS.F ht⟩) hS.2.2 dJ7_copyOf_59c91_32
  · have hnn : n = n0 := (nI_eq (by omega) (by omega)).mp heq
    subst hnn
    refine lv_aload_n hx hb dJ7_copyOf_59c91_6 rfl (lv_at hl 0 rfl) ?_
    refine va_clone hx hb (by rw [hl.1]; exact C.2.2.1) C.2.2.2.1 (hL _ tw_clone) (hL _ tw_same) (hL _ tw_nat) (hL _ tw_inst) (hL _ tw_sel) hcl hK hP hD hS hA q0 0 he (ty := .int) rfl hnm (fun i v hv => va_fit (fun _ _ => rfl) i v hv) (by decide) (by decide) (by decide) (by show 0 + n ≤ 132; omega) dJ7_copyOf_59c91_7 (fun q H1 hK' hP hD hS => ?_)
    have hP := x_swapP hP
    have hD := x_swapD hD
    refine va_castA hx hb C.2.2.2.1 (hL _ tw_cast) hP 0 rfl hnm dJ7_copyOf_59c91_10 ?_
    refine W.widen (k := 1) (n := 132) (by decide) (by show 0 + n ≤ 132; omega) ?_
    exact W.aret (v := .ref q) hx hb hr (Or.inr ⟨_, rfl⟩) (Or.inr ⟨_, rfl⟩) (fun t ht hW => ⟨⟨(), q, rfl, trivial, by rw [ht]; exact hP, hD⟩, hS.F ht⟩) hS.2.2 dJ7_copyOf_59c91_13
