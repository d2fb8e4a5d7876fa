/-! ===== constructors: worlds told as lists, the newest cell first ===== -/
theorem x_swapP {D : va_G} {cl : List vw_C} {ws : va_W} {x : Nat × va_E} {H : Heap} (h : va_P D cl (ws ++ [x]) H) : va_P D cl (x :: ws) H := by
  intro k y hk
  have hm : y ∈ ws ++ [x] := by
    have := List.mem_of_getElem? hk
    simp only [List.mem_cons, List.mem_append, List.not_mem_nil, or_false] at this ⊢
    exact this.symm
  obtain ⟨i, hi⟩ := List.getElem?_of_mem hm
  exact h i y hi
theorem x_nodup {A : Nat → Prop} {ws : va_W} : va_D A ws ↔ (ws.map (fun x => x.1)).Nodup ∧ ∀ x ∈ ws, A x.1 := by
  constructor
  · intro h
    refine ⟨List.pairwise_iff_getElem.mpr ?_, fun x hx => ?_⟩
    · intro i j hi hj hij he
      rw [List.length_map] at hi hj
      rw [List.getElem_map, List.getElem_map] at he
      have := h.1 i j _ _ (List.getElem?_eq_getElem hi) (List.getElem?_eq_getElem hj) he
      omega
    · obtain ⟨i, hi⟩ := List.getElem?_of_mem hx
      exact h.2 i x hi
  · rintro ⟨h1, h2⟩
    refine ⟨fun i j x y hi hj hxy => ?_, fun k x hk => h2 x (List.mem_of_getElem? hk)⟩
    have hn := List.pairwise_iff_getElem.mp h1
    obtain ⟨li, ei⟩ := List.getElem?_eq_some_iff.mp hi
    obtain ⟨lj, ej⟩ := List.getElem?_eq_some_iff.mp hj
    rcases Nat.lt_trichotomy i j with h | h | h
    · exact absurd (by rw [List.getElem_map, List.getElem_map, ei, ej]; exact hxy) (hn i j (by rw [List.length_map]; exact li) (by rw [List.length_map]; exact lj) h)
    · exact h
    · exact absurd (by rw [List.getElem_map, List.getElem_map, ei, ej]; exact hxy.symm) (hn j i (by rw [List.length_map]; exact lj) (by rw [List.length_map]; exact li) h)
theorem x_perm {A : Nat → Prop} {D : va_G} {cl : List vw_C} {ws ws' : va_W} {H : Heap} (hp : ws.Perm ws') (hP : va_P D cl ws H) (hD : va_D A ws) : va_P D cl ws' H ∧ va_D A ws' := by
  refine ⟨fun k x hk => ?_, ?_⟩
  · obtain ⟨i, hi⟩ := List.getElem?_of_mem (hp.mem_iff.mpr (List.mem_of_getElem? hk))
    exact hP i x hi
  · rw [x_nodup] at hD ⊢
    exact ⟨(hp.map _).nodup_iff.mp hD.1, fun x hx => hD.2 x (hp.mem_iff.mpr hx)⟩
theorem x_swapD {A : Nat → Prop} {ws : va_W} {x : Nat × va_E} (h : va_D A (ws ++ [x])) : va_D A (x :: ws) := by
  rw [x_nodup] at h ⊢
  have hp : (ws ++ [x]).Perm (x :: ws) := List.perm_append_comm
  exact ⟨(hp.map _).nodup_iff.mp h.1, fun y hy => h.2 y (hp.mem_iff.mpr hy)⟩
theorem x_cy {D : va_G} {cy : Nat → ClassId} {s : State} {cA : ClassId} {t : Nat} {ty : FieldType} (hK : va_K D vwCl (x_ty cy ++ [(cA, ty)]) s) (ht : (x_ty cy)[t]? = some (cy t, ty)) : cA = cy t := by
  have hlt : t < (x_ty cy).length := (List.getElem?_eq_some_iff.mp ht).1
  have h1 := (hK.2 t (cy t, ty) (by rw [List.getElem?_append_left hlt]; exact ht)).2
  have h2 := (hK.2 6 (cA, ty) rfl).2
  have hty : ty = .int ∨ ty = .short ∨ ty = .byte ∨ ty = .boolean ∨ ty = .object "MilesHall$Terms" ∨ ty = .long := by
    have hm := List.mem_of_getElem? ht
    simp only [x_ty, List.mem_cons, Prod.mk.injEq, List.not_mem_nil, or_false] at hm
    rcases hm with h | h | h | h | h | h
    · exact Or.inl h.2
    · exact Or.inr (Or.inl h.2)
    · exact Or.inr (Or.inr (Or.inl h.2))
    · exact Or.inr (Or.inr (Or.inr (Or.inl h.2)))
    · exact Or.inr (Or.inr (Or.inr (Or.inr (Or.inl h.2))))
    · exact Or.inr (Or.inr (Or.inr (Or.inr (Or.inr h.2))))
  rcases hty with rfl | rfl | rfl | rfl | rfl | rfl
  · exact Option.some.inj (h2.symm.trans h1)
  · exact Option.some.inj (h2.symm.trans h1)
  · exact Option.some.inj (h2.symm.trans h1)
  · exact Option.some.inj (h2.symm.trans h1)
  · obtain ⟨_, _, -, -, -, a⟩ := h1
    obtain ⟨_, _, -, -, -, b⟩ := h2
    exact Option.some.inj (b.symm.trans a)
  · exact Option.some.inj (h2.symm.trans h1)
def x_CC (p : Program) (s : State) (m : MethodId) (args : Array Value) (meth : Method) (c : Code) (cc : ByteArray) (nL : Nat) (own : String) (D : va_G) (cy : Nat → ClassId) (s0 : State) : Prop := CallFix p m c cc nL s args wsU own ∧ x_N D cy s0 s ∧ meth.name = "<init>"
/-- what a constructor leaves: the cells of its object, by a list of addresses -/
def x_Cn (l : Launch) (D : va_G) (cy : Nat → ClassId) (s0 : State) (y : MethodName) (ws : List Cond) (rm : Room) (h0 : Nat) (av : List Value) (wi : va_W) (wo : (Nat → Nat) → va_W) (mc ms : Nat) : Prop :=
  ∀ sz, s0.heap.size ≤ sz → s0.heap.size ≤ h0 → Met l y ws rm (va_Pc (.ref h0 :: av) (fun U => U.heap.size = sz ∧ x_N D cy s0 U ∧ va_P D vwCl wi U.heap)) (va_Qv (fun _ : Unit => True) (fun _ t => ∃ a : Nat → Nat, a 0 = h0 ∧ va_P D vwCl (wo a) t.heap ∧ va_D (va_A wi sz) (wo a)) (va_A wi sz)) mc ms (va_A wi sz)
section XK
variable {p : Program} {l : Launch} {e : Env} {R : Room} {s : State} {m : MethodId} {args : Array Value} {below : List Frame} {meth : Method} {c : Code} {H : Heap} {locs : List Loc} {cells slots : Nat} {Q : State → Prop} {cc : ByteArray} {nL pc : Nat} {own : String} {ls : Array Slot} {rest : List Value}
variable {D : va_G} {cy : Nat → ClassId} {s0 : State} {ws : va_W} {A : Nat → Prop} {H0 : Heap}
theorem x_newa (C : x_CC p s m args meth c cc nL own D cy s0) (hP : va_P D vwCl ws H) (hD : va_D A ws) (hS : va_S A H0 H locs) (hA : ∀ q, H0.size ≤ q → A q) {atype : ArrayType} (t : Nat) {ty : FieldType} (harr : Cond.arrayClass (newarray.typeOf atype) ∈ wsU) (hty : newarray.typeOf atype = ty) (ht : (x_ty cy)[t]? = some (cy t, ty)) (hdef : defaultValue ty = .int 0) {n : Int32} {N' : Nat} (hn : ¬ n < 0) (hN : n.toNatClampNeg = N') (hbytes : N' * componentBytes ty ≤ 536870912) (hcells : cells + 1 ≤ R.cells) (hslots : slots + N' ≤ R.slots) (hdg : decode cc pc = .ok (.newarray atype, 2))
    (kk : ∀ (q : Nat) (H1 : Heap), va_P D vwCl ((q, .inl (cy t, N', .inl (fun _ => 0))) :: ws) H1 → va_D A ((q, .inl (cy t, N', .inl (fun _ => 0))) :: ws) → va_S A H0 H1 locs → W p l e R s m args below meth c H1 locs (cells + 1) (slots + N') Q (F0 m (pc + 2) ls (.ref q :: rest))) : W p l e R s m args below meth c H locs cells slots Q (F0 m pc ls (.int n :: rest)) := by
  refine va_newa C.1.1 C.1.2.1 (C.1.2.2.2.2 _ harr) hty C.2.1.1 hP hD hS hA (a0 := (N', .inl (fun _ => 0))) (fun cA => by rw [hdef]; rfl) hn hN hbytes hcells hslots hdg (fun q cA H1 hK hP hD hS => ?_)
  have e1 := x_cy hK ht
  subst e1
  exact kk q H1 (x_swapP hP) (x_swapD hD) hS
theorem x_newl (C : x_CC p s m args meth c cc nL own D cy s0) (hP : va_P D vwCl ws H) (hD : va_D A ws) (hS : va_S A H0 H locs) (hA : ∀ q, H0.size ≤ q → A q) (harr : Cond.arrayClass (newarray.typeOf .long) ∈ wsU) {n : Int32} {N' : Nat} (hn : ¬ n < 0) (hN : n.toNatClampNeg = N') (hbytes : N' * componentBytes (newarray.typeOf .long) ≤ 536870912) (hcells : cells + 1 ≤ R.cells) (hslots : slots + N' ≤ R.slots) (hdg : decode cc pc = .ok (.newarray .long, 2))
    (kk : ∀ (q : Nat) (H1 : Heap), va_P D vwCl ((q, .inl (cy 5, N', .inr (.inl (fun _ => 0)))) :: ws) H1 → va_D A ((q, .inl (cy 5, N', .inr (.inl (fun _ => 0)))) :: ws) → va_S A H0 H1 locs → W p l e R s m args below meth c H1 locs (cells + 1) (slots + N') Q (F0 m (pc + 2) ls (.ref q :: rest))) : W p l e R s m args below meth c H locs cells slots Q (F0 m pc ls (.int n :: rest)) := by
  refine va_newa C.1.1 C.1.2.1 (C.1.2.2.2.2 _ harr) rfl C.2.1.1 hP hD hS hA (a0 := (N', .inr (.inl (fun _ => 0)))) (fun cA => rfl) hn hN hbytes hcells hslots hdg (fun q cA H1 hK hP hD hS => ?_)
  have e1 := x_cy (t := 5) hK rfl
  subst e1
  exact kk q H1 (x_swapP hP) (x_swapD hD) hS
theorem x_newq (C : x_CC p s m args meth c cc nL own D cy s0) (hP : va_P D vwCl ws H) (hD : va_D A ws) (hS : va_S A H0 H locs) (hA : ∀ q, H0.size ≤ q → A q) {index : Nat} (hl : Cond.classLink own index "MilesHall$Terms" ∈ wsU) (hover : va_AO "MilesHall$Terms" s) {n : Int32} {N' : Nat} (hn : ¬ n < 0) (hN : n.toNatClampNeg = N') (hbytes : N' * 4 ≤ 536870912) (hcells : cells + 1 ≤ R.cells) (hslots : slots + N' ≤ R.slots) (hdg : decode cc pc = .ok (.anewarray index, 3))
    (kk : ∀ (q : Nat) (H1 : Heap), va_P D vwCl ((q, .inl (cy 4, N', .inr (.inr (.inr (.inr (fun _ => none)))))) :: ws) H1 → va_D A ((q, .inl (cy 4, N', .inr (.inr (.inr (.inr (fun _ => none)))))) :: ws) → va_S A H0 H1 locs → W p l e R s m args below meth c H1 locs (cells + 1) (slots + N') Q (F0 m (pc + 3) ls (.ref q :: rest))) : W p l e R s m args below meth c H locs cells slots Q (F0 m pc ls (.int n :: rest)) := by
  refine va_newq C.1.1 C.1.2.1 C.1.2.2.2.1 (C.1.2.2.2.2 _ hl) hover C.2.1.1 hP hD hS hA hn hN hbytes hcells hslots hdg (fun q cA H1 hK hP hD hS => ?_)
  have e1 := x_cy (t := 4) hK rfl
  subst e1
  exact kk q H1 (x_swapP hP) (x_swapD hD) hS
def x_nw (own : String) (index : Nat) (K : String) (N : Nat) : Prop := Cond.classLink own index K ∈ wsU ∧ Cond.instantiable K N ∈ wsU ∧ Cond.initialized K ∈ wsU
theorem x_newo (C : x_CC p s m args meth c cc nL own D cy s0) (hP : va_P D vwCl ws H) (hD : va_D A ws) (hS : va_S A H0 H locs) (hA : ∀ q, H0.size ≤ q → A q) {ci N index : Nat} {K : String} {T : u_T} (nw : x_nw own index K N) (hc : vwCl[ci]? = some (K, T, N)) {ty : Nat → FieldType} (hty : ∀ k, k < N → parseFieldDescriptor (T k).2.2.1 = some (ty k)) {fs : List Value} (hfs : ∀ j, j < N → defaultValue (ty j) = vp_V fs j) (hcells : cells + 1 ≤ R.cells) (hslots : slots + N ≤ R.slots) (hdg : decode cc pc = .ok (.new index, 3))
    (kk : ∀ (q : Nat) (H1 : Heap), va_P D vwCl ((q, .inr (ci, fs)) :: ws) H1 → va_D A ((q, .inr (ci, fs)) :: ws) → va_S A H0 H1 locs → W p l e R s m args below meth c H1 locs (cells + 1) (slots + N) Q (F0 m (pc + 3) ls (.ref q :: rest))) : W p l e R s m args below meth c H locs cells slots Q (F0 m pc ls rest) :=
  va_new C.1.1 C.1.2.1 C.1.2.2.2.2 (x_cls hc).1 ty hty C.1.2.2.2.1 (C.1.2.2.2.2 _ nw.1) (C.1.2.2.2.2 _ nw.2.1) (C.1.2.2.2.2 _ nw.2.2) C.2.1.1 hP hD hS hA hc hfs hcells hslots hdg (fun q H1 hP hD hS => kk q H1 (x_swapP hP) (x_swapD hD) hS)
theorem x_putF (C : x_CC p s m args meth c cc nL own D cy s0) (hP : va_P D vwCl ws H) (hD : va_D A ws) (hS : va_S A H0 H locs) (q0 j : Nat) {a ci N index : Nat} {fs : List Value} {K : String} {T : u_T} {ty : FieldType} {v : Value} (he : ws[q0]? = some (a, .inr (ci, fs))) (hc : vwCl[ci]? = some (K, T, N)) (hj : Nat.blt j N = true) (hl : Cond.fieldLink own index (T j).1 (T j).2.1 (T j).2.2.1 ∈ wsU) (hfin : (T j).2.2.2 = true) (hdecl : (T j).1 = own) (hd : parseFieldDescriptor (T j).2.2.1 = some ty) (hn : narrow ty v = v) (hfit : fits ty v = true) (hlen : Nat.blt j fs.length = true) (hdg : decode cc pc = .ok (.putfield index, 3))
    (kk : ∀ (H1 : Heap) (locs1 : List Loc), va_P D vwCl (ws.set q0 (a, .inr (ci, fs.set j v))) H1 → va_D A (ws.set q0 (a, .inr (ci, fs.set j v))) → va_S A H0 H1 locs1 → W p l e R s m args below meth c H1 locs1 cells slots Q (F0 m (pc + 3) ls rest)) : W p l e R s m args below meth c H locs cells slots Q (F0 m pc ls (v :: .ref a :: rest)) := by
  obtain ⟨h1, ⟨ty0, h2⟩, h3⟩ := x_cls hc
  exact va_putF C.1.1 C.1.2.1 C.1.2.2.2.2 h1 ty0 h2 h3 C.1.2.2.2.1 C.2.1.1 hP hD hS q0 he hc j (Nat.le_of_ble_eq_true hj) (C.1.2.2.2.2 _ hl) (fun _ h => h) hfin C.2.2 hdecl hd hn hfit (Nat.le_of_ble_eq_true hlen) hdg kk
theorem x_putN (C : x_CC p s m args meth c cc nL own D cy s0) (hP : va_P D vwCl ws H) (hD : va_D A ws) (hS : va_S A H0 H locs) (q0 j : Nat) {a ci N index : Nat} {fs : List Value} {K : String} {T : u_T} {ty : FieldType} {v : Value} (he : ws[q0]? = some (a, .inr (ci, fs))) (hc : vwCl[ci]? = some (K, T, N)) (hj : Nat.blt j N = true) (hl : Cond.fieldLink own index (T j).1 (T j).2.1 (T j).2.2.1 ∈ wsU) (hfin : (T j).2.2.2 = false) (hdecl : (T j).1 = own) (hd : parseFieldDescriptor (T j).2.2.1 = some ty) (hn : narrow ty v = v) (hfit : fits ty v = true) (hlen : Nat.blt j fs.length = true) (hdg : decode cc pc = .ok (.putfield index, 3))
    (kk : ∀ (H1 : Heap) (locs1 : List Loc), va_P D vwCl (ws.set q0 (a, .inr (ci, fs.set j v))) H1 → va_D A (ws.set q0 (a, .inr (ci, fs.set j v))) → va_S A H0 H1 locs1 → W p l e R s m args below meth c H1 locs1 cells slots Q (F0 m (pc + 3) ls rest)) : W p l e R s m args below meth c H locs cells slots Q (F0 m pc ls (v :: .ref a :: rest)) := by
  obtain ⟨h1, ⟨ty0, h2⟩, h3⟩ := x_cls hc
  exact va_put C.1.1 C.1.2.1 C.1.2.2.2.2 h1 ty0 h2 h3 C.1.2.2.2.1 C.2.1.1 hP hD hS q0 he hc j (Nat.le_of_ble_eq_true hj) (C.1.2.2.2.2 _ hl) (fun _ h => h) hfin hd hn hfit (Nat.le_of_ble_eq_true hlen) hdg kk
theorem x_iastL (C : x_CC p s m args meth c cc nL own D cy s0) (hP : va_P D vwCl ws H) (hD : va_D A ws) (hS : va_S A H0 H locs) (q0 : Nat) {a n : Nat} {f : Nat → Int32} (he : ws[q0]? = some (a, .inl (cy 0, n, .inl f))) {i x : Int32} {j : Nat} (hj : i.toNatClampNeg = j) (hin : vp_in i n) (hdg : decode cc pc = .ok (.iastore, 1))
    (kk : ∀ (H1 : Heap) (locs1 : List Loc), va_P D vwCl (ws.set q0 (a, .inl (cy 0, n, .inl (upd f j x)))) H1 → va_D A (ws.set q0 (a, .inl (cy 0, n, .inl (upd f j x)))) → va_S A H0 H1 locs1 → W p l e R s m args below meth c H1 locs1 cells slots Q (F0 m (pc + 1) ls rest)) : W p l e R s m args below meth c H locs cells slots Q (F0 m pc ls (.int x :: .int i :: .ref a :: rest)) := by
  subst hj
  exact va_iast C.1.1 C.1.2.1 C.2.1.1 hP hD hS q0 0 he rfl hin hdg kk
theorem x_objI (C : x_CC p s m args meth c cc nL own D cy s0) {index : Nat} (hl : Cond.methodLink own index objectInit ∈ wsU ∧ Cond.instanceMethod objectInit ∈ wsU ∧ Cond.code objectInit ⟨#[0xb1]⟩ 1 none ∈ wsU) (hsz : ls.size = nL) {a : Nat} (hdg : decode cc pc = .ok (.invokespecial index, 3)) (hrm : 1 ≤ R.frames ∧ (rest.map fun v => v.category).sum + 12 ≤ R.locals)
    (kk : W p l e R s m args below meth c H locs cells slots Q (F0 m (pc + 3) ls rest)) : W p l e R s m args below meth c H locs cells slots Q (F0 m pc ls (.ref a :: rest)) := by
  refine W.objInit C.1.1 C.1.2.1 C.1.2.2.2.1 (C.1.2.2.2.2 _ hl.1) (C.1.2.2.2.2 _ hl.2.1) (C.1.2.2.2.2 _ hl.2.2) rfl (by rw [C.1.2.2.1]; exact hsz) rfl hdg hrm.1 ?_ ?_
  · show 2 * 0 + _ + 12 ≤ _
    omega
  · exact kk
end XK
