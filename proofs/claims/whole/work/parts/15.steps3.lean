/-! ===== more instructions and calls ===== -/
def x_Cr (l : Launch) (D : va_G) (cy : Nat → ClassId) (q ad : Nat → Nat) (sp : Nat → x_K) (NC : Nat) (s0 : State) (adr : Int32 → Nat) (y : MethodName) (ws : List Cond) (rm : Room) (av : List Value) (M : x_M) (r : Int32) (M' : x_M) : Prop :=
  ∀ sz, Met l y ws rm (va_Pc av (x_Pre D cy q ad sp NC s0 sz M)) (va_Qr (fun (u : Int32 × x_M) => u = (r, M')) (fun u a t => a = adr u.1 ∧ x_Post D cy q ad sp NC u.2 t) (x_A q NC sz)) 0 0 (x_A q NC sz)
theorem x_metr {l : Launch} {D : va_G} {cy : Nat → ClassId} {q ad : Nat → Nat} {sp : Nat → x_K} {NC : Nat} {s0 : State} {y : MethodName} {cc : ByteArray} {nL : Nat} {rm : Room} {av : List Value} {M : x_M} {rt : String} {adr : Int32 → Nat} {z : Int32 × x_M} (hq : x_Q q NC s0.heap.size) (hy : plainName y.cls = true) (hn : (lg_sl av).length ≤ nL)
    (body : ∀ (p : Program) (e : Env) (s : State) (m : MethodId) (args : Array Value) (below : List Frame) (meth : Method) (c : Code) (ls : Array Slot) (Q : State → Prop), x_C p s m args c cc nL y.cls D cy q NC s0 → (∀ {pc : Nat} {H : Heap} {locs : List Loc} {ls : Array Slot} {x : Int32} {M1 : x_M}, decode cc pc = .ok (.areturn, 1) → x_B D cy q ad sp NC s H locs M1 → some (x, M1) = some z → W p l e rm s m args below meth c H locs 0 0 Q (F0 m pc ls [.ref (adr x)])) → lv_has ls nL (lv_args 0 av) → x_B D cy q ad sp NC s s.heap [] M →
      W p l e rm s m args below meth c s.heap [] 0 0 Q (F0 m 0 ls [])) : x_Cr l D cy q ad sp NC s0 adr y (x_uw y cc nL (some (.object rt))) rm av M z.1 z.2 := by
  intro sz
  refine x_start hq hy hn ?_
  intro p e s m below meth c ls C hr hlocks _ hsz hl hB
  refine body p e s m av.toArray below meth c ls _ C (fun {pc H locs ls x M1} hd hw hz => ?_) hl hB
  cases hz
  subst hsz
  exact W.aret (v := .ref (adr x)) C.1.1 C.1.2.1 hr (Or.inl ⟨_, rfl⟩) (Or.inr ⟨_, rfl⟩) (fun t ht hW => ⟨⟨(x, M1), adr x, rfl, rfl, rfl, by show va_P _ _ _ t.heap; rw [ht]; exact hw.1⟩, hw.2.F ht⟩) hw.2.2.2 hd
def x_ac {α : Type} (n0 n1 : Nat) (M : x_M) (k0 : Nat) (i : Int32) (k1 : Nat) (j n : Int32) (K : x_M → Option α) : Option α := if i < 0 ∨ j < 0 ∨ n < 0 ∨ n0 < i.toNatClampNeg + n.toNatClampNeg ∨ n1 < j.toNatClampNeg + n.toNatClampNeg then none else K (va_up M k1 (va_cpy (M k0) (M k1) i.toNatClampNeg j.toNatClampNeg n.toNatClampNeg))
def x_cf {α : Type} (row : Nat → Int32) (i n : Int32) (K : Option α) : Option α := if (List.range n.toNatClampNeg).all (fun j => fits .short (.int (row (i.toNatClampNeg + j)))) = true then K else none
theorem x_cf_some {α : Type} {row : Nat → Int32} {i n : Int32} {K : Option α} {z : α} (h : x_cf row i n K = some z) : (∀ j, j < n.toNatClampNeg → fits .short (.int (row (i.toNatClampNeg + j))) = true) ∧ K = some z := by
  unfold x_cf at h
  by_cases c : (List.range n.toNatClampNeg).all (fun j => fits .short (.int (row (i.toNatClampNeg + j)))) = true
  · rw [if_pos c] at h; exact ⟨fun j hj => List.all_eq_true.mp c j (List.mem_range.mpr hj), h⟩
  · rw [if_neg c] at h; cases h
theorem x_ac_some {α : Type} {n0 n1 : Nat} {M : x_M} {k0 : Nat} {i : Int32} {k1 : Nat} {j n : Int32} {K : x_M → Option α} {z : α} (h : x_ac n0 n1 M k0 i k1 j n K = some z) : (¬ i < 0 ∧ ¬ j < 0 ∧ ¬ n < 0 ∧ i.toNatClampNeg + n.toNatClampNeg ≤ n0 ∧ j.toNatClampNeg + n.toNatClampNeg ≤ n1) ∧ K (va_up M k1 (va_cpy (M k0) (M k1) i.toNatClampNeg j.toNatClampNeg n.toNatClampNeg)) = some z := by
  unfold x_ac at h
  by_cases c : i < 0 ∨ j < 0 ∨ n < 0 ∨ n0 < i.toNatClampNeg + n.toNatClampNeg ∨ n1 < j.toNatClampNeg + n.toNatClampNeg
  · rw [if_pos c] at h; cases h
  · rw [if_neg c] at h
    simp only [not_or, Nat.not_lt] at c
    exact ⟨c, h⟩
def x_mw (own : String) (index : Nat) (y : MethodName) (cc : ByteArray) : Prop := Cond.methodLink own index y ∈ wsU ∧ Cond.static y ∈ wsU ∧ Cond.initialized "java/lang/Math" ∈ wsU ∧ Cond.code y cc 2 (some .int) ∈ wsU
def x_acw (own : String) (index : Nat) : Prop := Cond.methodLink own index arraycopyName ∈ wsU ∧ Cond.native arraycopyName ∈ wsU ∧ Cond.static arraycopyName ∈ wsU ∧ Cond.initialized "java/lang/System" ∈ wsU
section XU
variable {p : Program} {l : Launch} {e : Env} {R : Room} {s : State} {m : MethodId} {args : Array Value} {below : List Frame} {meth : Method} {c : Code} {H : Heap} {locs : List Loc} {cells slots : Nat} {Q : State → Prop} {cc : ByteArray} {nL pc : Nat} {own : String} {ls : Array Slot} {rest : List Value}
variable {D : va_G} {cy : Nat → ClassId} {q ad adV : Nat → Nat} {sp : Nat → x_K} {NC : Nat} {s0 : State} {M : x_M} {α : Type} {z : α}
theorem x_callr {r : Int32} {M' : x_M} {adr : Int32 → Nat} {a : Array Value} {st : List Value} (hw : x_B D cy q ad sp NC s H locs M) (hr : va_Run p l e R s m args below meth c H locs cells slots 0 0 (F0 m pc ls st) rest (va_Qr (fun (u : Int32 × x_M) => u = (r, M')) (fun u a t => a = adr u.1 ∧ x_Post D cy q ad sp NC u.2 t) (x_A q NC H.size) a) (x_A q NC H.size))
    (kk : ∀ (H1 : Heap) (locs1 : List Loc), x_B D cy q ad sp NC s H1 locs1 M' → W p l e R s m args below meth c H1 locs1 cells slots Q (F0 m (pc + 3) ls (.ref (adr r) :: rest))) : W p l e R s m args below meth c H locs cells slots Q (F0 m pc ls st) := by
  refine va_callr hr hw.2 (fun z _ h => x_A_sub hw.2.1 z h) (x_A_sub hw.2.1) (fun u ra t H1 locs1 ht hvm hp hB hz1 hk1 hS => ?_)
  subst hp
  obtain ⟨h1, h2⟩ := hB
  subst h1
  exact kk H1 locs1 ⟨by rw [← ht]; exact h2, hS⟩
theorem xh_min (C : x_C p s m args c cc nL own D cy q NC s0) {index : Nat} {x y : Int32} (mw : x_mw own index Lib.Math.min.name Lib.Math.min.code) (hsz : ls.size = nL) (hrm : 1 ≤ R.frames ∧ (rest.map fun v => v.category).sum + 13 ≤ R.locals) (hdg : decode cc pc = .ok (.invokestatic index, 3))
    (kk : W p l e R s m args below meth c H locs 0 0 Q (F0 m (pc + 3) ls (.int (if y < x then y else x) :: rest))) : W p l e R s m args below meth c H locs 0 0 Q (F0 m pc ls (.int y :: .int x :: rest)) :=
  va_mmin C.1.1 C.1.2.1 (by rw [hsz]; exact C.1.2.2.1) C.1.2.2.2.1 (C.1.2.2.2.2 _ mw.1) (C.1.2.2.2.2 _ mw.2.1) (C.1.2.2.2.2 _ mw.2.2.1) (C.1.2.2.2.2 _ mw.2.2.2) hrm.1 hrm.2 (Nat.zero_le _) (Nat.zero_le _) hdg kk
theorem xh_max (C : x_C p s m args c cc nL own D cy q NC s0) {index : Nat} {x y : Int32} (mw : x_mw own index Lib.Math.max.name Lib.Math.max.code) (hsz : ls.size = nL) (hrm : 1 ≤ R.frames ∧ (rest.map fun v => v.category).sum + 13 ≤ R.locals) (hdg : decode cc pc = .ok (.invokestatic index, 3))
    (kk : W p l e R s m args below meth c H locs 0 0 Q (F0 m (pc + 3) ls (.int (if x < y then y else x) :: rest))) : W p l e R s m args below meth c H locs 0 0 Q (F0 m pc ls (.int y :: .int x :: rest)) :=
  va_mmax C.1.1 C.1.2.1 (by rw [hsz]; exact C.1.2.2.1) C.1.2.2.2.1 (C.1.2.2.2.2 _ mw.1) (C.1.2.2.2.2 _ mw.2.1) (C.1.2.2.2.2 _ mw.2.2.1) (C.1.2.2.2.2 _ mw.2.2.2) hrm.1 hrm.2 (Nat.zero_le _) (Nat.zero_le _) hdg kk
theorem xh_copy (C : x_C p s m args c cc nL own D cy q NC s0) (hw : x_B D cy q ad sp NC s H locs M) {K : x_M → Option α} (k0 k1 n0 n1 : Nat) {i j n : Int32} {index : Nat} (h : x_ac n0 n1 M k0 i k1 j n K = some z) (hs0 : sp k0 = .inl (0, n0)) (hs1 : sp k1 = .inl (0, n1)) (hk0 : k0 < NC) (hk1 : k1 < NC) (aw : x_acw own index) (hsz : ls.size = nL)
    (hrm : 1 ≤ R.frames ∧ (rest.map fun v => v.category).sum + (nativeFrameWords "java/lang/System" "arraycopy" 5 + 11) ≤ R.locals) (hdg : decode cc pc = .ok (.invokestatic index, 3)) (kk : ∀ (H1 : Heap) (locs1 : List Loc) (M1 : x_M), x_B D cy q ad sp NC s H1 locs1 M1 → K M1 = some z → W p l e R s m args below meth c H1 locs1 cells slots Q (F0 m (pc + 3) ls rest)) : W p l e R s m args below meth c H locs cells slots Q (F0 m pc ls (.int n :: .int j :: .ref (q k1) :: .int i :: .ref (q k0) :: rest)) := by
  obtain ⟨⟨h1, h2, h3, h4, h5⟩, h⟩ := x_ac_some h
  have hL := C.1.2.2.2.2
  refine va_copyi C.1.1 C.1.2.1 (by rw [hsz]; exact C.1.2.2.1) C.1.2.2.2.1 (hL _ aw.1) (hL _ aw.2.1) (hL _ aw.2.2.1) (hL _ aw.2.2.2) C.2.1.1 hw.1 (x_CD C M) hw.2 k0 k1 0 0 (c0 := cy 0) (c1 := cy 0) (n0 := n0) (n1 := n1) (f := M k0) (g := M k1) (ty := .int) (by rw [x_w_get hk0, hs0]; rfl) (by rw [x_w_get hk1, hs1]; rfl) rfl rfl rfl h1 h2 h3 h4 h5 (fun _ _ => rfl) hrm.1 hrm.2 hdg (fun H1 locs1 hP _ hS => kk H1 locs1 _ ⟨?_, hS⟩ h)
  have e1 : (Sum.inl (cy 0, n1, .inl (va_cpy (M k0) (M k1) i.toNatClampNeg j.toNatClampNeg n.toNatClampNeg)) : va_E) = x_E cy q ad (sp k1) (va_cpy (M k0) (M k1) i.toNatClampNeg j.toNatClampNeg n.toNatClampNeg) := by rw [hs1]; rfl
  rw [e1, x_w_set hk1] at hP
  exact hP
theorem xh_copys (C : x_C p s m args c cc nL own D cy q NC s0) (hw : x_B D cy q ad sp NC s H locs M) {K : x_M → Option α} (k0 k1 n0 n1 : Nat) {i j n : Int32} {index : Nat} (h : x_cf (M k0) i n (x_ac n0 n1 M k0 i k1 j n K) = some z) (hs0 : sp k0 = .inl (1, n0)) (hs1 : sp k1 = .inl (1, n1)) (hk0 : k0 < NC) (hk1 : k1 < NC) (aw : x_acw own index) (hsz : ls.size = nL)
    (hrm : 1 ≤ R.frames ∧ (rest.map fun v => v.category).sum + (nativeFrameWords "java/lang/System" "arraycopy" 5 + 11) ≤ R.locals) (hdg : decode cc pc = .ok (.invokestatic index, 3)) (kk : ∀ (H1 : Heap) (locs1 : List Loc) (M1 : x_M), x_B D cy q ad sp NC s H1 locs1 M1 → K M1 = some z → W p l e R s m args below meth c H1 locs1 cells slots Q (F0 m (pc + 3) ls rest)) : W p l e R s m args below meth c H locs cells slots Q (F0 m pc ls (.int n :: .int j :: .ref (q k1) :: .int i :: .ref (q k0) :: rest)) := by
  obtain ⟨h6, h⟩ := x_cf_some h
  obtain ⟨⟨h1, h2, h3, h4, h5⟩, h⟩ := x_ac_some h
  have hL := C.1.2.2.2.2
  refine va_copyi C.1.1 C.1.2.1 (by rw [hsz]; exact C.1.2.2.1) C.1.2.2.2.1 (hL _ aw.1) (hL _ aw.2.1) (hL _ aw.2.2.1) (hL _ aw.2.2.2) C.2.1.1 hw.1 (x_CD C M) hw.2 k0 k1 1 1 (c0 := cy 1) (c1 := cy 1) (n0 := n0) (n1 := n1) (f := M k0) (g := M k1) (ty := .short) (by rw [x_w_get hk0, hs0]; rfl) (by rw [x_w_get hk1, hs1]; rfl) rfl rfl rfl h1 h2 h3 h4 h5 h6 hrm.1 hrm.2 hdg (fun H1 locs1 hP _ hS => kk H1 locs1 _ ⟨?_, hS⟩ h)
  have e1 : (Sum.inl (cy 1, n1, .inl (va_cpy (M k0) (M k1) i.toNatClampNeg j.toNatClampNeg n.toNatClampNeg)) : va_E) = x_E cy q ad (sp k1) (va_cpy (M k0) (M k1) i.toNatClampNeg j.toNatClampNeg n.toNatClampNeg) := by rw [hs1]; rfl
  rw [e1, x_w_set hk1] at hP
  exact hP
/-- a place of a row of TERMS, by whether there is one -/
theorem xh_tald2 (C : x_C p s m args c cc nL own D cy q NC s0) (hw : x_B D cy q ad sp NC s H locs M) {K0 K1 : Int32 → Option α} (k n : Nat) {i : Int32} (h : x_rd n (M k) i (fun r => if r = 0 then K0 r else K1 r) = some z) (hs : sp k = .inl (4, n)) (hk : k < NC) (hdg : decode cc pc = .ok (.aaload, 1)) (kk0 : ∀ r, K0 r = some z → W p l e R s m args below meth c H locs cells slots Q (F0 m (pc + 1) ls (.null :: rest))) (kk1 : ∀ r, K1 r = some z → W p l e R s m args below meth c H locs cells slots Q (F0 m (pc + 1) ls (.ref (q (r.toNatClampNeg - 1)) :: rest))) : W p l e R s m args below meth c H locs cells slots Q (F0 m pc ls (.int i :: .ref (q k) :: rest)) := by
  refine xh_tald C hw k n h hs hk hdg (fun r h => ?_)
  by_cases c : r = 0
  · rw [if_pos c] at h
    have e1 : va_rf (x_tro q r) = .null := by unfold x_tro; rw [if_pos c]; rfl
    rw [e1]
    exact kk0 r h
  · rw [if_neg c] at h
    have e1 : va_rf (x_tro q r) = .ref (q (r.toNatClampNeg - 1)) := by unfold x_tro; rw [if_neg c]; rfl
    rw [e1]
    exact kk1 r h
theorem xh_tastN (C : x_C p s m args c cc nL own D cy q NC s0) (hw : x_B D cy q ad sp NC s H locs M) {K : x_M → Option α} (k n : Nat) {i : Int32} (h : x_wr n M k i 0 K = some z) (hs : sp k = .inl (4, n)) (hk : k < NC) (hdg : decode cc pc = .ok (.aastore, 1)) (kk : ∀ (H1 : Heap) (locs1 : List Loc) (M1 : x_M), x_B D cy q ad sp NC s H1 locs1 M1 → K M1 = some z → W p l e R s m args below meth c H1 locs1 cells slots Q (F0 m (pc + 1) ls rest)) : W p l e R s m args below meth c H locs cells slots Q (F0 m pc ls (.null :: .int i :: .ref (q k) :: rest)) := by
  obtain ⟨hin, h⟩ := x_wr_some h
  refine va_astqN (C := "MilesHall$Terms") C.1.1 C.1.2.1 C.2.1.1 hw.1 (x_CD C M) hw.2 k 4 (cA := cy 4) (n := n) (f := fun j => x_tro q (M k j)) (by rw [x_w_get hk, hs]; rfl) rfl hin hdg (fun H1 locs1 hP _ hS => kk H1 locs1 _ ⟨?_, hS⟩ h)
  have e1 : (Sum.inl (cy 4, n, .inr (.inr (.inr (.inr (va_up (fun j => x_tro q (M k j)) i.toNatClampNeg none))))) : va_E) = x_E cy q ad (sp k) (upd (M k) i.toNatClampNeg 0) := by
    rw [hs]
    show _ = (Sum.inl (cy 4, n, .inr (.inr (.inr (.inr (fun j => x_tro q (upd (M k) i.toNatClampNeg 0 j)))))) : va_E)
    congr 7
    funext j
    by_cases hj : j = i.toNatClampNeg
    · simp [va_up, upd, hj, x_tro]
    · simp [va_up, upd, hj]
  rw [e1, x_w_set hk] at hP
  exact hP
theorem xh_tast (C : x_C p s m args c cc nL own D cy q NC s0) (hw : x_B D cy q ad x_spX NC s H locs M) {K : x_M → Option α} (k n : Nat) {i t : Int32} (h : x_tk NC t (x_wr n M k i t K) = some z) (hs : x_spX k = .inl (4, n)) (hk : k < NC) (hdg : decode cc pc = .ok (.aastore, 1)) (kk : ∀ (H1 : Heap) (locs1 : List Loc) (M1 : x_M), x_B D cy q ad x_spX NC s H1 locs1 M1 → K M1 = some z → W p l e R s m args below meth c H1 locs1 cells slots Q (F0 m (pc + 1) ls rest)) : W p l e R s m args below meth c H locs cells slots Q (F0 m pc ls (.ref (q (t.toNatClampNeg - 1)) :: .int i :: .ref (q k) :: rest)) := by
  obtain ⟨c1, h⟩ := x_tk_some h
  obtain ⟨hin, h⟩ := x_wr_some h
  have ht : ¬ t = 0 := by
    rintro rfl
    exact absurd c1.1 (by decide)
  refine va_astq C.1.1 C.1.2.1 C.2.1.1 hw.1 (x_CD C M) hw.2 k 4 (t.toNatClampNeg - 1) 8 (cA := cy 4) (r := (RX8, TX8, 3)) (n := n) (f := fun j => x_tro q (M k j)) (by rw [x_w_get hk, hs]; rfl) rfl (by rw [x_w_get (by omega), (x_tk_sp c1).1]; rfl) rfl hin hdg (fun H1 locs1 hP _ hS => kk H1 locs1 _ ⟨?_, hS⟩ h)
  have e1 : (Sum.inl (cy 4, n, .inr (.inr (.inr (.inr (va_up (fun j => x_tro q (M k j)) i.toNatClampNeg (some (q (t.toNatClampNeg - 1)))))))) : va_E) = x_E cy q ad (x_spX k) (upd (M k) i.toNatClampNeg t) := by
    rw [hs]
    show _ = (Sum.inl (cy 4, n, .inr (.inr (.inr (.inr (fun j => x_tro q (upd (M k) i.toNatClampNeg t j)))))) : va_E)
    congr 7
    funext j
    by_cases hj : j = i.toNatClampNeg
    · simp [va_up, upd, hj, x_tro, ht]
    · simp [va_up, upd, hj]
  rw [e1, x_w_set hk] at hP
  exact hP
/-- a call of a text -/
theorem x_runT {y : MethodName} {bytes : ByteArray} {maxL index n : Nat} {ret : Option FieldType} {rm : Room} {As : List Value} {Qc : Array Value → State → Outcome → State → Prop} {free : Addr → Prop} {st : List Value} (C : x_C p s m args c cc nL own D cy q NC s0) (hw : x_B D cy q ad sp NC s H locs M) (hz : x_Z s0 ad adV) {t : Int32} (ht : t.toNatClampNeg < 17) (hM : Met l y (x_uw y bytes maxL ret) rm (va_Pc (.ref (ad t.toNatClampNeg) :: As) (x_Pre D cy q ad sp NC s0 H.size M)) Qc 0 0 free) (ml : x_ml own index y bytes maxL ret n) (mv : x_mv y) (hy : y.cls = "java/lang/String")
    (hrm : rm.cells = 0 ∧ rm.slots = 0 ∧ rm.frames + 1 ≤ R.frames ∧ 8 + (maxL + 11) + rm.locals ≤ R.locals) (hn : As.length = n) (hsz : ls.size = nL) (hst : st = As.reverse ++ .ref (ad t.toNatClampNeg) :: rest) (hrest : (rest.map fun v => v.category).sum ≤ 8) (hdg : decode cc pc = .ok (.invokevirtual index, 3)) (hcap : cells ≤ R.cells ∧ slots ≤ R.slots) :
    va_Run p l e R s m args below meth c H locs cells slots 0 0 (F0 m pc ls st) rest (Qc (Value.ref (ad t.toNatClampNeg) :: As).toArray) free := by
  obtain ⟨⟨m1, m2, m3⟩, md⟩ := ml
  obtain ⟨v1, v2⟩ := mv
  have hL := C.1.2.2.2.2
  refine va_runV (C := y.cls) (bytes := bytes) (maxL := maxL) (ret := ret) (n := n) C.1 hM ⟨callB_of n hL (x_uw_good (y := y) (cc := bytes) (n := maxL) (ret := ret) m3) rfl hrm.1 hrm.2.1 (hL _ m2) (hL _ m1) md hrm.2.2, hL _ v1, hL _ v2⟩ ⟨x_blind, ?_, fun U hU hW => x_pre C hw _ U hU hW⟩ rfl hn hsz hst (lv_room hrest) hdg hcap
  rw [hy]
  exact vk_recv (x_lowS C hz) ht hw.2
theorem xh_cTi (C : x_C p s m args c cc nL own D cy q NC s0) (hw : x_B D cy q ad sp NC s H locs M) {y : MethodName} {bytes : ByteArray} {maxL index n : Nat} {ret : Option FieldType} {rm : Room} {As st : List Value} (hz : x_Z s0 ad adV) {t : Int32} {fc : Option (Int32 × x_M)} {K : Int32 → x_M → Option α} (h : x_cs t (x_bn fc K) = some z) (hM : ∀ z', fc = some z' → x_Ci l D cy q ad sp NC s0 y (x_uw y bytes maxL ret) rm (.ref (ad t.toNatClampNeg) :: As) M z'.1 z'.2) (ml : x_ml own index y bytes maxL ret n) (mv : x_mv y) (hy : y.cls = "java/lang/String") (hrm : rm.cells = 0 ∧ rm.slots = 0 ∧ rm.frames + 1 ≤ R.frames ∧ 8 + (maxL + 11) + rm.locals ≤ R.locals) (hn : As.length = n) (hsz : ls.size = nL) (hst : st = As.reverse ++ .ref (ad t.toNatClampNeg) :: rest) (hrest : (rest.map fun v => v.category).sum ≤ 8) (hdg : decode cc pc = .ok (.invokevirtual index, 3)) (kk : ∀ (H1 : Heap) (locs1 : List Loc) (r : Int32) (M1 : x_M), x_B D cy q ad sp NC s H1 locs1 M1 → K r M1 = some z → W p l e R s m args below meth c H1 locs1 0 0 Q (F0 m (pc + 3) ls (.int r :: rest))) : W p l e R s m args below meth c H locs 0 0 Q (F0 m pc ls st) := by
  obtain ⟨c1, h⟩ := x_cs_some h
  obtain ⟨y1, h1, h2⟩ := x_bn_some h
  exact x_calli hw (x_runT C hw hz c1 (hM y1 h1 H.size) ml mv hy hrm hn hsz hst hrest hdg ⟨Nat.zero_le _, Nat.zero_le _⟩) (fun H1 locs1 hw => kk H1 locs1 y1.1 y1.2 hw h2)
theorem xh_cTv (C : x_C p s m args c cc nL own D cy q NC s0) (hw : x_B D cy q ad sp NC s H locs M) {y : MethodName} {bytes : ByteArray} {maxL index n : Nat} {ret : Option FieldType} {rm : Room} {As st : List Value} (hz : x_Z s0 ad adV) {t : Int32} {fc : Option (Unit × x_M)} {K : Unit → x_M → Option α} (h : x_cs t (x_bn fc K) = some z) (hM : ∀ z', fc = some z' → x_Cv l D cy q ad sp NC s0 y (x_uw y bytes maxL ret) rm (.ref (ad t.toNatClampNeg) :: As) M z'.2) (ml : x_ml own index y bytes maxL ret n) (mv : x_mv y) (hy : y.cls = "java/lang/String") (hrm : rm.cells = 0 ∧ rm.slots = 0 ∧ rm.frames + 1 ≤ R.frames ∧ 8 + (maxL + 11) + rm.locals ≤ R.locals) (hn : As.length = n) (hsz : ls.size = nL) (hst : st = As.reverse ++ .ref (ad t.toNatClampNeg) :: rest) (hrest : (rest.map fun v => v.category).sum ≤ 8) (hdg : decode cc pc = .ok (.invokevirtual index, 3)) (kk : ∀ (H1 : Heap) (locs1 : List Loc) (r : Unit) (M1 : x_M), x_B D cy q ad sp NC s H1 locs1 M1 → K r M1 = some z → W p l e R s m args below meth c H1 locs1 0 0 Q (F0 m (pc + 3) ls rest)) : W p l e R s m args below meth c H locs 0 0 Q (F0 m pc ls st) := by
  obtain ⟨c1, h⟩ := x_cs_some h
  obtain ⟨y1, h1, h2⟩ := x_bn_some h
  exact x_callv hw (x_runT C hw hz c1 (hM y1 h1 H.size) ml mv hy hrm hn hsz hst hrest hdg ⟨Nat.zero_le _, Nat.zero_le _⟩) (fun H1 locs1 hw => kk H1 locs1 y1.1 y1.2 hw h2)
theorem xh_cKi (C : x_C p s m args c cc nL own D cy q NC s0) (hw : x_B D cy q ad x_spX NC s H locs M) {y : MethodName} {bytes : ByteArray} {maxL index n : Nat} {ret : Option FieldType} {rm : Room} {As st : List Value} {t : Int32} {fc : Option (Int32 × x_M)} {K : Int32 → x_M → Option α} (h : x_tk NC t (x_bn fc K) = some z) (hM : ∀ z', fc = some z' → x_Ci l D cy q ad x_spX NC s0 y (x_uw y bytes maxL ret) rm (.ref (q (t.toNatClampNeg - 1)) :: As) M z'.1 z'.2) (ml : x_ml own index y bytes maxL ret n) (mv : x_mv y) (hy : y.cls = RX8) (hrm : rm.cells = 0 ∧ rm.slots = 0 ∧ rm.frames + 1 ≤ R.frames ∧ 8 + (maxL + 11) + rm.locals ≤ R.locals) (hn : As.length = n) (hsz : ls.size = nL) (hst : st = As.reverse ++ .ref (q (t.toNatClampNeg - 1)) :: rest) (hrest : (rest.map fun v => v.category).sum ≤ 8) (hdg : decode cc pc = .ok (.invokevirtual index, 3)) (kk : ∀ (H1 : Heap) (locs1 : List Loc) (r : Int32) (M1 : x_M), x_B D cy q ad x_spX NC s H1 locs1 M1 → K r M1 = some z → W p l e R s m args below meth c H1 locs1 0 0 Q (F0 m (pc + 3) ls (.int r :: rest))) : W p l e R s m args below meth c H locs 0 0 Q (F0 m pc ls st) := by
  obtain ⟨c1, h⟩ := x_tk_some h
  obtain ⟨y1, h1, h2⟩ := x_bn_some h
  exact x_calli hw (x_runV C hw (hM y1 h1 H.size) ml mv (x_tk_sp c1).1 (by omega) (N := 3) (T := TX8) (by rw [hy]; rfl) hrm hn hsz hst hrest hdg ⟨Nat.zero_le _, Nat.zero_le _⟩) (fun H1 locs1 hw => kk H1 locs1 y1.1 y1.2 hw h2)
theorem xh_cKr (C : x_C p s m args c cc nL own D cy q NC s0) (hw : x_B D cy q ad x_spX NC s H locs M) {y : MethodName} {bytes : ByteArray} {maxL index n : Nat} {ret : Option FieldType} {rm : Room} {As st : List Value} {adr : Int32 → Nat} {t : Int32} {fc : Option (Int32 × x_M)} {K : Int32 → x_M → Option α} (h : x_tk NC t (x_bn fc K) = some z) (hM : ∀ z', fc = some z' → x_Cr l D cy q ad x_spX NC s0 adr y (x_uw y bytes maxL ret) rm (.ref (q (t.toNatClampNeg - 1)) :: As) M z'.1 z'.2) (ml : x_ml own index y bytes maxL ret n) (mv : x_mv y) (hy : y.cls = RX8) (hrm : rm.cells = 0 ∧ rm.slots = 0 ∧ rm.frames + 1 ≤ R.frames ∧ 8 + (maxL + 11) + rm.locals ≤ R.locals) (hn : As.length = n) (hsz : ls.size = nL) (hst : st = As.reverse ++ .ref (q (t.toNatClampNeg - 1)) :: rest) (hrest : (rest.map fun v => v.category).sum ≤ 8) (hdg : decode cc pc = .ok (.invokevirtual index, 3)) (kk : ∀ (H1 : Heap) (locs1 : List Loc) (r : Int32) (M1 : x_M), x_B D cy q ad x_spX NC s H1 locs1 M1 → K r M1 = some z → W p l e R s m args below meth c H1 locs1 0 0 Q (F0 m (pc + 3) ls (.ref (adr r) :: rest))) : W p l e R s m args below meth c H locs 0 0 Q (F0 m pc ls st) := by
  obtain ⟨c1, h⟩ := x_tk_some h
  obtain ⟨y1, h1, h2⟩ := x_bn_some h
  exact x_callr hw (x_runV C hw (hM y1 h1 H.size) ml mv (x_tk_sp c1).1 (by omega) (N := 3) (T := TX8) (by rw [hy]; rfl) hrm hn hsz hst hrest hdg ⟨Nat.zero_le _, Nat.zero_le _⟩) (fun H1 locs1 hw => kk H1 locs1 y1.1 y1.2 hw h2)
theorem xh_cKv (C : x_C p s m args c cc nL own D cy q NC s0) (hw : x_B D cy q ad x_spX NC s H locs M) {y : MethodName} {bytes : ByteArray} {maxL index n : Nat} {ret : Option FieldType} {rm : Room} {As st : List Value} {t : Int32} {fc : Option (Unit × x_M)} {K : Unit → x_M → Option α} (h : x_tk NC t (x_bn fc K) = some z) (hM : ∀ z', fc = some z' → x_Cv l D cy q ad x_spX NC s0 y (x_uw y bytes maxL ret) rm (.ref (q (t.toNatClampNeg - 1)) :: As) M z'.2) (ml : x_ml own index y bytes maxL ret n) (mv : x_mv y) (hy : y.cls = RX8) (hrm : rm.cells = 0 ∧ rm.slots = 0 ∧ rm.frames + 1 ≤ R.frames ∧ 8 + (maxL + 11) + rm.locals ≤ R.locals) (hn : As.length = n) (hsz : ls.size = nL) (hst : st = As.reverse ++ .ref (q (t.toNatClampNeg - 1)) :: rest) (hrest : (rest.map fun v => v.category).sum ≤ 8) (hdg : decode cc pc = .ok (.invokevirtual index, 3)) (kk : ∀ (H1 : Heap) (locs1 : List Loc) (r : Unit) (M1 : x_M), x_B D cy q ad x_spX NC s H1 locs1 M1 → K r M1 = some z → W p l e R s m args below meth c H1 locs1 0 0 Q (F0 m (pc + 3) ls rest)) : W p l e R s m args below meth c H locs 0 0 Q (F0 m pc ls st) := by
  obtain ⟨c1, h⟩ := x_tk_some h
  obtain ⟨y1, h1, h2⟩ := x_bn_some h
  exact x_callv hw (x_runV C hw (hM y1 h1 H.size) ml mv (x_tk_sp c1).1 (by omega) (N := 3) (T := TX8) (by rw [hy]; rfl) hrm hn hsz hst hrest hdg ⟨Nat.zero_le _, Nat.zero_le _⟩) (fun H1 locs1 hw => kk H1 locs1 y1.1 y1.2 hw h2)
theorem xh_cVr (C : x_C p s m args c cc nL own D cy q NC s0) (hw : x_B D cy q ad sp NC s H locs M) {y : MethodName} {bytes : ByteArray} {maxL index n : Nat} {ret : Option FieldType} {rm : Room} {As st : List Value} {adr : Int32 → Nat} {k ci N : Nat} {fs : List (Nat × Nat)} {T : u_T} {fc : Option (Int32 × x_M)} {K : Int32 → x_M → Option α} (h : x_bn fc K = some z) (hM : ∀ z', fc = some z' → x_Cr l D cy q ad sp NC s0 adr y (x_uw y bytes maxL ret) rm (.ref (q k) :: As) M z'.1 z'.2) (ml : x_ml own index y bytes maxL ret n) (mv : x_mv y) (hs : sp k = .inr (ci, fs)) (hk : k < NC) (hc : vwCl[ci]? = some (y.cls, T, N)) (hrm : rm.cells = 0 ∧ rm.slots = 0 ∧ rm.frames + 1 ≤ R.frames ∧ 8 + (maxL + 11) + rm.locals ≤ R.locals) (hn : As.length = n) (hsz : ls.size = nL) (hst : st = As.reverse ++ .ref (q k) :: rest) (hrest : (rest.map fun v => v.category).sum ≤ 8) (hdg : decode cc pc = .ok (.invokevirtual index, 3)) (kk : ∀ (H1 : Heap) (locs1 : List Loc) (r : Int32) (M1 : x_M), x_B D cy q ad sp NC s H1 locs1 M1 → K r M1 = some z → W p l e R s m args below meth c H1 locs1 0 0 Q (F0 m (pc + 3) ls (.ref (adr r) :: rest))) : W p l e R s m args below meth c H locs 0 0 Q (F0 m pc ls st) := by
  obtain ⟨y1, h1, h2⟩ := x_bn_some h
  exact x_callr hw (x_runV C hw (hM y1 h1 H.size) ml mv hs hk hc hrm hn hsz hst hrest hdg ⟨Nat.zero_le _, Nat.zero_le _⟩) (fun H1 locs1 hw => kk H1 locs1 y1.1 y1.2 hw h2)
theorem xh_cSr (C : x_C p s m args c cc nL own D cy q NC s0) (hw : x_B D cy q ad sp NC s H locs M) {y : MethodName} {bytes : ByteArray} {maxL index n : Nat} {ret : Option FieldType} {rm : Room} {As st : List Value} {adr : Int32 → Nat} {fc : Option (Int32 × x_M)} {K : Int32 → x_M → Option α} (h : x_bn fc K = some z) (hM : ∀ z', fc = some z' → x_Cr l D cy q ad sp NC s0 adr y (x_uw y bytes maxL ret) rm As M z'.1 z'.2) (ml : x_ml own index y bytes maxL ret n) (mv : Cond.static y ∈ wsU) (hrm : rm.cells = 0 ∧ rm.slots = 0 ∧ rm.frames + 1 ≤ R.frames ∧ 8 + (maxL + 11) + rm.locals ≤ R.locals) (hn : As.length = n) (hsz : ls.size = nL) (hst : st = As.reverse ++ rest) (hrest : (rest.map fun v => v.category).sum ≤ 8) (hdg : decode cc pc = .ok (.invokestatic index, 3)) (kk : ∀ (H1 : Heap) (locs1 : List Loc) (r : Int32) (M1 : x_M), x_B D cy q ad sp NC s H1 locs1 M1 → K r M1 = some z → W p l e R s m args below meth c H1 locs1 0 0 Q (F0 m (pc + 3) ls (.ref (adr r) :: rest))) : W p l e R s m args below meth c H locs 0 0 Q (F0 m pc ls st) := by
  obtain ⟨y1, h1, h2⟩ := x_bn_some h
  exact x_callr hw (x_runS C hw (hM y1 h1 H.size) ml mv hrm hn hsz hst hrest hdg ⟨Nat.zero_le _, Nat.zero_le _⟩) (fun H1 locs1 hw => kk H1 locs1 y1.1 y1.2 hw h2)
end XU
