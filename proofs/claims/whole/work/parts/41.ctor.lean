/-! ===== a constructor's start, end and call ===== -/
theorem x_arrExt {D : va_G} {cl : List vw_C} {a n : Nat} {cA : ClassId} {f g : Nat → Int32} {H : Heap} (hfg : ∀ i, i < n → f i = g i) (h : va_at D cl (a, .inl (cA, n, .inl f)) H) : va_at D cl (a, .inl (cA, n, .inl g)) H := by
  have e1 : vp_cell cA (n, .inl f) = vp_cell cA (n, .inl g) := by
    rw [vp_cell_i, vp_cell_i]
    unfold arrV
    congr 2
    funext j
    exact congrArg Value.int (hfg j.val j.isLt)
  show H[a]? = some (vp_cell cA (n, .inl g))
  rw [← e1]
  exact h
theorem x_remark {D : va_G} {cl : List vw_C} {A : Nat → Prop} {ws : va_W} {H : Heap} (hP : va_P D cl ws H) (hD : va_D A ws) (i : Nat) {a n : Nat} {cA : ClassId} {f : Nat → Int32} (g : Nat → Int32) (he : ws[i]? = some (a, .inl (cA, n, .inl f))) (hfg : ∀ j, j < n → f j = g j) : va_P D cl (ws.set i (a, .inl (cA, n, .inl g))) H ∧ va_D A (ws.set i (a, .inl (cA, n, .inl g))) :=
  ⟨hP.set hD he (x_arrExt hfg (hP i _ he)) (fun _ _ => rfl), hD.set he⟩
theorem x_D1 {A : Nat → Prop} {a : Nat} {e : va_E} (h : A a) : va_D A [(a, e)] := by
  rw [x_nodup]
  exact ⟨by simp, by simpa using h⟩
theorem x_metc {l : Launch} {D : va_G} {cy : Nat → ClassId} {s0 : State} {y : MethodName} {cc : ByteArray} {nL : Nat} {rm : Room} {h0 : Nat} {av : List Value} {eb : va_E} {wo : (Nat → Nat) → va_W} {mc ms : Nat} (hy : plainName y.cls = true) (hi : y.name = "<init>") (hn : (lg_sl (.ref h0 :: av)).length ≤ nL)
    (body : ∀ (p : Program) (e : Env) (s : State) (m : MethodId) (args : Array Value) (below : List Frame) (meth : Method) (c : Code) (ls : Array Slot) (Q : State → Prop) (A : Nat → Prop), x_CC p s m args meth c cc nL y.cls D cy s0 → (∀ q, s.heap.size ≤ q → A q) → (∀ q, A q → s0.heap.size ≤ q) → (∀ q, A q ↔ (q = h0 ∨ s.heap.size ≤ q)) →
      (∀ {pc : Nat} {H : Heap} {locs : List Loc} {ls : Array Slot} (a : Nat → Nat), decode cc pc = .ok (.return_, 1) → a 0 = h0 → va_P D vwCl (wo a) H → va_D A (wo a) → va_S A s.heap H locs → W p l e rm s m args below meth c H locs mc ms Q (F0 m pc ls [])) →
      lv_has ls nL (lv_args 0 (.ref h0 :: av)) → va_P D vwCl [(h0, eb)] s.heap → va_D A [(h0, eb)] → va_S A s.heap s.heap [] → W p l e rm s m args below meth c s.heap [] 0 0 Q (F0 m 0 ls [])) : x_Cn l D cy s0 y (x_uw y cc nL none) rm h0 av [(h0, eb)] wo mc ms := by
  intro sz hsz0 hh0
  refine Met.ofW (cc := cc) (maxL := nL) (ret := none) hy rfl ?_
  intro p e s m args below meth c s₁ B hml hv
  obtain ⟨rfl, hsz, hN, hP⟩ := hv
  have hts := atoms_spec (ws := x_uw y cc nL none) B.pre
  have hown : s.vm.findClass y.cls = some m.cls := findClass_of_methodNamed B.named
  have hname : meth.name = "<init>" := by rw [← hi]; exact (name_of_methodNamed B.named B.method).1
  have hlocks := B.notSynchronized
  subst hsz
  have hAi : ∀ q, va_A [(h0, eb)] s.heap.size q ↔ (q = h0 ∨ s.heap.size ≤ q) := by
    intro q
    constructor
    · rintro (⟨k, e, hk⟩ | h)
      · left
        match k, hk with
        | 0, hk => cases hk; rfl
        | k + 1, hk => simp at hk
      · exact Or.inr h
    · rintro (rfl | h)
      · exact Or.inl ⟨0, eb, rfl⟩
      · exact Or.inr h
  rw [lg_entry_eq]
  refine body p e s m (Value.ref h0 :: av).toArray below meth c _ _ (va_A [(h0, eb)] s.heap.size) ⟨⟨B.exec, B.bytes, hml, hown, fun w h => hts w (List.mem_cons_of_mem _ h)⟩, hN, hname⟩ (fun q h => Or.inr h) (fun q h => ?_) hAi (fun {pc H locs ls} a hd ha hP hD hS => ?_) (lv_entry _ hn) hP (x_D1 (Or.inl ⟨0, eb, rfl⟩)) va_S.rf
  · rcases (hAi q).mp h with rfl | h
    · exact hh0
    · exact Nat.le_trans hsz0 h
  · exact W.vret B.exec B.bytes B.returns (fun t ht hW => ⟨⟨(), rfl, trivial, a, ha, by rw [ht]; exact hP, hD⟩, hS.F ht⟩) hS.2.2 hd
theorem x_Q_of {cy : Nat → ClassId} {q ad : Nat → Nat} {sp : Nat → x_K} {NC z0 : Nat} {M : x_M} {A : Nat → Prop} (hD : va_D A (x_w cy q ad sp NC M)) (hA0 : ∀ a, A a → z0 ≤ a) : x_Q q NC z0 :=
  ⟨fun i j hi hj h => hD.1 i j _ _ (x_w_get hi) (x_w_get hj) h, fun k hk => hA0 _ (hD.2 k _ (x_w_get hk))⟩
theorem x_A_of {cy : Nat → ClassId} {q ad : Nat → Nat} {sp : Nat → x_K} {NC sz : Nat} {M : x_M} {A : Nat → Prop} (hD : va_D A (x_w cy q ad sp NC M)) (hAi : ∀ a, A a ↔ (a = q 0 ∨ sz ≤ a)) (h0 : 0 < NC) : ∀ a, A a ↔ x_A q NC sz a := by
  intro a
  constructor
  · intro h
    rcases (hAi a).mp h with rfl | h
    · exact Or.inl ⟨0, h0, rfl⟩
    · exact Or.inr h
  · rintro (⟨k, hk, rfl⟩ | h)
    · exact hD.2 k _ (x_w_get hk)
    · exact (hAi a).mpr (Or.inr h)
theorem x_S_to {A B : Nat → Prop} {H0 H : Heap} {locs : List Loc} (hAB : ∀ a, A a → B a) (h : va_S A H0 H locs) : va_S B H0 H locs := ⟨h.1, fun q h1 h2 => h.2.1 q h1 (fun z => h2 (hAB q z)), fun l hl => hAB _ (h.2.2 l hl)⟩
section XL
variable {p : Program} {l : Launch} {e : Env} {R : Room} {s : State} {m : MethodId} {args : Array Value} {below : List Frame} {meth : Method} {c : Code} {H : Heap} {locs : List Loc} {cells slots : Nat} {Q : State → Prop} {cc : ByteArray} {nL pc : Nat} {own : String} {ls : Array Slot} {rest : List Value}
variable {D : va_G} {cy : Nat → ClassId} {s0 : State} {A : Nat → Prop}
/-- what comes back of a constructor, beside the rest -/
theorem x_joinC {b : Nat} {eb : va_E} {wr w1 : va_W} {H1 : Heap} (hP : va_P D vwCl ((b, eb) :: wr) H) (hD : va_D A ((b, eb) :: wr)) (hAA : ∀ q, va_A [(b, eb)] H.size q → A q) (hk1 : ∀ q : Nat, q < H.size → ¬ va_A [(b, eb)] H.size q → H1[q]? = H[q]?) (hP1 : va_P D vwCl w1 H1) (hD1 : va_D (va_A [(b, eb)] H.size) w1) : va_P D vwCl (w1 ++ wr) H1 ∧ va_D A (w1 ++ wr) := by
  have key : ∀ (k : Nat) (x : Nat × va_E), wr[k]? = some x → x.1 < H.size ∧ ¬ va_A [(b, eb)] H.size x.1 := by
    intro k x hk
    have hx := (hP (k + 1) x (by rw [List.getElem?_cons_succ]; exact hk)).lt
    refine ⟨hx, ?_⟩
    rintro (⟨j, e2, hj⟩ | h)
    · match j, hj with
      | 0, hj =>
        rw [List.getElem?_cons_zero] at hj
        have h1 := hD.1 0 (k + 1) (b, eb) x rfl (by rw [List.getElem?_cons_succ]; exact hk) (by cases hj; rfl)
        omega
      | j + 1, hj => simp at hj
    · omega
  refine ⟨va_P.app hP1 (fun k x hk => ?_), va_D.app (hD1.weaken (fun k x _ h => hAA x.1 h)) ⟨fun i j x y hi hj hxy => ?_, fun k x hk => ?_⟩ (fun i j x y hx hy hxy => ?_)⟩
  · obtain ⟨g1, g2⟩ := key k x hk
    exact (hP (k + 1) x (by rw [List.getElem?_cons_succ]; exact hk)).kept (hk1 x.1 g1 g2)
  · have := hD.1 (i + 1) (j + 1) x y (by rw [List.getElem?_cons_succ]; exact hi) (by rw [List.getElem?_cons_succ]; exact hj) hxy
    omega
  · exact hD.2 (k + 1) x (by rw [List.getElem?_cons_succ]; exact hk)
  · exact (key j y hy).2 (by rw [← hxy]; exact hD1.2 i x hx)
theorem x_preC {b : Nat} {eb : va_E} {wr : va_W} {As : List Value} (hN : x_N D cy s0 s) (hP : va_P D vwCl ((b, eb) :: wr) H) (hS : va_S A s.heap H locs) (hA0 : ∀ q, A q → s0.heap.size ≤ q) : PreS s H (va_Pc (.ref b :: As) (fun U => U.heap.size = H.size ∧ x_N D cy s0 U ∧ va_P D vwCl [(b, eb)] U.heap)) (.ref b :: As) := by
  obtain ⟨-, -, -, hz, ho⟩ := id hN
  refine ⟨fun a U g mk h => ⟨h.1, h.2.1, h.2.2.1.same (V := U.calling g mk a) rfl rfl, h.2.2.2⟩, fun U hU hW => ⟨rfl, by rw [hU], hN.warm hW (by rw [hU]; exact Nat.le_trans hz hS.1) (fun a ha => ?_), by rw [hU]; exact hP.sub (ws' := [(b, eb)]) [0] rfl⟩⟩
  rw [hU, hS.2.1 a (Nat.lt_of_lt_of_le ha hz) (fun h => absurd (hA0 a h) (by omega))]
  exact ho a ha
theorem x_ctor {y : MethodName} {bytes : ByteArray} {maxL index n mc ms b : Nat} {rm : Room} {As : List Value} {eb : va_E} {wr : va_W} {wo : (Nat → Nat) → va_W} {st : List Value} (C : CallFix p m c cc nL s args wsU own) (hN : x_N D cy s0 s) (hP : va_P D vwCl ((b, eb) :: wr) H) (hD : va_D A ((b, eb) :: wr)) (hS : va_S A s.heap H locs) (hA : ∀ q, s.heap.size ≤ q → A q) (hA0 : ∀ q, A q → s0.heap.size ≤ q) (hM : x_Cn l D cy s0 y (x_uw y bytes maxL none) rm b As [(b, eb)] wo mc ms)
    (ml : Cond.methodLink own index y ∈ wsU ∨ Cond.methodLinkNest own index y "MilesHall" ∈ x_nest) (mi : Cond.initialized y.cls ∈ wsU ∧ Cond.code y bytes maxL none ∈ wsU ∧ Cond.instanceMethod y ∈ wsU) (md : y.cls ≠ "java/lang/invoke/MethodHandle" ∧ y.cls ≠ "java/lang/invoke/VarHandle" ∧ (parseMethodDescriptor y.desc).map (fun d => d.parameters.length) = some n) (hi : y.name = "<init>") (hrm : rm.cells = mc ∧ rm.slots = ms ∧ rm.frames + 1 ≤ R.frames ∧ 8 + (maxL + 11) + rm.locals ≤ R.locals) (hn : As.length = n) (hsz : ls.size = nL) (hst : st = As.reverse ++ .ref b :: rest) (hrest : (rest.map fun v => v.category).sum ≤ 8) (hdg : decode cc pc = .ok (.invokespecial index, 3)) (hcap : cells + mc ≤ R.cells ∧ slots + ms ≤ R.slots)
    (kk : ∀ (a : Nat → Nat) (H1 : Heap) (locs1 : List Loc), a 0 = b → va_P D vwCl (wo a ++ wr) H1 → va_D A (wo a ++ wr) → va_S A s.heap H1 locs1 → W p l e R s m args below meth c H1 locs1 (cells + mc) (slots + ms) Q (F0 m (pc + 3) ls rest)) : W p l e R s m args below meth c H locs cells slots Q (F0 m pc ls st) := by
  have hL := C.2.2.2.2
  have hAA : ∀ q, va_A [(b, eb)] H.size q → A q := by
    rintro q (⟨k, e2, hk⟩ | h)
    · match k, hk with
      | 0, hk =>
        rw [List.getElem?_cons_zero] at hk
        cases hk
        exact hD.2 0 (b, eb) rfl
      | k + 1, hk => simp at hk
    · exact hA q (Nat.le_trans hS.1 h)
  have hb0 : s0.heap.size ≤ b := hA0 b (hD.2 0 (b, eb) rfl)
  have hM1 := hM H.size (Nat.le_trans hN.2.2.2.1 hS.1) hb0
  have hrun : va_Run p l e R s m args below meth c H locs cells slots mc ms (F0 m pc ls st) rest (va_Qv (fun _ : Unit => True) (fun _ t => ∃ a : Nat → Nat, a 0 = b ∧ va_P D vwCl (wo a) t.heap ∧ va_D (va_A [(b, eb)] H.size) (wo a)) (va_A [(b, eb)] H.size) (Value.ref b :: As).toArray) (va_A [(b, eb)] H.size) := by
    rcases ml with ml | ml
    · exact va_runI (bytes := bytes) (maxL := maxL) (n := n) C hM1 ⟨callB_of n hL (x_uw_good (y := y) (cc := bytes) (n := maxL) (ret := none) mi.2.1) rfl hrm.1 hrm.2.1 (hL _ mi.1) (hL _ ml) md hrm.2.2, hi, hL _ mi.2.2⟩ (x_preC hN hP hS hA0) rfl hn hsz hst (lv_room hrest) hdg hcap
    · exact va_runIN (bytes := bytes) (maxL := maxL) (n := n) (host := "MilesHall") C hM1 ⟨va_cnB n hL (x_uw_good (y := y) (cc := bytes) (n := maxL) (ret := none) mi.2.1) rfl hrm.1 hrm.2.1 (hN.2.1 _ ml) (hL _ mi.1) md hrm.2.2, hi, hL _ mi.2.2⟩ (x_preC hN hP hS hA0) rfl hn hsz hst (lv_room hrest) hdg hcap
  refine va_callv hrun hS (fun q _ h => hAA q h) hAA (fun u t H1 locs1 ht hvm hp hB hz1 hk1 hS => ?_)
  obtain ⟨a, ha, hP1, hD1⟩ := hB
  rw [ht] at hP1
  obtain ⟨g1, g2⟩ := x_joinC hP hD hAA hk1 hP1 hD1
  exact kk a H1 locs1 ha g1 g2 hS
end XL
