/-! ===== the law: both worlds side by side ===== -/
def y_C (p : Program) (s : State) (m : MethodId) (c : Code) (b L : Nat) (xs : Nat → Int32) (D : va_G) (cy : Nat → ClassId) (ad adV : Nat → Nat) : Prop := CallFix p m c code 4 s #[Value.ref b] wsU RL ∧ x_N D cy s s ∧ x_Z s ad adV ∧ va_X b L xs s s.heap ∧ b < s.heap.size
def y_B (D : va_G) (cy : Nat → ClassId) (ad : Nat → Nat) (s : State) (q : Nat → Nat) (NC : Nat) (X : x_M) (qm : Nat → Nat) (M : x_M) (H : Heap) (locs : List Loc) : Prop := va_P D vwCl (x_w cy q ad x_spX NC X) H ∧ va_P D vwCl (x_w cy qm ad x_spM 24 M) H ∧ x_Q q NC s.heap.size ∧ x_Q qm 24 s.heap.size ∧ (∀ i k, i < 24 → k < NC → qm i ≠ q k) ∧ va_S (fun a => s.heap.size ≤ a) s.heap H locs
theorem y_keep {D : va_G} {cl : List vw_C} {ws : va_W} {H H1 : Heap} {A1 : Nat → Prop} (hP : va_P D cl ws H) (hk : ∀ a : Nat, a < H.size → ¬ A1 a → H1[a]? = H[a]?) (hn : ∀ (k : Nat) (x : Nat × va_E), ws[k]? = some x → ¬ A1 x.1) : va_P D cl ws H1 := fun k x hx => (hP k x hx).kept (hk x.1 (hP k x hx).lt (hn k x hx))
theorem y_at {cy : Nat → ClassId} {q ad : Nat → Nat} {sp : Nat → x_K} {NC k : Nat} {M : x_M} {x : Nat × va_E} (h : (x_w cy q ad sp NC M)[k]? = some x) : k < NC ∧ x.1 = q k := by
  by_cases hl : k < NC
  · rw [x_w_get hl] at h
    cases h
    exact ⟨hl, rfl⟩
  · rw [List.getElem?_eq_none (by simp [x_w]; omega)] at h
    cases h
section YL
variable {p : Program} {l : Launch} {e : Env} {s : State} {m : MethodId} {below : List Frame} {meth : Method} {c : Code} {H : Heap} {locs : List Loc} {cells slots : Nat} {Q : State → Prop} {pc b L : Nat} {xs : Nat → Int32} {ls : Array Slot} {rest : List Value}
variable {D : va_G} {cy : Nat → ClassId} {ad adV q qm : Nat → Nat} {NC : Nat} {X M : x_M}
theorem y_ld (C : y_C p s m c b L xs D cy ad adV) (hS : va_S (fun a => s.heap.size ≤ a) s.heap H locs) {k : Nat} (hk : k < L) (hL : L ≤ 3072) (hdg : decode code pc = .ok (.iaload, 1)) (kk : W p l e room_1 s m #[Value.ref b] below meth c H locs cells slots Q (F0 m (pc + 1) ls (.int (xs k) :: rest))) : W p l e room_1 s m #[Value.ref b] below meth c H locs cells slots Q (F0 m pc ls (.int (nI k) :: .ref b :: rest)) := by
  refine va_sld C.1.1 C.1.2.1 C.2.2.2.1 C.2.2.2.2 (Nat.not_le.mpr C.2.2.2.2) hS (vp_in_nI hk (by omega)) hdg ?_
  rw [nI_clamp (by omega)]
  exact kk
theorem y_callX (C : y_C p s m c b L xs D cy ad adV) (hB : y_B D cy ad s q NC X qm M H locs) {y : MethodName} {bytes : ByteArray} {maxL index n : Nat} {rm : Room} {As st : List Value} {z : Int32 × x_M} {T : u_T} {N : Nat} (hM : x_Ci l D cy q ad x_spX NC s y (x_uw y bytes maxL (some .int)) rm (.ref (q 0) :: As) X z.1 z.2) (ml : x_ml RL index y bytes maxL (some .int) n) (mv : x_mv y) (h0 : 0 < NC) (hc : vwCl[11]? = some (y.cls, T, N)) (hrm : rm.cells = 0 ∧ rm.slots = 0 ∧ rm.frames + 1 ≤ 2048 ∧ 8 + (maxL + 11) + rm.locals ≤ 84000) (hn : As.length = n) (hsz : ls.size = 4) (hst : st = As.reverse ++ .ref (q 0) :: rest) (hrest : (rest.map fun v => v.category).sum ≤ 8) (hdg : decode code pc = .ok (.invokevirtual index, 3)) (hcap : cells ≤ 600000 ∧ slots ≤ 7302250)
    (kk : ∀ (H1 : Heap) (locs1 : List Loc), y_B D cy ad s q NC z.2 qm M H1 locs1 → W p l e room_1 s m #[Value.ref b] below meth c H1 locs1 cells slots Q (F0 m (pc + 3) ls (.int z.1 :: rest))) : W p l e room_1 s m #[Value.ref b] below meth c H locs cells slots Q (F0 m pc ls st) := by
  obtain ⟨hP, hPm, hq, hqm, hdis, hS⟩ := hB
  obtain ⟨⟨m1, m2, m3⟩, md⟩ := ml
  have hL := C.1.2.2.2.2
  have hA : ∀ a, x_A q NC H.size a → s.heap.size ≤ a := by
    rintro a (⟨k, hk, rfl⟩ | h)
    · exact hq.2 k hk
    · exact Nat.le_trans hS.1 h
  have hrun : va_Run p l e room_1 s m #[Value.ref b] below meth c H locs cells slots 0 0 (F0 m pc ls st) rest (va_Qi (fun r' (u : x_M) => r' = z.1 ∧ u = z.2) (x_Post D cy q ad x_spX NC) (x_A q NC H.size) (Value.ref (q 0) :: As).toArray) (x_A q NC H.size) :=
    va_runV (C := y.cls) (bytes := bytes) (maxL := maxL) (ret := some .int) (n := n) C.1 (hM H.size) ⟨callB_of n hL (x_uw_good (y := y) (cc := bytes) (n := maxL) (ret := some .int) m3) rfl hrm.1 hrm.2.1 (hL _ m2) (hL _ m1) md hrm.2.2, hL _ mv.1, hL _ mv.2⟩ ⟨x_blind, va_recv C.2.1.1 hP hc (q0 := 0) (by rw [x_w_get h0, sX_0]; rfl), fun U hU hW => (x_preL (As := .ref (q 0) :: As) C.2.1 hP hS (fun _ h => h)).2 U hU hW⟩ rfl hn hsz hst (lv_room hrest) hdg hcap
  refine va_calli hrun hS (fun a _ h => hA a h) hA (fun r' u t H1 locs1 ht hvm hp hB hz1 hk1 hS1 => ?_)
  obtain ⟨rfl, rfl⟩ := hp
  refine kk H1 locs1 ⟨by rw [← ht]; exact hB, y_keep hPm hk1 (fun k x hx => ?_), hq, hqm, hdis, hS1⟩
  obtain ⟨h1, h2⟩ := y_at hx
  have h3 := (hPm k x hx).lt
  rw [h2] at h3 ⊢
  rintro (⟨j, hj, e1⟩ | h)
  · exact hdis k j h1 hj e1
  · omega
theorem y_callM (C : y_C p s m c b L xs D cy ad adV) (hB : y_B D cy ad s q NC X qm M H locs) {y : MethodName} {bytes : ByteArray} {maxL index n : Nat} {rm : Room} {As st : List Value} {z : Int32 × x_M} {T : u_T} {N : Nat} (hM : x_Ci l D cy qm ad x_spM 24 s y (x_uw y bytes maxL (some .int)) rm (.ref (qm 0) :: As) M z.1 z.2) (ml : x_ml RL index y bytes maxL (some .int) n) (mv : x_mv y) (hc : vwCl[12]? = some (y.cls, T, N)) (hrm : rm.cells = 0 ∧ rm.slots = 0 ∧ rm.frames + 1 ≤ 2048 ∧ 8 + (maxL + 11) + rm.locals ≤ 84000) (hn : As.length = n) (hsz : ls.size = 4) (hst : st = As.reverse ++ .ref (qm 0) :: rest) (hrest : (rest.map fun v => v.category).sum ≤ 8) (hdg : decode code pc = .ok (.invokevirtual index, 3)) (hcap : cells ≤ 600000 ∧ slots ≤ 7302250)
    (kk : ∀ (H1 : Heap) (locs1 : List Loc), y_B D cy ad s q NC X qm z.2 H1 locs1 → W p l e room_1 s m #[Value.ref b] below meth c H1 locs1 cells slots Q (F0 m (pc + 3) ls (.int z.1 :: rest))) : W p l e room_1 s m #[Value.ref b] below meth c H locs cells slots Q (F0 m pc ls st) := by
  obtain ⟨hP, hPm, hq, hqm, hdis, hS⟩ := hB
  obtain ⟨⟨m1, m2, m3⟩, md⟩ := ml
  have hL := C.1.2.2.2.2
  have hA : ∀ a, x_A qm 24 H.size a → s.heap.size ≤ a := by
    rintro a (⟨k, hk, rfl⟩ | h)
    · exact hqm.2 k hk
    · exact Nat.le_trans hS.1 h
  have hrun : va_Run p l e room_1 s m #[Value.ref b] below meth c H locs cells slots 0 0 (F0 m pc ls st) rest (va_Qi (fun r' (u : x_M) => r' = z.1 ∧ u = z.2) (x_Post D cy qm ad x_spM 24) (x_A qm 24 H.size) (Value.ref (qm 0) :: As).toArray) (x_A qm 24 H.size) :=
    va_runV (C := y.cls) (bytes := bytes) (maxL := maxL) (ret := some .int) (n := n) C.1 (hM H.size) ⟨callB_of n hL (x_uw_good (y := y) (cc := bytes) (n := maxL) (ret := some .int) m3) rfl hrm.1 hrm.2.1 (hL _ m2) (hL _ m1) md hrm.2.2, hL _ mv.1, hL _ mv.2⟩ ⟨x_blind, va_recv C.2.1.1 hPm hc (q0 := 0) (by rw [x_w_get (show 0 < 24 by decide), sM_0]; rfl), fun U hU hW => (x_preL (As := .ref (qm 0) :: As) C.2.1 hPm hS (fun _ h => h)).2 U hU hW⟩ rfl hn hsz hst (lv_room hrest) hdg hcap
  refine va_calli hrun hS (fun a _ h => hA a h) hA (fun r' u t H1 locs1 ht hvm hp hB hz1 hk1 hS1 => ?_)
  obtain ⟨rfl, rfl⟩ := hp
  refine kk H1 locs1 ⟨y_keep hP hk1 (fun k x hx => ?_), by rw [← ht]; exact hB, hq, hqm, hdis, hS1⟩
  obtain ⟨h1, h2⟩ := y_at hx
  have h3 := (hP k x hx).lt
  rw [h2] at h3 ⊢
  rintro (⟨j, hj, e1⟩ | h)
  · exact hdis j k hj h1 e1.symm
  · omega
theorem y_callT (C : y_C p s m c b L xs D cy ad adV) (hB : y_B D cy ad s q NC X qm M H locs) {index : Nat} {a1 : Int32} {z : (Int32 × Nat) × x_M} (hM : x_Ct l D cy q ad NC s a1 X z) (ml : x_ml RL index yX11_terms cX11_terms 3 (some .int) 1) (mv : x_mv yX11_terms) (h0 : 0 < NC) (hsz : ls.size = 4) (hrest : (rest.map fun v => v.category).sum ≤ 8) (hdg : decode code pc = .ok (.invokevirtual index, 3)) (hcap : cells + 3 ≤ 600000 ∧ slots + 267 ≤ 7302250)
    (kk : ∀ (q' : Nat → Nat) (H1 : Heap) (locs1 : List Loc), q' 0 = q 0 → y_B D cy ad s q' z.1.2 z.2 qm M H1 locs1 → W p l e room_1 s m #[Value.ref b] below meth c H1 locs1 (cells + 3) (slots + 267) Q (F0 m (pc + 3) ls (.int z.1.1 :: rest))) : W p l e room_1 s m #[Value.ref b] below meth c H locs cells slots Q (F0 m pc ls (.int a1 :: .ref (q 0) :: rest)) := by
  obtain ⟨hP, hPm, hq, hqm, hdis, hS⟩ := hB
  obtain ⟨⟨m1, m2, m3⟩, md⟩ := ml
  have hL := C.1.2.2.2.2
  have hA : ∀ a, x_A q NC H.size a → s.heap.size ≤ a := by
    rintro a (⟨k, hk, rfl⟩ | h)
    · exact hq.2 k hk
    · exact Nat.le_trans hS.1 h
  have hrun : va_Run p l e room_1 s m #[Value.ref b] below meth c H locs cells slots 3 267 (F0 m pc ls (.int a1 :: .ref (q 0) :: rest)) rest (va_Qi (fun r' (u : Nat → Nat) => r' = z.1.1 ∧ ∀ k, k < NC → u k = q k) (fun u t => va_P D vwCl (x_w cy u ad x_spX z.1.2 z.2) t.heap ∧ va_D (x_A q NC H.size) (x_w cy u ad x_spX z.1.2 z.2)) (x_A q NC H.size) ([Value.ref (q 0), .int a1]).toArray) (x_A q NC H.size) :=
    va_runV (C := yX11_terms.cls) (bytes := cX11_terms) (maxL := 3) (ret := some .int) (n := 1) C.1 (hM H.size hS.1) ⟨callB_of 1 hL (x_uw_good (y := yX11_terms) (cc := cX11_terms) (n := 3) (ret := some .int) m3) rfl rfl rfl (hL _ m2) (hL _ m1) md ⟨by decide, by decide⟩, hL _ mv.1, hL _ mv.2⟩ ⟨x_blind, va_recv C.2.1.1 hP (ci := 11) rfl (q0 := 0) (by rw [x_w_get h0, sX_0]; rfl), fun U hU hW => (x_preL (As := [.ref (q 0), .int a1]) C.2.1 hP hS (fun _ h => h)).2 U hU hW⟩ rfl rfl hsz rfl (lv_room hrest) hdg hcap
  refine va_calli hrun hS (fun a _ h => hA a h) hA (fun r' u t H1 locs1 ht hvm hp hB hz1 hk1 hS1 => ?_)
  obtain ⟨rfl, hu⟩ := hp
  obtain ⟨hP1, hD1⟩ := hB
  rw [ht] at hP1
  refine kk u H1 locs1 (hu 0 h0) ⟨hP1, y_keep hPm hk1 (fun k x hx => ?_), x_Q_of hD1 hA, hqm, fun i k hi hk e1 => ?_, hS1⟩
  · obtain ⟨h1, h2⟩ := y_at hx
    have h3 := (hPm k x hx).lt
    rw [h2] at h3 ⊢
    rintro (⟨j, hj, e1⟩ | h)
    · exact hdis k j h1 hj e1
    · omega
  · have h3 := (hPm i _ (x_w_get hi)).lt
    have h4 : x_A q NC H.size (u k) := hD1.2 k _ (x_w_get hk)
    have h3 : qm i < H.size := h3
    rcases h4 with ⟨j, hj, e2⟩ | h
    · exact hdis i j hi hj (e1.trans e2)
    · omega
end YL
