/-! ===== the law's loop ===== -/
def y_H (Rl : Nat → x_M → x_M → Prop) : Prop := y_H_member Rl ∧ y_H_is Rl ∧ y_H_pool Rl ∧ y_H_marks Rl ∧ y_H_lay Rl ∧ y_H_days Rl ∧ y_H_rule Rl ∧ y_H_fly Rl ∧ y_H_spend Rl ∧ y_H_gift Rl ∧ y_H_back Rl ∧ y_H_withdraw Rl ∧ y_H_line Rl ∧ y_H_stands Rl ∧ y_H_brought Rl ∧ y_H_owes Rl ∧ y_H_rate Rl ∧ y_H_feed Rl ∧ y_H_trim Rl ∧ y_H_terms Rl ∧ y_H_flight Rl ∧ y_H_ask Rl ∧ y_H_settle Rl ∧ y_H_asked Rl ∧ y_H_open Rl ∧ y_H_offer Rl ∧ y_H_clear Rl ∧ y_H_way Rl ∧ y_H_taken Rl ∧ y_H_tell Rl ∧ y_H_check Rl ∧ y_H_ring Rl ∧ y_H_keep Rl ∧ y_H_again Rl ∧ y_H_sheet Rl ∧ y_H_mark Rl ∧ y_H_copy Rl ∧ y_H_count Rl ∧ ∀ NC X M, Rl NC X M → 94 ≤ NC ∧ NC % 3 = 1
def R_law : String := "MilesHallLaw"
def lw_P (b : Addr) (xs : List Int32) (args : Array Value) (s : State) : Prop := args = #[.ref b] ∧ s.IntsAt b xs ∧ xs.length ≤ 3072 ∧ (Jvm.Cond.and given_1 narrow_1).before args s = true
def lw_Q (_ : Array Value) (s : State) (o : Outcome) (t : State) : Prop := o = .returned (some (.int 1)) ∧ Framed s o t [] 600000 7302250
def lw_Z (below : List Frame) (a : Array Value) (s : State) : State → Prop := fun t => ∃ o, t.status = .running ∧ Ended t below o ∧ lw_Q a s o t
/-- the law's own end, with 1 on the stack, nothing written that was there before, its room as the claim has it -/
theorem lw_ret {p : Program} {l : Launch} {e : Env} {s : State} {m : MethodId} {below : List Frame} {meth : Method} {c : Code} {b : Nat} (hx : p.tables.exec = Jvm.exec) (hb : c.code = code) (hr : meth.sig.returnType = ret) (hlocks : meth.locks = false) {pc : Nat} {H : Heap} {ls : Array Slot} (hdg : decode code pc = .ok (.ireturn, 1)) : W p l e room_1 s m #[Value.ref b] below meth c H [] 600000 7302250 (lw_Z below #[Value.ref b] s) (F0 m pc ls [.int 1]) := by
  intro T hT X
  obtain ⟨fs, hret, hrun, hended, hW, hframe⟩ := X.leave (v := some (.int 1)) (hlocks := hlocks) (fun h => by rw [hr] at h; cases h)
  have hmeth' : T.vm.method? m = some meth := X.method'
  refine ⟨T.setFrames fs, ?_, .returned (some (.int 1)), hrun, hended, rfl, ⟨_, rfl⟩, hW, hframe⟩
  jvm_step X.here [X.here.top, hx, hb, hdg, hmeth', hr, ret, narrow_b1]
  (try refine ⟨rfl, ?_⟩); (try refine ⟨rfl, ?_⟩)
  first | (intro acts; rw [hret _ acts rfl rfl rfl]) | rw [hret _ _ rfl rfl rfl]
  exact Steps.refl _
/-- what holds at the law's entry: the machine, the code, the tables' words (any of lw_tbl by 'hts w (by decide +kernel)'), the script of L ints xs at the cell b, what the Statement gives of the start (any of its parts by flat_of_before) -/
def lw_At (p : Program) (s : State) (m : MethodId) (meth : Method) (c : Code) (b L : Nat) (xs : Nat → Int32) : Prop :=
  p.tables.exec = Jvm.exec ∧ c.code = code ∧ meth.sig.returnType = ret ∧ c.maxLocals = 4 ∧ s.vm.findClass R_law = some m.cls ∧ (∀ w ∈ lw_tbl, w.before #[Value.ref b] s = true) ∧ va_X b L xs s s.heap ∧ b < s.heap.size ∧ meth.locks = false ∧ (Jvm.Cond.and given_1 narrow_1).before #[Value.ref b] s = true
set_option maxHeartbeats 4000000 in
set_option maxRecDepth 100000 in
theorem y_loop {Rl : Nat → x_M → x_M → Prop} {p : Program} {l : Launch} {e : Env} {s : State} {m : MethodId} {below : List Frame} {meth : Method} {c : Code} {b L : Nat} {xs : Nat → Int32} {D : va_G} {cy : Nat → ClassId} {ad adV qm : Nat → Nat} (hE : y_H Rl) (C : y_C p s m c b L xs D cy ad adV) (hL : L ≤ 3072) (hr : meth.sig.returnType = ret) (hlocks : meth.locks = false) : ∀ (n i : Nat) (q : Nat → Nat) (NC : Nat) (X M : x_M) (H : Heap) (locs : List Loc) (ls : Array Slot) (cells slots : Nat), L < i + 6 * n + 6 → i ≤ 3072 → cells + 3 * (n + 1) ≤ 600000 → slots + 267 * (n + 1) ≤ 7302250 → NC + 3 * (n + 1) ≤ 100000 → y_B D cy ad s q NC X qm M H locs → Rl NC X M → lv_has ls 4 [(0, .ref b), (1, .ref (q 0)), (2, .ref (qm 0)), (3, .int (nI i))] → W p l e room_1 s m #[Value.ref b] below meth c H locs cells slots (lw_Z below #[Value.ref b] s) (F0 m 18 ls []) := by
  have hx := C.1.1
  have hb := C.1.2.1
  intro n
  induction n with
  | zero =>
    intro i q NC X M H locs ls cells slots hn hi3 hc hs hNC hB hR hl
    refine lv_iload_n hx hb dL_law_18 rfl (lv_at hl 3 rfl) ?_
    refine lv_aload_n hx hb dL_law_19 rfl (lv_at hl 0 rfl) ?_
    refine va_slen hx hb C.2.2.2.1 C.2.2.2.2 (Nat.not_le.mpr C.2.2.2.2) hB.2.2.2.2.2 dL_law_20 ?_
    refine lv_bipush (v := (nI 6)) hx hb dL_law_21 (by decide) ?_
    refine lv_isub hx hb dL_law_23 ?_
    refine lv_icmp_gt (tgt := 1490) hx hb dL_law_24 (by decide) (fun _ => ?_) (fun h => ?_)
    · refine lv_iconst (v := 1) hx hb dL_law_1490 (by decide) ?_
      refine va_forget (fun q hq => hB.2.2.2.2.2.2.2 q hq) ?_
      refine W.widen (k := 600000) (n := 7302250) (by omega) (by omega) ?_
      exact lw_ret hx hb hr hlocks dL_law_1491
    · refine absurd ?_ h
      show nI L - nI 6 < nI i
      rw [Int32.lt_iff_toInt_lt, pk_sub_toInt (by omega) (by decide), nI_toInt (by omega)]
      omega
  | succ n ih =>
    intro i q NC X M H locs ls cells slots hn hi3 hc hs hNC hB hR hl
    refine lv_iload_n hx hb dL_law_18 rfl (lv_at hl 3 rfl) ?_
    refine lv_aload_n hx hb dL_law_19 rfl (lv_at hl 0 rfl) ?_
    refine va_slen hx hb C.2.2.2.1 C.2.2.2.2 (Nat.not_le.mpr C.2.2.2.2) hB.2.2.2.2.2 dL_law_20 ?_
    refine lv_bipush (v := (nI 6)) hx hb dL_law_21 (by decide) ?_
    refine lv_isub hx hb dL_law_23 ?_
    refine lv_icmp_gt (tgt := 1490) hx hb dL_law_24 (by decide) (fun _ => ?_) (fun h => ?_)
    · refine lv_iconst (v := 1) hx hb dL_law_1490 (by decide) ?_
      refine va_forget (fun q hq => hB.2.2.2.2.2.2.2 q hq) ?_
      refine W.widen (k := 600000) (n := 7302250) (by omega) (by omega) ?_
      exact lw_ret hx hb hr hlocks dL_law_1491
    · have hi : i + 6 ≤ L := by
        have h : ¬ (nI L - nI 6 < nI i) := h
        rw [Int32.lt_iff_toInt_lt, pk_sub_toInt (by omega) (by decide), nI_toInt (by omega)] at h
        omega
      have hNb := hE.2.2.2.2.2.2.2.2.2.2.2.2.2.2.2.2.2.2.2.2.2.2.2.2.2.2.2.2.2.2.2.2.2.2.2.2.2.2 NC X M hR
      have hN : 94 ≤ NC ∧ NC % 3 = 1 ∧ NC + 3 ≤ 100000 := ⟨hNb.1, hNb.2, by omega⟩
      have hcap : cells + 3 ≤ 600000 ∧ slots + 267 ≤ 7302250 := ⟨by omega, by omega⟩
      have K : ∀ (q' : Nat → Nat) (NC' : Nat) (X' M' : x_M) (H : Heap) (locs : List Loc), y_B D cy ad s q' NC' X' qm M' H locs → Rl NC' X' M' → NC' ≤ NC + 3 → q' 0 = q 0 → W p l e room_1 s m #[Value.ref b] below meth c H locs (cells + 3) (slots + 267) (lw_Z below #[Value.ref b] s) (F0 m 1484 ls []) := by
        intro q' NC' X' M' H locs hB hR hNN hq0
        refine lv_iinc (lv' := [(3, .int _), (0, .ref b), (1, .ref (q 0)), (2, .ref (qm 0))]) hx hb dL_law_1484 hl (k := 3) rfl (x_inc (show Int32.ofInt 6 = (nI 6) by decide) _) (by decide) rfl (fun ls hl => ?_)
        refine lv_goto (tgt := 18) hx hb dL_law_1487 (by decide) ?_
        rw [z_add] at hl
        refine ih (i + 6) q' NC' X' M' H locs ls (cells + 3) (slots + 267) (by omega) (by omega) (by omega) (by omega) (by omega) hB hR ?_
        rw [hq0]
        exact lv_sub hl [1, 2, 3, 0] rfl
      refine lv_aload_n hx hb dL_law_27 rfl (lv_at hl 0 rfl) ?_
      refine lv_iload_n hx hb dL_law_28 rfl (lv_at hl 3 rfl) ?_
      refine y_ld C hB.2.2.2.2.2 (show i < L by omega) hL dL_law_29 ?_
      refine lv_bipush (v := (nI 63)) hx hb dL_law_30 (by decide) ?_
      refine lv_iand hx hb dL_law_32 ?_
      obtain ⟨u, hu, eu⟩ := pk_andE (xs i) (m := nI 63) 6 (by decide)
      rw [eu]
      match u, hu with
      | 0, _ => exact lv_tableIn (x := nI 0) hx hb dL_law_33 (by decide) (by decide) (off := 167) rfl (tgt := 200) (by decide) (y_c_member hE.1 C hB hR hN hL hi hl hcap K)
      | 1, _ => exact lv_tableIn (x := nI 1) hx hb dL_law_33 (by decide) (by decide) (off := 200) rfl (tgt := 233) (by decide) (y_c_is hE.2.1 C hB hR hN hL hi hl hcap K)
      | 2, _ => exact lv_tableIn (x := nI 2) hx hb dL_law_33 (by decide) (by decide) (off := 233) rfl (tgt := 266) (by decide) (y_c_pool hE.2.2.1 C hB hR hN hL hi hl hcap K)
      | 3, _ => exact lv_tableIn (x := nI 3) hx hb dL_law_33 (by decide) (by decide) (off := 266) rfl (tgt := 299) (by decide) (y_c_marks hE.2.2.2.1 C hB hR hN hL hi hl hcap K)
      | 4, _ => exact lv_tableIn (x := nI 4) hx hb dL_law_33 (by decide) (by decide) (off := 299) rfl (tgt := 332) (by decide) (y_c_lay hE.2.2.2.2.1 C hB hR hN hL hi hl hcap K)
      | 5, _ => exact lv_tableIn (x := nI 5) hx hb dL_law_33 (by decide) (by decide) (off := 322) rfl (tgt := 355) (by decide) (y_c_days hE.2.2.2.2.2.1 C hB hR hN hL hi hl hcap K)
      | 6, _ => exact lv_tableIn (x := nI 6) hx hb dL_law_33 (by decide) (by decide) (off := 345) rfl (tgt := 378) (by decide) (y_c_rule hE.2.2.2.2.2.2.1 C hB hR hN hL hi hl hcap K)
      | 7, _ => exact lv_tableIn (x := nI 7) hx hb dL_law_33 (by decide) (by decide) (off := 378) rfl (tgt := 411) (by decide) (y_c_fly hE.2.2.2.2.2.2.2.1 C hB hR hN hL hi hl hcap K)
      | 8, _ => exact lv_tableIn (x := nI 8) hx hb dL_law_33 (by decide) (by decide) (off := 441) rfl (tgt := 474) (by decide) (y_c_spend hE.2.2.2.2.2.2.2.2.1 C hB hR hN hL hi hl hcap K)
      | 9, _ => exact lv_tableIn (x := nI 9) hx hb dL_law_33 (by decide) (by decide) (off := 494) rfl (tgt := 527) (by decide) (y_c_gift hE.2.2.2.2.2.2.2.2.2.1 C hB hR hN hL hi hl hcap K)
      | 10, _ => exact lv_tableIn (x := nI 10) hx hb dL_law_33 (by decide) (by decide) (off := 547) rfl (tgt := 580) (by decide) (y_c_back hE.2.2.2.2.2.2.2.2.2.2.1 C hB hR hN hL hi hl hcap K)
      | 11, _ => exact lv_tableIn (x := nI 11) hx hb dL_law_33 (by decide) (by decide) (off := 580) rfl (tgt := 613) (by decide) (y_c_withdraw hE.2.2.2.2.2.2.2.2.2.2.2.1 C hB hR hN hL hi hl hcap K)
      | 12, _ => exact lv_tableIn (x := nI 12) hx hb dL_law_33 (by decide) (by decide) (off := 603) rfl (tgt := 636) (by decide) (y_c_line hE.2.2.2.2.2.2.2.2.2.2.2.2.1 C hB hR hN hL hi hl hcap K)
      | 13, _ => exact lv_tableIn (x := nI 13) hx hb dL_law_33 (by decide) (by decide) (off := 636) rfl (tgt := 669) (by decide) (y_c_stands hE.2.2.2.2.2.2.2.2.2.2.2.2.2.1 C hB hR hN hL hi hl hcap K)
      | 14, _ => exact lv_tableIn (x := nI 14) hx hb dL_law_33 (by decide) (by decide) (off := 689) rfl (tgt := 722) (by decide) (y_c_brought hE.2.2.2.2.2.2.2.2.2.2.2.2.2.2.1 C hB hR hN hL hi hl hcap K)
      | 15, _ => exact lv_tableIn (x := nI 15) hx hb dL_law_33 (by decide) (by decide) (off := 732) rfl (tgt := 765) (by decide) (y_c_owes hE.2.2.2.2.2.2.2.2.2.2.2.2.2.2.2.1 C hB hR hN hL hi hl hcap K)
      | 16, _ => exact lv_tableIn (x := nI 16) hx hb dL_law_33 (by decide) (by decide) (off := 775) rfl (tgt := 808) (by decide) (y_c_rate hE.2.2.2.2.2.2.2.2.2.2.2.2.2.2.2.2.1 C hB hR hN hL hi hl hcap K)
      | 17, _ => exact lv_tableIn (x := nI 17) hx hb dL_law_33 (by decide) (by decide) (off := 818) rfl (tgt := 851) (by decide) (y_c_feed hE.2.2.2.2.2.2.2.2.2.2.2.2.2.2.2.2.2.1 C hB hR hN hL hi hl hcap K)
      | 18, _ => exact lv_tableIn (x := nI 18) hx hb dL_law_33 (by decide) (by decide) (off := 861) rfl (tgt := 894) (by decide) (y_c_trim hE.2.2.2.2.2.2.2.2.2.2.2.2.2.2.2.2.2.2.1 C hB hR hN hL hi hl hcap K)
      | 19, _ => exact lv_tableIn (x := nI 19) hx hb dL_law_33 (by decide) (by decide) (off := 884) rfl (tgt := 917) (by decide) (y_c_terms hE.2.2.2.2.2.2.2.2.2.2.2.2.2.2.2.2.2.2.2.1 C hB hR hN hL hi hl hcap K)
      | 20, _ => exact lv_tableIn (x := nI 20) hx hb dL_law_33 (by decide) (by decide) (off := 907) rfl (tgt := 940) (by decide) (y_c_flight hE.2.2.2.2.2.2.2.2.2.2.2.2.2.2.2.2.2.2.2.2.1 C hB hR hN hL hi hl hcap K)
      | 21, _ => exact lv_tableIn (x := nI 21) hx hb dL_law_33 (by decide) (by decide) (off := 960) rfl (tgt := 993) (by decide) (y_c_ask hE.2.2.2.2.2.2.2.2.2.2.2.2.2.2.2.2.2.2.2.2.2.1 C hB hR hN hL hi hl hcap K)
      | 22, _ => exact lv_tableIn (x := nI 22) hx hb dL_law_33 (by decide) (by decide) (off := 1003) rfl (tgt := 1036) (by decide) (y_c_settle hE.2.2.2.2.2.2.2.2.2.2.2.2.2.2.2.2.2.2.2.2.2.2.1 C hB hR hN hL hi hl hcap K)
      | 23, _ => exact lv_tableIn (x := nI 23) hx hb dL_law_33 (by decide) (by decide) (off := 1026) rfl (tgt := 1059) (by decide) (y_c_asked hE.2.2.2.2.2.2.2.2.2.2.2.2.2.2.2.2.2.2.2.2.2.2.2.1 C hB hR hN hL hi hl hcap K)
      | 24, _ => exact lv_tableIn (x := nI 24) hx hb dL_law_33 (by decide) (by decide) (off := 1059) rfl (tgt := 1092) (by decide) (y_c_open hE.2.2.2.2.2.2.2.2.2.2.2.2.2.2.2.2.2.2.2.2.2.2.2.2.1 C hB hR hN hL hi hl hcap K)
      | 25, _ => exact lv_tableIn (x := nI 25) hx hb dL_law_33 (by decide) (by decide) (off := 1082) rfl (tgt := 1115) (by decide) (y_c_offer hE.2.2.2.2.2.2.2.2.2.2.2.2.2.2.2.2.2.2.2.2.2.2.2.2.2.1 C hB hR hN hL hi hl hcap K)
      | 26, _ => exact lv_tableIn (x := nI 26) hx hb dL_law_33 (by decide) (by decide) (off := 1125) rfl (tgt := 1158) (by decide) (y_c_clear hE.2.2.2.2.2.2.2.2.2.2.2.2.2.2.2.2.2.2.2.2.2.2.2.2.2.2.1 C hB hR hN hL hi hl hcap K)
      | 27, _ => exact lv_tableIn (x := nI 27) hx hb dL_law_33 (by decide) (by decide) (off := 1138) rfl (tgt := 1171) (by decide) (y_c_way hE.2.2.2.2.2.2.2.2.2.2.2.2.2.2.2.2.2.2.2.2.2.2.2.2.2.2.2.1 C hB hR hN hL hi hl hcap K)
      | 28, _ => exact lv_tableIn (x := nI 28) hx hb dL_law_33 (by decide) (by decide) (off := 1161) rfl (tgt := 1194) (by decide) (y_c_taken hE.2.2.2.2.2.2.2.2.2.2.2.2.2.2.2.2.2.2.2.2.2.2.2.2.2.2.2.2.1 C hB hR hN hL hi hl hcap K)
      | 29, _ => exact lv_tableIn (x := nI 29) hx hb dL_law_33 (by decide) (by decide) (off := 1194) rfl (tgt := 1227) (by decide) (y_c_tell hE.2.2.2.2.2.2.2.2.2.2.2.2.2.2.2.2.2.2.2.2.2.2.2.2.2.2.2.2.2.1 C hB hR hN hL hi hl hcap K)
      | 30, _ => exact lv_tableIn (x := nI 30) hx hb dL_law_33 (by decide) (by decide) (off := 1217) rfl (tgt := 1250) (by decide) (y_c_check hE.2.2.2.2.2.2.2.2.2.2.2.2.2.2.2.2.2.2.2.2.2.2.2.2.2.2.2.2.2.2.1 C hB hR hN hL hi hl hcap K)
      | 31, _ => exact lv_tableIn (x := nI 31) hx hb dL_law_33 (by decide) (by decide) (off := 1240) rfl (tgt := 1273) (by decide) (y_c_ring hE.2.2.2.2.2.2.2.2.2.2.2.2.2.2.2.2.2.2.2.2.2.2.2.2.2.2.2.2.2.2.2.1 C hB hR hN hL hi hl hcap K)
      | 32, _ => exact lv_tableIn (x := nI 32) hx hb dL_law_33 (by decide) (by decide) (off := 1263) rfl (tgt := 1296) (by decide) (y_c_keep hE.2.2.2.2.2.2.2.2.2.2.2.2.2.2.2.2.2.2.2.2.2.2.2.2.2.2.2.2.2.2.2.2.1 C hB hR hN hL hi hl hcap K)
      | 33, _ => exact lv_tableIn (x := nI 33) hx hb dL_law_33 (by decide) (by decide) (off := 1276) rfl (tgt := 1309) (by decide) (y_c_again hE.2.2.2.2.2.2.2.2.2.2.2.2.2.2.2.2.2.2.2.2.2.2.2.2.2.2.2.2.2.2.2.2.2.1 C hB hR hN hL hi hl hcap K)
      | 34, _ => exact lv_tableIn (x := nI 34) hx hb dL_law_33 (by decide) (by decide) (off := 1289) rfl (tgt := 1322) (by decide) (y_c_sheet hE.2.2.2.2.2.2.2.2.2.2.2.2.2.2.2.2.2.2.2.2.2.2.2.2.2.2.2.2.2.2.2.2.2.2.1 C hB hR hN hL hi hl hcap K)
      | 35, _ => exact lv_tableIn (x := nI 35) hx hb dL_law_33 (by decide) (by decide) (off := 1322) rfl (tgt := 1355) (by decide) (y_c_mark hE.2.2.2.2.2.2.2.2.2.2.2.2.2.2.2.2.2.2.2.2.2.2.2.2.2.2.2.2.2.2.2.2.2.2.2.1 C hB hR hN hL hi hl hcap K)
      | 36, _ => exact lv_tableIn (x := nI 36) hx hb dL_law_33 (by decide) (by decide) (off := 1365) rfl (tgt := 1398) (by decide) (y_c_copy hE.2.2.2.2.2.2.2.2.2.2.2.2.2.2.2.2.2.2.2.2.2.2.2.2.2.2.2.2.2.2.2.2.2.2.2.2.1 C hB hR hN hL hi hl hcap K)
      | 37, _ => exact lv_tableIn (x := nI 37) hx hb dL_law_33 (by decide) (by decide) (off := 1428) rfl (tgt := 1461) (by decide) (y_c_count hE.2.2.2.2.2.2.2.2.2.2.2.2.2.2.2.2.2.2.2.2.2.2.2.2.2.2.2.2.2.2.2.2.2.2.2.2.2.1 C hB hR hN hL hi hl hcap K)
      | u + 38, hu =>
        refine lv_tableOut hx hb dL_law_33 (Or.inr ?_) (tgt := 1484) (by decide) (W.widen (k := cells + 3) (n := slots + 267) (by omega) (by omega) (K q NC X M H locs hB hR (by omega) rfl))
        rw [nI_toInt (by omega)]
        omega
