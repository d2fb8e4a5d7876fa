/-! ===== texts, statics, TERMS ===== -/
def x_txi : List (Nat × String) := [(22, ""), (82, "earn"), (84, "lapse"), (86, "price"), (88, "tier"), (90, "lfpctk"), (92, "tk"), (94, "lfodtk"), (96, "q"), (98, "|"), (100, "&"), (102, "<=>"), (104, "+-"), (106, "*/"), (164, "!"), (169, "("), (177, ")")]
def x_len : List Nat := [0, 4, 5, 5, 4, 6, 2, 6, 1, 1, 1, 3, 2, 2, 1, 1, 1]
def x_byt : List (List Int32) := [[], [101, 97, 114, 110], [108, 97, 112, 115, 101], [112, 114, 105, 99, 101], [116, 105, 101, 114], [108, 102, 112, 99, 116, 107], [116, 107], [108, 102, 111, 100, 116, 107], [113], [124], [38], [60, 61, 62], [43, 45], [42, 47], [33], [40], [41]]
def x_least : Nat → Int32 := fun i => match i with
  | 1 => nI 1
  | _ => nI 0
def x_most : Nat → Int32 := fun i => match i with
  | 0 => nI 360
  | _ => nI 999
/-- what is known at the law's start of the texts and of the statics -/
def x_Z (s0 : State) (ad adV : Nat → Nat) : Prop := (vk_S 17 x_len x_byt ad adV (fun a => s0.heap.size ≤ a) s0 s0.heap ∧ ∀ (i : Nat) (t : Nat × String), x_txi[i]? = some t → vk_R "MilesHall$Tape" t.1 t.2 (ad i) s0) ∧
  va_Z "java/lang/String" "COMPACT_STRINGS" "Z" (.int 1) (fun a => s0.heap.size ≤ a) s0 s0.heap ∧ va_Zq "jdk/internal/util/Preconditions" "SIOOBE_FORMATTER" "Ljava/util/function/BiFunction;" (fun a => s0.heap.size ≤ a) s0 s0.heap ∧
  (∃ t : Nat, va_Z "MilesHall" "LEAST_RULE" "[I" (.ref t) (fun a => s0.heap.size ≤ a) s0 s0.heap ∧ va_T .int t 3 (fun i => .int (x_least i)) (fun a => s0.heap.size ≤ a) s0 s0.heap) ∧
  (∃ t : Nat, va_Z "MilesHall" "MOST_RULE" "[I" (.ref t) (fun a => s0.heap.size ≤ a) s0 s0.heap ∧ va_T .int t 3 (fun i => .int (x_most i)) (fun a => s0.heap.size ≤ a) s0 s0.heap) ∧ va_AO "MilesHall$Terms" s0
def x_ch {α : Type} (x : Int32) (K : Option α) : Option α := if 0 ≤ x ∧ x < nI 65536 then K else none
theorem x_ch_some {α : Type} {x : Int32} {K : Option α} {z : α} (h : x_ch x K = some z) : narrow .char (.int x) = .int x ∧ K = some z := by
  unfold x_ch at h
  by_cases c : 0 ≤ x ∧ x < nI 65536
  · rw [if_pos c] at h
    refine ⟨?_, h⟩
    obtain ⟨c1, c2⟩ := c
    obtain ⟨j, h1, rfl⟩ := nI_of (x := x) (Int32.not_lt.mpr c1)
    have h2 : j < 65536 := (nI_ltI h1 (by decide)).mp c2
    exact (pk_charN h2).1
  · rw [if_neg c] at h; cases h
def x_cs {α : Type} (t : Int32) (K : Option α) : Option α := if t.toNatClampNeg < 17 then K else none
theorem x_cs_some {α : Type} {t : Int32} {K : Option α} {z : α} (h : x_cs t K = some z) : t.toNatClampNeg < 17 ∧ K = some z := by
  unfold x_cs at h
  by_cases c : t.toNatClampNeg < 17
  · rw [if_pos c] at h; exact ⟨c, h⟩
  · rw [if_neg c] at h; cases h
def x_rs {α : Type} (t i : Int32) (K : Int32 → Option α) : Option α := if t.toNatClampNeg < 17 then x_rd (x_len.getD t.toNatClampNeg 0) (fun j => (x_byt.getD t.toNatClampNeg []).getD j 0) i K else none
theorem x_rs_some {α : Type} {t i : Int32} {K : Int32 → Option α} {z : α} (h : x_rs t i K = some z) : t.toNatClampNeg < 17 ∧ vp_in i (x_len.getD t.toNatClampNeg 0) ∧ K ((x_byt.getD t.toNatClampNeg []).getD i.toNatClampNeg 0) = some z := by
  unfold x_rs at h
  by_cases c : t.toNatClampNeg < 17
  · rw [if_pos c] at h; exact ⟨c, x_rd_some h⟩
  · rw [if_neg c] at h; cases h
def x_ls {α : Type} (t : Int32) (K : Int32 → Option α) : Option α := if t.toNatClampNeg < 17 then K (nI (x_len.getD t.toNatClampNeg 0)) else none
theorem x_ls_some {α : Type} {t : Int32} {K : Int32 → Option α} {z : α} (h : x_ls t K = some z) : t.toNatClampNeg < 17 ∧ K (nI (x_len.getD t.toNatClampNeg 0)) = some z := by
  unfold x_ls at h
  by_cases c : t.toNatClampNeg < 17
  · rw [if_pos c] at h; exact ⟨c, h⟩
  · rw [if_neg c] at h; cases h
def x_vl {α : Type} (v : Int32) (K : Int32 → Option α) : Option α := K v
/-- t names TERMS: their cell's place is t - 1 -/
def x_tk {α : Type} (NC : Nat) (t : Int32) (K : Option α) : Option α := if 88 < t.toNatClampNeg ∧ t.toNatClampNeg ≤ NC ∧ (t.toNatClampNeg - 89) % 3 = 0 ∧ t.toNatClampNeg + 1 < NC then K else none
theorem x_tk_some {α : Type} {NC : Nat} {t : Int32} {K : Option α} {z : α} (h : x_tk NC t K = some z) : (88 < t.toNatClampNeg ∧ t.toNatClampNeg ≤ NC ∧ (t.toNatClampNeg - 89) % 3 = 0 ∧ t.toNatClampNeg + 1 < NC) ∧ K = some z := by
  unfold x_tk at h
  by_cases c : 88 < t.toNatClampNeg ∧ t.toNatClampNeg ≤ NC ∧ (t.toNatClampNeg - 89) % 3 = 0 ∧ t.toNatClampNeg + 1 < NC
  · rw [if_pos c] at h; exact ⟨c, h⟩
  · rw [if_neg c] at h; cases h
theorem x_tk_sp {NC : Nat} {t : Int32} (c : 88 < t.toNatClampNeg ∧ t.toNatClampNeg ≤ NC ∧ (t.toNatClampNeg - 89) % 3 = 0 ∧ t.toNatClampNeg + 1 < NC) : x_spX (t.toNatClampNeg - 1) = .inr (8, [(0, 0), (1, t.toNatClampNeg), (1, t.toNatClampNeg + 1)]) ∧ x_spX t.toNatClampNeg = .inl (5, 0) ∧ x_spX (t.toNatClampNeg + 1) = .inl (0, 4) := by
  obtain ⟨h1, h2, h3, h4⟩ := c
  refine ⟨?_, ?_, ?_⟩
  · unfold x_spX
    rw [if_neg (by omega), if_pos (by omega), show t.toNatClampNeg - 1 + 1 = t.toNatClampNeg by omega, show t.toNatClampNeg - 1 + 2 = t.toNatClampNeg + 1 by omega]
  · unfold x_spX
    rw [if_neg (by omega), if_neg (by omega), if_pos (by omega)]
  · unfold x_spX
    rw [if_neg (by omega), if_neg (by omega), if_neg (by omega)]
section XT
variable {p : Program} {l : Launch} {e : Env} {R : Room} {s : State} {m : MethodId} {args : Array Value} {below : List Frame} {meth : Method} {c : Code} {H : Heap} {locs : List Loc} {cells slots : Nat} {Q : State → Prop} {cc : ByteArray} {nL pc : Nat} {own : String} {ls : Array Slot} {rest : List Value}
variable {D : va_G} {cy : Nat → ClassId} {q ad adV : Nat → Nat} {sp : Nat → x_K} {NC : Nat} {s0 : State} {M : x_M} {α : Type} {z : α}
theorem x_lowA (C : x_C p s m args c cc nL own D cy q NC s0) : ∀ a, x_A q NC s.heap.size a → s0.heap.size ≤ a := by
  rintro a (⟨k, hk, rfl⟩ | h)
  · exact C.2.2.2 k hk
  · exact Nat.le_trans C.2.1.2.2.2.1 h
theorem x_lowO (C : x_C p s m args c cc nL own D cy q NC s0) : ∀ a : Nat, a < s0.heap.size → ¬ (fun a => s0.heap.size ≤ a) a → s.heap[a]? = s0.heap[a]? := fun a ha _ => C.2.1.2.2.2.2 a ha
theorem x_lowS (C : x_C p s m args c cc nL own D cy q NC s0) (hz : x_Z s0 ad adV) : vk_S 17 x_len x_byt ad adV (x_A q NC s.heap.size) s s.heap := ((hz.1.1.moved C.2.1.2.2.1.alike).kept (x_lowO C)).narrow (x_lowA C)
theorem x_lowZ {K n d : String} {v : Value} (C : x_C p s m args c cc nL own D cy q NC s0) (h : va_Z K n d v (fun a => s0.heap.size ≤ a) s0 s0.heap) : va_Z K n d v (x_A q NC s.heap.size) s s.heap := ((h.moved C.2.1.2.2.1.alike).kept (x_lowO C)).narrow (x_lowA C)
theorem x_lowT {ty : FieldType} {t N : Nat} {f : Nat → Value} (C : x_C p s m args c cc nL own D cy q NC s0) (h : va_T ty t N f (fun a => s0.heap.size ≤ a) s0 s0.heap) : va_T ty t N f (x_A q NC s.heap.size) s s.heap := ((h.moved C.2.1.2.2.1.alike).kept (x_lowO C)).narrow (x_lowA C)
/-- a text's constant -/
theorem xh_ldcS (C : x_C p s m args c cc nL "MilesHall$Tape" D cy q NC s0) (hz : x_Z s0 ad adV) (i : Nat) {index : Nat} {tx : String} (hi : x_txi[i]? = some (index, tx)) {v : Int32} (hv : v.toNatClampNeg = i) (hdg : decode cc pc = .ok (.ldc index, 2))
    (kk : W p l e R s m args below meth c H locs cells slots Q (F0 m (pc + 2) ls (.ref (ad v.toNatClampNeg) :: rest))) : W p l e R s m args below meth c H locs cells slots Q (F0 m pc ls rest) := by
  subst hv
  exact va_ldcS C.1.1 C.1.2.1 C.1.2.2.2.1 (vk_R.warm C.2.1.2.2.1 (hz.1.2 _ _ hi)) hdg kk
theorem xh_strV (C : x_C p s m args c cc nL own D cy q NC s0) (hw : x_B D cy q ad sp NC s H locs M) (hz : x_Z s0 ad adV) {t : Int32} {index : Nat} {K : Option α} (h : x_cs t K = some z) (hl : Cond.fieldLink own index "java/lang/String" "value" "[B" ∈ wsU) (hdg : decode cc pc = .ok (.getfield index, 3))
    (kk : K = some z → W p l e R s m args below meth c H locs cells slots Q (F0 m (pc + 3) ls (.ref (adV t.toNatClampNeg) :: rest))) : W p l e R s m args below meth c H locs cells slots Q (F0 m pc ls (.ref (ad t.toNatClampNeg) :: rest)) :=
  vk_getf C.1.1 C.1.2.1 ((x_lowS C hz).1 _ (x_cs_some h).1).2.2.1 hw.2 C.1.2.2.2.1 (C.1.2.2.2.2 _ hl) (fun _ h => h) hdg (kk (x_cs_some h).2)
theorem xh_strC (C : x_C p s m args c cc nL own D cy q NC s0) (hw : x_B D cy q ad sp NC s H locs M) (hz : x_Z s0 ad adV) {t : Int32} {index : Nat} {K : Option α} (h : x_cs t K = some z) (hl : Cond.fieldLink own index "java/lang/String" "coder" "B" ∈ wsU) (hdg : decode cc pc = .ok (.getfield index, 3))
    (kk : K = some z → W p l e R s m args below meth c H locs cells slots Q (F0 m (pc + 3) ls (.int (nI 0) :: rest))) : W p l e R s m args below meth c H locs cells slots Q (F0 m pc ls (.ref (ad t.toNatClampNeg) :: rest)) :=
  vk_getf C.1.1 C.1.2.1 ((x_lowS C hz).1 _ (x_cs_some h).1).2.1 hw.2 C.1.2.2.2.1 (C.1.2.2.2.2 _ hl) (fun _ h => h) hdg (kk (x_cs_some h).2)
theorem xh_tb (C : x_C p s m args c cc nL own D cy q NC s0) (hw : x_B D cy q ad sp NC s H locs M) (hz : x_Z s0 ad adV) {t i : Int32} {K : Int32 → Option α} (h : x_rs t i K = some z) (hdg : decode cc pc = .ok (.baload, 1))
    (kk : ∀ r, K r = some z → W p l e R s m args below meth c H locs cells slots Q (F0 m (pc + 1) ls (.int r :: rest))) : W p l e R s m args below meth c H locs cells slots Q (F0 m pc ls (.int i :: .ref (adV t.toNatClampNeg) :: rest)) :=
  va_tb C.1.1 C.1.2.1 ((x_lowS C hz).1 _ (x_rs_some h).1).2.2.2 hw.2 (x_rs_some h).2.1 rfl hdg (kk _ (x_rs_some h).2.2)
theorem xh_tlen (C : x_C p s m args c cc nL own D cy q NC s0) (hw : x_B D cy q ad sp NC s H locs M) (hz : x_Z s0 ad adV) {t : Int32} {K : Int32 → Option α} (h : x_ls t K = some z) (hdg : decode cc pc = .ok (.arraylength, 1))
    (kk : ∀ r, K r = some z → W p l e R s m args below meth c H locs cells slots Q (F0 m (pc + 1) ls (.int r :: rest))) : W p l e R s m args below meth c H locs cells slots Q (F0 m pc ls (.ref (adV t.toNatClampNeg) :: rest)) :=
  va_tlen C.1.1 C.1.2.1 ((x_lowS C hz).1 _ (x_ls_some h).1).2.2.2 hw.2 (v := nI (x_len.getD t.toNatClampNeg 0)) rfl hdg (kk _ (x_ls_some h).2)
theorem xh_comp (C : x_C p s m args c cc nL own D cy q NC s0) (hw : x_B D cy q ad sp NC s H locs M) (hz : x_Z s0 ad adV) {index : Nat} (hl : Cond.fieldLink own index "java/lang/String" "COMPACT_STRINGS" "Z" ∈ wsU) (hdg : decode cc pc = .ok (.getstatic index, 3))
    (kk : W p l e R s m args below meth c H locs cells slots Q (F0 m (pc + 3) ls (.int (nI 1) :: rest))) : W p l e R s m args below meth c H locs cells slots Q (F0 m pc ls rest) :=
  va_gets C.1.1 C.1.2.1 (x_lowZ C hz.2.1) hw.2 C.1.2.2.2.1 (C.1.2.2.2.2 _ hl) (fun _ h => h) hdg kk
theorem xh_sio (C : x_C p s m args c cc nL own D cy q NC s0) (hw : x_B D cy q ad sp NC s H locs M) (hz : x_Z s0 ad adV) {index : Nat} (hl : Cond.fieldLink own index "jdk/internal/util/Preconditions" "SIOOBE_FORMATTER" "Ljava/util/function/BiFunction;" ∈ wsU) (hdg : decode cc pc = .ok (.getstatic index, 3))
    (k0 : W p l e R s m args below meth c H locs cells slots Q (F0 m (pc + 3) ls (.null :: rest))) (k1 : ∀ t : Nat, W p l e R s m args below meth c H locs cells slots Q (F0 m (pc + 3) ls (.ref t :: rest))) : W p l e R s m args below meth c H locs cells slots Q (F0 m pc ls rest) := by
  rcases hz.2.2.1 with h | ⟨t, h⟩
  · exact va_gets C.1.1 C.1.2.1 (x_lowZ C h) hw.2 C.1.2.2.2.1 (C.1.2.2.2.2 _ hl) (fun _ h => h) hdg k0
  · exact va_gets C.1.1 C.1.2.1 (x_lowZ C h) hw.2 C.1.2.2.2.1 (C.1.2.2.2.2 _ hl) (fun _ h => h) hdg (k1 t)
/-- the static array, read at once behind getstatic and one load of a number -/
theorem xh_least (C : x_C p s m args c cc nL own D cy q NC s0) (hw : x_B D cy q ad sp NC s H locs M) (hz : x_Z s0 ad adV) {index : Nat} (hl : Cond.fieldLink own index "MilesHall" "LEAST_RULE" "[I" ∈ wsU) (hdg : decode cc pc = .ok (.getstatic index, 3))
    (kk : ∀ t : Nat, va_T .int t 3 (fun i => .int (x_least i)) (x_A q NC s.heap.size) s s.heap → W p l e R s m args below meth c H locs cells slots Q (F0 m (pc + 3) ls (.ref t :: rest))) : W p l e R s m args below meth c H locs cells slots Q (F0 m pc ls rest) := by
  obtain ⟨t, h1, h2⟩ := hz.2.2.2.1
  exact va_gets C.1.1 C.1.2.1 (x_lowZ C h1) hw.2 C.1.2.2.2.1 (C.1.2.2.2.2 _ hl) (fun _ h => h) hdg (kk t (x_lowT C h2))
theorem xh_leastld (C : x_C p s m args c cc nL own D cy q NC s0) (hw : x_B D cy q ad sp NC s H locs M) {t : Nat} (ht : va_T .int t 3 (fun i => .int (x_least i)) (x_A q NC s.heap.size) s s.heap) {i : Int32} {K : Int32 → Option α} (h : x_rd 3 x_least i K = some z) (hdg : decode cc pc = .ok (.iaload, 1))
    (kk : ∀ r, K r = some z → W p l e R s m args below meth c H locs cells slots Q (F0 m (pc + 1) ls (.int r :: rest))) : W p l e R s m args below meth c H locs cells slots Q (F0 m pc ls (.int i :: .ref t :: rest)) :=
  va_ti C.1.1 C.1.2.1 ht hw.2 (x_rd_some h).1 rfl hdg (kk _ (x_rd_some h).2)
/-- the static array, read at once behind getstatic and one load of a number -/
theorem xh_most (C : x_C p s m args c cc nL own D cy q NC s0) (hw : x_B D cy q ad sp NC s H locs M) (hz : x_Z s0 ad adV) {index : Nat} (hl : Cond.fieldLink own index "MilesHall" "MOST_RULE" "[I" ∈ wsU) (hdg : decode cc pc = .ok (.getstatic index, 3))
    (kk : ∀ t : Nat, va_T .int t 3 (fun i => .int (x_most i)) (x_A q NC s.heap.size) s s.heap → W p l e R s m args below meth c H locs cells slots Q (F0 m (pc + 3) ls (.ref t :: rest))) : W p l e R s m args below meth c H locs cells slots Q (F0 m pc ls rest) := by
  obtain ⟨t, h1, h2⟩ := hz.2.2.2.2.1
  exact va_gets C.1.1 C.1.2.1 (x_lowZ C h1) hw.2 C.1.2.2.2.1 (C.1.2.2.2.2 _ hl) (fun _ h => h) hdg (kk t (x_lowT C h2))
theorem xh_mostld (C : x_C p s m args c cc nL own D cy q NC s0) (hw : x_B D cy q ad sp NC s H locs M) {t : Nat} (ht : va_T .int t 3 (fun i => .int (x_most i)) (x_A q NC s.heap.size) s s.heap) {i : Int32} {K : Int32 → Option α} (h : x_rd 3 x_most i K = some z) (hdg : decode cc pc = .ok (.iaload, 1))
    (kk : ∀ r, K r = some z → W p l e R s m args below meth c H locs cells slots Q (F0 m (pc + 1) ls (.int r :: rest))) : W p l e R s m args below meth c H locs cells slots Q (F0 m pc ls (.int i :: .ref t :: rest)) :=
  va_ti C.1.1 C.1.2.1 ht hw.2 (x_rd_some h).1 rfl hdg (kk _ (x_rd_some h).2)
/-- the text field of an object -/
theorem xh_gets (C : x_C p s m args c cc nL own D cy q NC s0) (hw : x_B D cy q ad sp NC s H locs M) {K : Int32 → Option α} (k j : Nat) {ci y N index : Nat} {fs : List (Nat × Nat)} {F : String} {T : u_T} (h : x_gf M k j K = some z) (hs : sp k = .inr (ci, fs)) (hk : k < NC) (hf : fs[j]? = some (2, y)) (hc : vwCl[ci]? = some (F, T, N)) (hj : Nat.blt j N = true) (hl : Cond.fieldLink own index (T j).1 (T j).2.1 (T j).2.2.1 ∈ wsU) (hdg : decode cc pc = .ok (.getfield index, 3))
    (kk : ∀ r, K r = some z → W p l e R s m args below meth c H locs cells slots Q (F0 m (pc + 3) ls (.ref (ad r.toNatClampNeg) :: rest))) : W p l e R s m args below meth c H locs cells slots Q (F0 m pc ls (.ref (q k) :: rest)) :=
  va_get C.1.1 C.1.2.1 C.1.2.2.2.2 (x_cls hc).1 C.1.2.2.2.1 C.2.1.1 hw.1 k (by rw [x_w_get hk, hs]; rfl) hc j (Nat.le_of_ble_eq_true hj) (C.1.2.2.2.2 _ hl) (fun _ h => h) (by have h := x_fs_get (q := q) (ad := ad) (row := M k) fs 0 j hf; rw [Nat.zero_add] at h; exact h) hdg (kk _ h)
theorem xh_puts (C : x_C p s m args c cc nL own D cy q NC s0) (hw : x_B D cy q ad sp NC s H locs M) {K : x_M → Option α} (k j : Nat) {ci y N index : Nat} {fs : List (Nat × Nat)} {F : String} {T : u_T} {x : Int32} (h : x_pf M k j x K = some z) (hs : sp k = .inr (ci, fs)) (hk : k < NC) (hf : fs[j]? = some (2, y)) (hc : vwCl[ci]? = some (F, T, N)) (hj : Nat.blt j N = true) (hl : Cond.fieldLink own index (T j).1 (T j).2.1 (T j).2.2.1 ∈ wsU) (hfin : (T j).2.2.2 = false) (hd : (T j).2.2.1 = "Ljava/lang/String;") (hdg : decode cc pc = .ok (.putfield index, 3))
    (kk : ∀ (H1 : Heap) (locs1 : List Loc) (M1 : x_M), x_B D cy q ad sp NC s H1 locs1 M1 → K M1 = some z → W p l e R s m args below meth c H1 locs1 cells slots Q (F0 m (pc + 3) ls rest)) : W p l e R s m args below meth c H locs cells slots Q (F0 m pc ls (.ref (ad x.toNatClampNeg) :: .ref (q k) :: rest)) := by
  obtain ⟨h1, ⟨ty0, h2⟩, h3⟩ := x_cls hc
  refine va_put C.1.1 C.1.2.1 C.1.2.2.2.2 h1 ty0 h2 h3 C.1.2.2.2.1 C.2.1.1 hw.1 (x_CD C M) hw.2 k (fs := x_fs q ad (M k) 0 fs) (by rw [x_w_get hk, hs]; rfl) hc j (Nat.le_of_ble_eq_true hj) (C.1.2.2.2.2 _ hl) (fun _ h => h) hfin (ty := .object "java/lang/String") (by rw [hd]; decide +kernel) rfl rfl (by rw [x_fs_len]; exact (List.getElem?_eq_some_iff.mp hf).1) hdg (fun H1 locs1 hP _ hS => kk H1 locs1 _ ⟨?_, hS⟩ h)
  have e1 : (Sum.inr (ci, (x_fs q ad (M k) 0 fs).set j (.ref (ad x.toNatClampNeg))) : va_E) = x_E cy q ad (sp k) (upd (M k) j x) := by
    have h := x_fs_set (q := q) (ad := ad) (row := M k) (x := x) fs 0 j hf
    rw [Nat.zero_add] at h
    have e2 : x_fv q ad (upd (M k) j x) j (2, y) = .ref (ad x.toNatClampNeg) := by simp [x_fv, upd]
    rw [e2] at h
    rw [h, hs]
    rfl
  rw [e1, x_w_set hk] at hP
  exact hP
theorem xh_getp (C : x_C p s m args c cc nL own D cy q NC s0) (hw : x_B D cy q ad sp NC s H locs M) (k j : Nat) {ci y N index : Nat} {fs : List (Nat × Nat)} {F : String} {T : u_T} {t : Int32} (ht : t.toNatClampNeg - 1 = y) (hs : sp k = .inr (ci, fs)) (hk : k < NC) (hf : fs[j]? = some (1, y)) (hc : vwCl[ci]? = some (F, T, N)) (hj : Nat.blt j N = true) (hl : Cond.fieldLink own index (T j).1 (T j).2.1 (T j).2.2.1 ∈ wsU) (hdg : decode cc pc = .ok (.getfield index, 3))
    (kk : W p l e R s m args below meth c H locs cells slots Q (F0 m (pc + 3) ls (.ref (q (t.toNatClampNeg - 1)) :: rest))) : W p l e R s m args below meth c H locs cells slots Q (F0 m pc ls (.ref (q k) :: rest)) := by
  subst ht
  exact xh_getr C hw k j hs hk hf hc hj hl hdg kk
/-! TERMS -/
theorem xh_tday (C : x_C p s m args c cc nL own D cy q NC s0) (hw : x_B D cy q ad x_spX NC s H locs M) {t : Int32} {index : Nat} {K : Int32 → Option α} (h : x_tk NC t (x_gf M (t.toNatClampNeg - 1) 0 K) = some z) (hl : Cond.fieldLink own index (TX8 0).1 (TX8 0).2.1 (TX8 0).2.2.1 ∈ wsU) (hdg : decode cc pc = .ok (.getfield index, 3))
    (kk : ∀ r, K r = some z → W p l e R s m args below meth c H locs cells slots Q (F0 m (pc + 3) ls (.int r :: rest))) : W p l e R s m args below meth c H locs cells slots Q (F0 m pc ls (.ref (q (t.toNatClampNeg - 1)) :: rest)) := by
  obtain ⟨c1, h1⟩ := x_tk_some h
  exact xh_geti C hw (t.toNatClampNeg - 1) 0 h1 (x_tk_sp c1).1 (by omega) rfl rfl rfl hl hdg kk
theorem xh_tcode (C : x_C p s m args c cc nL own D cy q NC s0) (hw : x_B D cy q ad x_spX NC s H locs M) {t : Int32} {index : Nat} {K : Option α} (h : x_tk NC t K = some z) (hl : Cond.fieldLink own index (TX8 1).1 (TX8 1).2.1 (TX8 1).2.2.1 ∈ wsU) (hdg : decode cc pc = .ok (.getfield index, 3))
    (kk : K = some z → W p l e R s m args below meth c H locs cells slots Q (F0 m (pc + 3) ls (.ref (q t.toNatClampNeg) :: rest))) : W p l e R s m args below meth c H locs cells slots Q (F0 m pc ls (.ref (q (t.toNatClampNeg - 1)) :: rest)) := by
  obtain ⟨c1, h1⟩ := x_tk_some h
  exact xh_getr C hw (t.toNatClampNeg - 1) 1 (x_tk_sp c1).1 (by omega) rfl rfl rfl hl hdg (kk h1)
theorem xh_tends (C : x_C p s m args c cc nL own D cy q NC s0) (hw : x_B D cy q ad x_spX NC s H locs M) {t : Int32} {index : Nat} {K : Option α} (h : x_tk NC t K = some z) (hl : Cond.fieldLink own index (TX8 2).1 (TX8 2).2.1 (TX8 2).2.2.1 ∈ wsU) (hdg : decode cc pc = .ok (.getfield index, 3))
    (kk : K = some z → W p l e R s m args below meth c H locs cells slots Q (F0 m (pc + 3) ls (.ref (q (t.toNatClampNeg + 1)) :: rest))) : W p l e R s m args below meth c H locs cells slots Q (F0 m pc ls (.ref (q (t.toNatClampNeg - 1)) :: rest)) := by
  obtain ⟨c1, h1⟩ := x_tk_some h
  exact xh_getr C hw (t.toNatClampNeg - 1) 2 (x_tk_sp c1).1 (by omega) rfl rfl rfl hl hdg (kk h1)
theorem xh_tcld (C : x_C p s m args c cc nL own D cy q NC s0) (hw : x_B D cy q ad x_spX NC s H locs M) {t i : Int32} {K : Int32 → Option α} (h : x_tk NC t (x_rd (M t.toNatClampNeg 2147483648).toNatClampNeg (M t.toNatClampNeg) i K) = some z) (hdg : decode cc pc = .ok (.iaload, 1))
    (kk : ∀ r, K r = some z → W p l e R s m args below meth c H locs cells slots Q (F0 m (pc + 1) ls (.int r :: rest))) : W p l e R s m args below meth c H locs cells slots Q (F0 m pc ls (.int i :: .ref (q t.toNatClampNeg) :: rest)) := by
  obtain ⟨c1, h1⟩ := x_tk_some h
  exact va_iald C.1.1 C.1.2.1 C.2.1.1 hw.1 t.toNatClampNeg 0 (by rw [x_w_get (by omega), (x_tk_sp c1).2.1]; rfl) rfl (x_rd_some h1).1 hdg (kk _ (x_rd_some h1).2)
theorem xh_tclen (C : x_C p s m args c cc nL own D cy q NC s0) (hw : x_B D cy q ad x_spX NC s H locs M) {t : Int32} {K : Int32 → Option α} (h : x_tk NC t (x_vl (nI (M t.toNatClampNeg 2147483648).toNatClampNeg) K) = some z) (hdg : decode cc pc = .ok (.arraylength, 1))
    (kk : ∀ r, K r = some z → W p l e R s m args below meth c H locs cells slots Q (F0 m (pc + 1) ls (.int r :: rest))) : W p l e R s m args below meth c H locs cells slots Q (F0 m pc ls (.ref (q t.toNatClampNeg) :: rest)) := by
  obtain ⟨c1, h1⟩ := x_tk_some h
  exact va_alen C.1.1 C.1.2.1 C.2.1.1 hw.1 t.toNatClampNeg 0 (by rw [x_w_get (by omega), (x_tk_sp c1).2.1]; rfl) rfl (v := nI (M t.toNatClampNeg 2147483648).toNatClampNeg) rfl hdg (kk _ h1)
theorem xh_teld (C : x_C p s m args c cc nL own D cy q NC s0) (hw : x_B D cy q ad x_spX NC s H locs M) {t i : Int32} {K : Int32 → Option α} (h : x_tk NC t (x_rd 4 (M (t.toNatClampNeg + 1)) i K) = some z) (hdg : decode cc pc = .ok (.iaload, 1))
    (kk : ∀ r, K r = some z → W p l e R s m args below meth c H locs cells slots Q (F0 m (pc + 1) ls (.int r :: rest))) : W p l e R s m args below meth c H locs cells slots Q (F0 m pc ls (.int i :: .ref (q (t.toNatClampNeg + 1)) :: rest)) := by
  obtain ⟨c1, h1⟩ := x_tk_some h
  exact xh_iald C hw (t.toNatClampNeg + 1) 4 h1 (x_tk_sp c1).2.2 (by omega) hdg kk
theorem xh_telen (C : x_C p s m args c cc nL own D cy q NC s0) (hw : x_B D cy q ad x_spX NC s H locs M) {t : Int32} {K : Option α} (h : x_tk NC t K = some z) (hdg : decode cc pc = .ok (.arraylength, 1))
    (kk : K = some z → W p l e R s m args below meth c H locs cells slots Q (F0 m (pc + 1) ls (.int (nI 4) :: rest))) : W p l e R s m args below meth c H locs cells slots Q (F0 m pc ls (.ref (q (t.toNatClampNeg + 1)) :: rest)) := by
  obtain ⟨c1, h1⟩ := x_tk_some h
  exact va_alen C.1.1 C.1.2.1 C.2.1.1 hw.1 (t.toNatClampNeg + 1) 0 (by rw [x_w_get (by omega), (x_tk_sp c1).2.2]; rfl) rfl (v := nI 4) rfl hdg (kk h1)
/-- a place of a row of TERMS: none, or some -/
theorem xh_tald (C : x_C p s m args c cc nL own D cy q NC s0) (hw : x_B D cy q ad sp NC s H locs M) {K : Int32 → Option α} (k n : Nat) {i : Int32} (h : x_rd n (M k) i K = some z) (hs : sp k = .inl (4, n)) (hk : k < NC) (hdg : decode cc pc = .ok (.aaload, 1)) (kk : ∀ r, K r = some z → W p l e R s m args below meth c H locs cells slots Q (F0 m (pc + 1) ls (va_rf (x_tro q r) :: rest))) : W p l e R s m args below meth c H locs cells slots Q (F0 m pc ls (.int i :: .ref (q k) :: rest)) :=
  va_aldq C.1.1 C.1.2.1 C.2.1.1 hw.1 k 4 (by rw [x_w_get hk, hs]; rfl) rfl (x_rd_some h).1 hdg (kk _ (x_rd_some h).2)
end XT
