/-! ===== the words of all methods: those of the tables that stay good ===== -/
def wsU : List Cond := lw_tbl.filter goodWord
theorem x_mem {w : Cond} (i : Nat) (h : (tables_1[i]? == some w && goodWord w) = true) : w ∈ wsU := by
  simp only [Bool.and_eq_true, beq_iff_eq] at h
  exact List.mem_filter.mpr ⟨List.mem_append_right _ (List.mem_of_getElem? h.1), h.2⟩
theorem x_mem1 {w : Cond} (i : Nat) (h : (tables_1_1[i]? == some w && goodWord w) = true) : w ∈ wsU := by
  simp only [Bool.and_eq_true, beq_iff_eq] at h
  exact List.mem_filter.mpr ⟨List.mem_append_right _ (List.mem_append_left _ (List.mem_of_getElem? h.1)), h.2⟩
theorem x_mem2 {w : Cond} (i : Nat) (h : (tables_1_2[i]? == some w && goodWord w) = true) : w ∈ wsU := by
  simp only [Bool.and_eq_true, beq_iff_eq] at h
  exact List.mem_filter.mpr ⟨List.mem_append_right _ (List.mem_append_right _ (List.mem_append_left _ (List.mem_of_getElem? h.1))), h.2⟩
theorem x_mem3 {w : Cond} (i : Nat) (h : (tables_1_3[i]? == some w && goodWord w) = true) : w ∈ wsU := by
  simp only [Bool.and_eq_true, beq_iff_eq] at h
  exact List.mem_filter.mpr ⟨List.mem_append_right _ (List.mem_append_right _ (List.mem_append_right _ (List.mem_append_left _ (List.mem_of_getElem? h.1)))), h.2⟩
theorem x_mem4 {w : Cond} (i : Nat) (h : (tables_1_4[i]? == some w && goodWord w) = true) : w ∈ wsU := by
  simp only [Bool.and_eq_true, beq_iff_eq] at h
  exact List.mem_filter.mpr ⟨List.mem_append_right _ (List.mem_append_right _ (List.mem_append_right _ (List.mem_append_right _ (List.mem_append_left _ (List.mem_of_getElem? h.1))))), h.2⟩
theorem x_mem5 {w : Cond} (i : Nat) (h : (tables_1_5[i]? == some w && goodWord w) = true) : w ∈ wsU := by
  simp only [Bool.and_eq_true, beq_iff_eq] at h
  exact List.mem_filter.mpr ⟨List.mem_append_right _ (List.mem_append_right _ (List.mem_append_right _ (List.mem_append_right _ (List.mem_append_right _ (List.mem_append_left _ (List.mem_of_getElem? h.1)))))), h.2⟩
theorem x_mem6 {w : Cond} (i : Nat) (h : (tables_1_6[i]? == some w && goodWord w) = true) : w ∈ wsU := by
  simp only [Bool.and_eq_true, beq_iff_eq] at h
  exact List.mem_filter.mpr ⟨List.mem_append_right _ (List.mem_append_right _ (List.mem_append_right _ (List.mem_append_right _ (List.mem_append_right _ (List.mem_append_right _ (List.mem_append_left _ (List.mem_of_getElem? h.1))))))), h.2⟩
theorem x_mem7 {w : Cond} (i : Nat) (h : (tables_1_7[i]? == some w && goodWord w) = true) : w ∈ wsU := by
  simp only [Bool.and_eq_true, beq_iff_eq] at h
  exact List.mem_filter.mpr ⟨List.mem_append_right _ (List.mem_append_right _ (List.mem_append_right _ (List.mem_append_right _ (List.mem_append_right _ (List.mem_append_right _ (List.mem_append_right _ (List.mem_of_getElem? h.1))))))), h.2⟩
theorem x_memp {w : Cond} (i : Nat) (h : ((k2_sels lw_privs)[i]? == some w && goodWord w) = true) : w ∈ wsU := by
  simp only [Bool.and_eq_true, beq_iff_eq] at h
  exact List.mem_filter.mpr ⟨List.mem_append_left _ (List.mem_of_getElem? h.1), h.2⟩
theorem x_mema {ws : List Cond} (h : ws.all (fun w => decide (w ∈ tables_1) && goodWord w) = true) : ∀ w ∈ ws, w ∈ wsU := fun w hw => by
  have h1 := List.all_eq_true.mp h w hw
  simp only [Bool.and_eq_true, decide_eq_true_eq] at h1
  exact List.mem_filter.mpr ⟨List.mem_append_right _ h1.1, h1.2⟩
theorem inlX0 : ∀ w ∈ wsX00, w ∈ wsU := x_mema (by decide +kernel)
theorem inlX1 : ∀ w ∈ wsX10, w ∈ wsU := x_mema (by decide +kernel)
theorem inlX2 : ∀ w ∈ wsX20, w ∈ wsU := x_mema (by decide +kernel)
theorem inlX3 : ∀ w ∈ wsX30, w ∈ wsU := x_mema (by decide +kernel)
theorem inlX4 : ∀ w ∈ wsX40, w ∈ wsU := x_mema (by decide +kernel)
theorem inlX5 : ∀ w ∈ wsX50, w ∈ wsU := x_mema (by decide +kernel)
theorem inlX6 : ∀ w ∈ wsX60, w ∈ wsU := x_mema (by decide +kernel)
theorem inlX7 : ∀ w ∈ wsX70, w ∈ wsU := x_mema (by decide +kernel)
theorem inlX8 : ∀ w ∈ wsX80, w ∈ wsU := x_mema (by decide +kernel)
theorem inlX9 : ∀ w ∈ wsX90, w ∈ wsU := x_mema (by decide +kernel)
theorem inlX10 : ∀ w ∈ wsX100, w ∈ wsU := x_mema (by decide +kernel)
theorem inlX11 : ∀ w ∈ wsX110, w ∈ wsU := x_mema (by decide +kernel)
theorem inlX12 : ∀ w ∈ wsX120, w ∈ wsU := x_mema (by decide +kernel)
/-! ===== a memory for the cells of a system: row k holds what the k-th cell holds ===== -/
abbrev x_M : Type := Nat → Nat → Int32
def x_up (M : x_M) (k i : Nat) (x : Int32) : x_M := va_up M k (upd (M k) i x)
/-- a cell's kind: an array (type number, length) or an object (class number, its fields: 0 a number, 1 the cell so and so, 2 a text by its number) -/
abbrev x_K : Type := (Nat × Nat) ⊕ (Nat × List (Nat × Nat))
def x_fv (q ad : Nat → Nat) (row : Nat → Int32) (j : Nat) (f : Nat × Nat) : Value := match f.1 with
  | 0 => .int (row j)
  | 1 => .ref (q f.2)
  | _ => .ref (ad (row j).toNatClampNeg)
def x_fs (q ad : Nat → Nat) (row : Nat → Int32) : Nat → List (Nat × Nat) → List Value
  | _, [] => []
  | j, f :: fs => x_fv q ad row j f :: x_fs q ad row (j + 1) fs
/-- a long is kept as two ints -/
def x_jt (v : Int64) : Int32 := Int32.ofBitVec (v.toBitVec.extractLsb' 32 32)
def x_jb (v : Int64) : Int32 := Int32.ofBitVec (v.toBitVec.extractLsb' 0 32)
def x_j (a b : Int32) : Int64 := Int64.ofBitVec (a.toBitVec ++ b.toBitVec)
theorem x_j_tb (v : Int64) : x_j (x_jt v) (x_jb v) = v := by
  unfold x_j x_jt x_jb
  apply Int64.toBitVec_inj.mp
  show v.toBitVec.extractLsb' 32 32 ++ v.toBitVec.extractLsb' 0 32 = v.toBitVec
  apply BitVec.eq_of_getLsbD_eq
  intro i hi
  rw [BitVec.getLsbD_append]
  by_cases h : i < 32
  · rw [if_pos h, BitVec.getLsbD_extractLsb']
    simp [h]
  · rw [if_neg h, BitVec.getLsbD_extractLsb', show 32 + (i - 32) = i by omega]
    simp [show i - 32 < 32 by omega]
theorem x_j_00 : x_j 0 0 = 0 := by decide
/-- the i-th long of a row -/
def x_jg (row : Nat → Int32) (i : Nat) : Int64 := x_j (row (2 * i)) (row (2 * i + 1))
def x_ju (row : Nat → Int32) (i : Nat) (v : Int64) : Nat → Int32 := upd (upd row (2 * i) (x_jt v)) (2 * i + 1) (x_jb v)
theorem x_jg_ju (row : Nat → Int32) (i : Nat) (v : Int64) : x_jg (x_ju row i v) = vp_updL (x_jg row) i v := by
  funext j
  unfold x_jg x_ju vp_updL upd
  by_cases h : j = i
  · subst h
    rw [if_neg (by omega), if_pos rfl, if_pos rfl, if_pos rfl, x_j_tb]
  · rw [if_neg (by omega), if_neg (by omega), if_neg (by omega), if_neg (by omega), if_neg h]
def x_tro (q : Nat → Nat) (x : Int32) : Option Nat := if x = 0 then none else some (q (x.toNatClampNeg - 1))
def x_E (cy : Nat → ClassId) (q ad : Nat → Nat) (k : x_K) (row : Nat → Int32) : va_E := match k with
  | .inl a => (match a.1 with
    | 4 => .inl (cy 4, a.2, .inr (.inr (.inr (.inr (fun i => x_tro q (row i))))))
    | 5 => .inl (cy 0, (row 2147483648).toNatClampNeg, .inl row)
    | 6 => .inl (cy 5, a.2, .inr (.inl (x_jg row)))
    | t => .inl (cy t, a.2, .inl row))
  | .inr o => .inr (o.1, x_fs q ad row 0 o.2)
def x_w (cy : Nat → ClassId) (q ad : Nat → Nat) (sp : Nat → x_K) (NC : Nat) (M : x_M) : va_W := (List.range NC).map (fun k => (q k, x_E cy q ad (sp k) (M k)))
def x_ty (cy : Nat → ClassId) : List (ClassId × FieldType) := [(cy 0, .int), (cy 1, .short), (cy 2, .byte), (cy 3, .boolean), (cy 4, .object "MilesHall$Terms"), (cy 5, .long)]
theorem x_w_get {cy : Nat → ClassId} {q ad : Nat → Nat} {sp : Nat → x_K} {NC k : Nat} {M : x_M} (h : k < NC) : (x_w cy q ad sp NC M)[k]? = some (q k, x_E cy q ad (sp k) (M k)) := by
  simp [x_w, h]
theorem x_w_set {cy : Nat → ClassId} {q ad : Nat → Nat} {sp : Nat → x_K} {NC k : Nat} {M : x_M} (h : k < NC) (row : Nat → Int32) : (x_w cy q ad sp NC M).set k (q k, x_E cy q ad (sp k) row) = x_w cy q ad sp NC (va_up M k row) := by
  refine List.ext_getElem? fun j => ?_
  by_cases hj : j = k
  · subst hj
    rw [List.getElem?_set_self (by simpa [x_w] using h), x_w_get h]
    simp [va_up]
  · rw [List.getElem?_set_ne (Ne.symm hj)]
    by_cases hl : j < NC
    · rw [x_w_get hl, x_w_get hl]
      simp [va_up, hj]
    · rw [List.getElem?_eq_none (by simp [x_w]; omega), List.getElem?_eq_none (by simp [x_w]; omega)]
theorem x_w_D {cy : Nat → ClassId} {q ad : Nat → Nat} {sp : Nat → x_K} {NC : Nat} {A : Nat → Prop} (hq : ∀ i j, i < NC → j < NC → q i = q j → i = j) (hA : ∀ k, k < NC → A (q k)) (M : x_M) : va_D A (x_w cy q ad sp NC M) := by
  have key : ∀ (i : Nat) (x : Nat × va_E), (x_w cy q ad sp NC M)[i]? = some x → i < NC ∧ x.1 = q i := by
    intro i x h
    by_cases hl : i < NC
    · rw [x_w_get hl] at h
      cases h
      exact ⟨hl, rfl⟩
    · rw [List.getElem?_eq_none (by simp [x_w]; omega)] at h
      cases h
  refine ⟨fun i j x y hi hj hxy => ?_, fun k x hk => ?_⟩
  · obtain ⟨a1, a2⟩ := key i x hi
    obtain ⟨b1, b2⟩ := key j y hj
    exact hq i j a1 b1 (by rw [← a2, ← b2]; exact hxy)
  · obtain ⟨a1, a2⟩ := key k x hk
    rw [a2]
    exact hA k a1
theorem x_fs_get {q ad : Nat → Nat} {row : Nat → Int32} : ∀ (fs : List (Nat × Nat)) (j k : Nat) {f : Nat × Nat}, fs[k]? = some f → (x_fs q ad row j fs)[k]? = some (x_fv q ad row (j + k) f)
  | [], _, _, _, h => by simp at h
  | g :: fs, j, 0, f, h => by
    rw [List.getElem?_cons_zero] at h
    cases h
    rfl
  | g :: fs, j, k + 1, f, h => by
    rw [List.getElem?_cons_succ] at h
    have := x_fs_get (q := q) (ad := ad) (row := row) fs (j + 1) k h
    rw [show j + 1 + k = j + (k + 1) by omega] at this
    exact this
theorem x_fs_len {q ad : Nat → Nat} {row : Nat → Int32} : ∀ (fs : List (Nat × Nat)) (j : Nat), (x_fs q ad row j fs).length = fs.length
  | [], _ => rfl
  | _ :: fs, j => by
    show (x_fs q ad row (j + 1) fs).length + 1 = fs.length + 1
    rw [x_fs_len fs (j + 1)]
theorem x_fs_above {q ad : Nat → Nat} {row : Nat → Int32} {x : Int32} {i : Nat} : ∀ (fs : List (Nat × Nat)) (j : Nat), i < j → x_fs q ad (upd row i x) j fs = x_fs q ad row j fs
  | [], _, _ => rfl
  | f :: fs, j, h => by
    show x_fv q ad (upd row i x) j f :: x_fs q ad (upd row i x) (j + 1) fs = x_fv q ad row j f :: x_fs q ad row (j + 1) fs
    rw [x_fs_above fs (j + 1) (by omega)]
    congr 1
    simp only [x_fv, upd]
    rw [if_neg (by omega)]
theorem x_fs_set {q ad : Nat → Nat} {row : Nat → Int32} {x : Int32} : ∀ (fs : List (Nat × Nat)) (j k : Nat) {f : Nat × Nat}, fs[k]? = some f → (x_fs q ad row j fs).set k (x_fv q ad (upd row (j + k) x) (j + k) f) = x_fs q ad (upd row (j + k) x) j fs
  | [], _, _, _, h => by simp at h
  | g :: fs, j, 0, f, h => by
    rw [List.getElem?_cons_zero] at h
    cases h
    show x_fv q ad (upd row (j + 0) x) (j + 0) g :: x_fs q ad row (j + 1) fs = x_fv q ad (upd row (j + 0) x) j g :: x_fs q ad (upd row (j + 0) x) (j + 1) fs
    rw [x_fs_above fs (j + 1) (by omega)]
    rfl
  | g :: fs, j, k + 1, f, h => by
    rw [List.getElem?_cons_succ] at h
    have ih := x_fs_set (q := q) (ad := ad) (row := row) (x := x) fs (j + 1) k h
    rw [show j + 1 + k = j + (k + 1) by omega] at ih
    show x_fv q ad row j g :: (x_fs q ad row (j + 1) fs).set k _ = x_fv q ad (upd row (j + (k + 1)) x) j g :: x_fs q ad (upd row (j + (k + 1)) x) (j + 1) fs
    rw [ih]
    congr 1
    simp only [x_fv, upd]
    rw [if_neg (by omega)]
/-! ===== what stands fixed while a method runs ===== -/
def x_A (q : Nat → Nat) (NC sz : Nat) : Nat → Prop := fun a => (∃ k, k < NC ∧ a = q k) ∨ sz ≤ a
/-- the cells are apart, and none was there at the law's start -/
def x_Q (q : Nat → Nat) (NC z0 : Nat) : Prop := (∀ i j, i < NC → j < NC → q i = q j → i = j) ∧ ∀ k, k < NC → z0 ≤ q k
def x_nest : List Cond := [.methodLinkNest "MilesHall" 11 yX0_init "MilesHall", .methodLinkNest "MilesHall" 21 yX2_init "MilesHall", .methodLinkNest "MilesHall" 28 yX10_init "MilesHall", .methodLinkNest "MilesHall" 35 yX7_init "MilesHall", .methodLinkNest "MilesHall$Club" 9 yX4_init "MilesHall", .methodLinkNest "MilesHall$Club" 18 yX3_init "MilesHall", .methodLinkNest "MilesHall$Club" 25 yX9_init "MilesHall", .methodLinkNest "MilesHall$Club" 32 yX6_init "MilesHall", .methodLinkNest "MilesHall$Club" 39 yX5_init "MilesHall", .methodLinkNest "MilesHall$Figures" 47 yX11_within "MilesHall", .methodLinkNest "MilesHall$Ledger" 11 yX1_init "MilesHall", .methodLinkNest "MilesHall$Ledger" 140 yX11_held "MilesHall", .methodLinkNest "MilesHall$Ledger" 177 yX11_within "MilesHall", .castable "[I" "java/lang/Cloneable"]
/-- what is known of the tables and of the old cells, of every state from the law's start on -/
def x_N (D : va_G) (cy : Nat → ClassId) (s0 U : State) : Prop := va_K D vwCl (x_ty cy) U ∧ (∀ w ∈ x_nest, va_Nw w U) ∧ s0.WarmedH U.vm ∧ s0.heap.size ≤ U.heap.size ∧ ∀ a, a < s0.heap.size → U.heap[a]? = s0.heap[a]?
def x_Pre (D : va_G) (cy : Nat → ClassId) (q ad : Nat → Nat) (sp : Nat → x_K) (NC : Nat) (s0 : State) (sz : Nat) (M : x_M) (U : State) : Prop := U.heap.size = sz ∧ x_N D cy s0 U ∧ va_P D vwCl (x_w cy q ad sp NC M) U.heap
def x_Post (D : va_G) (cy : Nat → ClassId) (q ad : Nat → Nat) (sp : Nat → x_K) (NC : Nat) (M : x_M) (t : State) : Prop := va_P D vwCl (x_w cy q ad sp NC M) t.heap
def x_uw (y : MethodName) (cc : ByteArray) (n : Nat) (ret : Option FieldType) : List Cond := .code y cc n ret :: wsU
def x_C (p : Program) (s : State) (m : MethodId) (args : Array Value) (c : Code) (cc : ByteArray) (nL : Nat) (own : String) (D : va_G) (cy : Nat → ClassId) (q : Nat → Nat) (NC : Nat) (s0 : State) : Prop :=
  CallFix p m c cc nL s args wsU own ∧ x_N D cy s0 s ∧ x_Q q NC s0.heap.size
/-- where the machine is: the world, and what has changed since the method's start -/
def x_B (D : va_G) (cy : Nat → ClassId) (q ad : Nat → Nat) (sp : Nat → x_K) (NC : Nat) (s : State) (H : Heap) (locs : List Loc) (M : x_M) : Prop := va_P D vwCl (x_w cy q ad sp NC M) H ∧ va_S (x_A q NC s.heap.size) s.heap H locs
theorem x_N.warm {D : va_G} {cy : Nat → ClassId} {s0 s U : State} (h : x_N D cy s0 s) (hW : s.WarmedH U.vm) (hz : s0.heap.size ≤ U.heap.size) (ho : ∀ a, a < s0.heap.size → U.heap[a]? = s0.heap[a]?) : x_N D cy s0 U := by
  obtain ⟨h1, h2, h3, -, -⟩ := h
  refine ⟨va_K.moved hW.alike h1, fun w hw => ?_, State.WarmedH.trans h3 hW, hz, ho⟩
  have h4 := h2 w hw
  simp only [x_nest, List.mem_cons, List.not_mem_nil, or_false] at hw
  rcases hw with rfl | rfl | rfl | rfl | rfl | rfl | rfl | rfl | rfl | rfl | rfl | rfl | rfl | rfl <;> first | exact va_Nw.warmM hW h4 | exact va_Nw.warmC hW h4
theorem x_N.same {D : va_G} {cy : Nat → ClassId} {s0 U V : State} (h : x_N D cy s0 U) (hv : U.vm = V.vm) (hh : V.heap = U.heap) : x_N D cy s0 V := by
  obtain ⟨h1, h2, h3, h4, h5⟩ := h
  refine ⟨va_K.moved (by rw [hv]; exact Vm.Alike.refl _) h1, fun w hw => ?_, by rw [← hv]; exact h3, by rw [hh]; exact h4, by rw [hh]; exact h5⟩
  have h6 := h2 w hw
  simp only [x_nest, List.mem_cons, List.not_mem_nil, or_false] at hw
  rcases hw with rfl | rfl | rfl | rfl | rfl | rfl | rfl | rfl | rfl | rfl | rfl | rfl | rfl | rfl <;> exact va_Nw.same rfl hv h6
theorem x_A_old {q : Nat → Nat} {NC sz z0 : Nat} (hq : x_Q q NC z0) (hz : z0 ≤ sz) {a : Nat} (ha : a < z0) : ¬ x_A q NC sz a := by
  rintro (⟨k, hk, rfl⟩ | h)
  · have := hq.2 k hk
    omega
  · omega
theorem x_good : GoodIn wsU wsU := fun w h => ⟨h, good_of_word (List.mem_filter.mp h).2⟩
theorem x_uw_good {y y' : MethodName} {cc cc' : ByteArray} {n n' : Nat} {ret ret' : Option FieldType} (h : Cond.code y' cc' n' ret' ∈ wsU) : GoodIn wsU (x_uw y' cc' n' ret') := by
  intro w hw
  rcases List.mem_cons.mp hw with rfl | h1
  · exact x_good _ h
  · exact x_good _ h1
/-! ===== contracts ===== -/
/-- a method's contract: from the world M it answers r and leaves the world M' -/
def x_Ci (l : Launch) (D : va_G) (cy : Nat → ClassId) (q ad : Nat → Nat) (sp : Nat → x_K) (NC : Nat) (s0 : State) (y : MethodName) (ws : List Cond) (rm : Room) (av : List Value) (M : x_M) (r : Int32) (M' : x_M) : Prop :=
  ∀ sz, Met l y ws rm (va_Pc av (x_Pre D cy q ad sp NC s0 sz M)) (va_Qi (fun r' (u : x_M) => r' = r ∧ u = M') (x_Post D cy q ad sp NC) (x_A q NC sz)) 0 0 (x_A q NC sz)
def x_Cl (l : Launch) (D : va_G) (cy : Nat → ClassId) (q ad : Nat → Nat) (sp : Nat → x_K) (NC : Nat) (s0 : State) (y : MethodName) (ws : List Cond) (rm : Room) (av : List Value) (M : x_M) (r : Int64) (M' : x_M) : Prop :=
  ∀ sz, Met l y ws rm (va_Pc av (x_Pre D cy q ad sp NC s0 sz M)) (va_Ql (fun r' (u : x_M) => r' = r ∧ u = M') (x_Post D cy q ad sp NC) (x_A q NC sz)) 0 0 (x_A q NC sz)
def x_Cv (l : Launch) (D : va_G) (cy : Nat → ClassId) (q ad : Nat → Nat) (sp : Nat → x_K) (NC : Nat) (s0 : State) (y : MethodName) (ws : List Cond) (rm : Room) (av : List Value) (M : x_M) (M' : x_M) : Prop :=
  ∀ sz, Met l y ws rm (va_Pc av (x_Pre D cy q ad sp NC s0 sz M)) (va_Qv (fun (u : x_M) => u = M') (x_Post D cy q ad sp NC) (x_A q NC sz)) 0 0 (x_A q NC sz)
section XM
variable {l : Launch} {D : va_G} {cy : Nat → ClassId} {q ad : Nat → Nat} {sp : Nat → x_K} {NC : Nat} {s0 : State} {y : MethodName} {cc : ByteArray} {nL : Nat} {rm : Room} {av : List Value} {M : x_M}
/-- the start of a method's walk -/
theorem x_start {ret : Option FieldType} {Qc : Array Value → State → Outcome → State → Prop} {sz : Nat} (hq : x_Q q NC s0.heap.size) (hy : plainName y.cls = true) (hn : (lg_sl av).length ≤ nL)
    (body : ∀ (p : Program) (e : Env) (s : State) (m : MethodId) (below : List Frame) (meth : Method) (c : Code) (ls : Array Slot), x_C p s m av.toArray c cc nL y.cls D cy q NC s0 → meth.sig.returnType = ret → meth.locks = false → meth.name = y.name → s.heap.size = sz → lv_has ls nL (lv_args 0 av) → x_B D cy q ad sp NC s s.heap [] M →
      W p l e rm s m av.toArray below meth c s.heap [] 0 0 (MQ below Qc av.toArray s 0 0 (x_A q NC s.heap.size)) (F0 m 0 ls [])) : Met l y (x_uw y cc nL ret) rm (va_Pc av (x_Pre D cy q ad sp NC s0 sz M)) Qc 0 0 (x_A q NC sz) := by
  refine Met.ofW (cc := cc) (maxL := nL) (ret := ret) hy rfl ?_
  intro p e s m args below meth c s₁ B hml hv
  obtain ⟨rfl, hsz, hN, hP⟩ := hv
  have hts := atoms_spec (ws := x_uw y cc nL ret) B.pre
  have hown : s.vm.findClass y.cls = some m.cls := findClass_of_methodNamed B.named
  subst hsz
  rw [lg_entry_eq]
  exact body p e s m below meth c _ ⟨⟨B.exec, B.bytes, hml, hown, fun w h => hts w (List.mem_cons_of_mem _ h)⟩, hN, hq⟩ B.returns B.notSynchronized (name_of_methodNamed B.named B.method).1 rfl (lv_entry av hn) ⟨hP, va_S.rf⟩
theorem x_meti {ty : FieldType} {z : Int32 × x_M} (hq : x_Q q NC s0.heap.size) (hy : plainName y.cls = true) (hn : (lg_sl av).length ≤ nL)
    (body : ∀ (p : Program) (e : Env) (s : State) (m : MethodId) (args : Array Value) (below : List Frame) (meth : Method) (c : Code) (ls : Array Slot) (Q : State → Prop), x_C p s m args c cc nL y.cls D cy q NC s0 → (∀ {pc : Nat} {H : Heap} {locs : List Loc} {ls : Array Slot} {x : Int32} {M1 : x_M}, decode cc pc = .ok (.ireturn, 1) → narrow ty (.int x) = .int x → x_B D cy q ad sp NC s H locs M1 → some (x, M1) = some z → W p l e rm s m args below meth c H locs 0 0 Q (F0 m pc ls [.int x])) → lv_has ls nL (lv_args 0 av) → x_B D cy q ad sp NC s s.heap [] M →
      W p l e rm s m args below meth c s.heap [] 0 0 Q (F0 m 0 ls [])) : x_Ci l D cy q ad sp NC s0 y (x_uw y cc nL (some ty)) rm av M z.1 z.2 := by
  intro sz
  refine x_start hq hy hn ?_
  intro p e s m below meth c ls C hr hlocks _ hsz hl hB
  refine body p e s m av.toArray below meth c ls _ C (fun {pc H locs ls x M1} hd hty hw hz => ?_) hl hB
  cases hz
  subst hsz
  exact W.zret (v := x) C.1.1 C.1.2.1 hr hty (fun t ht hW => ⟨⟨x, M1, rfl, ⟨rfl, rfl⟩, by show va_P _ _ _ t.heap; rw [ht]; exact hw.1⟩, hw.2.F ht⟩) hw.2.2.2 hd
theorem x_metl {z : Int64 × x_M} (hq : x_Q q NC s0.heap.size) (hy : plainName y.cls = true) (hn : (lg_sl av).length ≤ nL)
    (body : ∀ (p : Program) (e : Env) (s : State) (m : MethodId) (args : Array Value) (below : List Frame) (meth : Method) (c : Code) (ls : Array Slot) (Q : State → Prop), x_C p s m args c cc nL y.cls D cy q NC s0 → (∀ {pc : Nat} {H : Heap} {locs : List Loc} {ls : Array Slot} {x : Int64} {M1 : x_M}, decode cc pc = .ok (.lreturn, 1) → x_B D cy q ad sp NC s H locs M1 → some (x, M1) = some z → W p l e rm s m args below meth c H locs 0 0 Q (F0 m pc ls [.long x])) → lv_has ls nL (lv_args 0 av) → x_B D cy q ad sp NC s s.heap [] M →
      W p l e rm s m args below meth c s.heap [] 0 0 Q (F0 m 0 ls [])) : x_Cl l D cy q ad sp NC s0 y (x_uw y cc nL (some .long)) rm av M z.1 z.2 := by
  intro sz
  refine x_start hq hy hn ?_
  intro p e s m below meth c ls C hr hlocks _ hsz hl hB
  refine body p e s m av.toArray below meth c ls _ C (fun {pc H locs ls x M1} hd hw hz => ?_) hl hB
  cases hz
  subst hsz
  exact W.lret (v := x) C.1.1 C.1.2.1 hr (fun t ht hW => ⟨⟨x, M1, rfl, ⟨rfl, rfl⟩, by show va_P _ _ _ t.heap; rw [ht]; exact hw.1⟩, hw.2.F ht⟩) hw.2.2.2 hd
theorem x_metv {z : Unit × x_M} (hq : x_Q q NC s0.heap.size) (hy : plainName y.cls = true) (hn : (lg_sl av).length ≤ nL)
    (body : ∀ (p : Program) (e : Env) (s : State) (m : MethodId) (args : Array Value) (below : List Frame) (meth : Method) (c : Code) (ls : Array Slot) (Q : State → Prop), x_C p s m args c cc nL y.cls D cy q NC s0 → (∀ {pc : Nat} {H : Heap} {locs : List Loc} {ls : Array Slot} {M1 : x_M}, decode cc pc = .ok (.return_, 1) → x_B D cy q ad sp NC s H locs M1 → some ((), M1) = some z → W p l e rm s m args below meth c H locs 0 0 Q (F0 m pc ls [])) → lv_has ls nL (lv_args 0 av) → x_B D cy q ad sp NC s s.heap [] M →
      W p l e rm s m args below meth c s.heap [] 0 0 Q (F0 m 0 ls [])) : x_Cv l D cy q ad sp NC s0 y (x_uw y cc nL none) rm av M z.2 := by
  intro sz
  refine x_start hq hy hn ?_
  intro p e s m below meth c ls C hr hlocks _ hsz hl hB
  refine body p e s m av.toArray below meth c ls _ C (fun {pc H locs ls M1} hd hw hz => ?_) hl hB
  cases hz
  subst hsz
  exact W.vret C.1.1 C.1.2.1 hr (fun t ht hW => ⟨⟨M1, rfl, rfl, by show va_P _ _ _ t.heap; rw [ht]; exact hw.1⟩, hw.2.F ht⟩) hw.2.2.2 hd
end XM
/-! ===== instructions over the world ===== -/
theorem x_cls {ci : Nat} {C : String} {T : u_T} {N : Nat} (h : vwCl[ci]? = some (C, T, N)) : (∀ w ∈ u_ws C T N, w ∈ wsU) ∧ (∃ ty0 : Nat → FieldType, ∀ k, k < N → parseFieldDescriptor (T k).2.2.1 = some (ty0 k)) ∧ ∀ a, a < N → ∀ b, b < N → a ≠ b → (T a).2.1 ≠ (T b).2.1 := by
  match ci, h with
  | 0, h => cases h; exact ⟨inlX0, ⟨tyX0, tyX0_ok⟩, nmX0⟩
  | 1, h => cases h; exact ⟨inlX1, ⟨tyX1, tyX1_ok⟩, nmX1⟩
  | 2, h => cases h; exact ⟨inlX2, ⟨tyX2, tyX2_ok⟩, nmX2⟩
  | 3, h => cases h; exact ⟨inlX3, ⟨tyX3, tyX3_ok⟩, nmX3⟩
  | 4, h => cases h; exact ⟨inlX4, ⟨tyX4, tyX4_ok⟩, nmX4⟩
  | 5, h => cases h; exact ⟨inlX5, ⟨tyX5, tyX5_ok⟩, nmX5⟩
  | 6, h => cases h; exact ⟨inlX6, ⟨tyX6, tyX6_ok⟩, nmX6⟩
  | 7, h => cases h; exact ⟨inlX7, ⟨tyX7, tyX7_ok⟩, nmX7⟩
  | 8, h => cases h; exact ⟨inlX8, ⟨tyX8, tyX8_ok⟩, nmX8⟩
  | 9, h => cases h; exact ⟨inlX9, ⟨tyX9, tyX9_ok⟩, nmX9⟩
  | 10, h => cases h; exact ⟨inlX10, ⟨tyX10, tyX10_ok⟩, nmX10⟩
  | 11, h => cases h; exact ⟨inlX11, ⟨tyX11, tyX11_ok⟩, nmX11⟩
  | 12, h => cases h; exact ⟨inlX12, ⟨tyX12, tyX12_ok⟩, nmX12⟩
  | n + 13, h => simp [vwCl] at h
section XI
variable {p : Program} {l : Launch} {e : Env} {R : Room} {s : State} {m : MethodId} {args : Array Value} {below : List Frame} {meth : Method} {c : Code} {H : Heap} {locs : List Loc} {cells slots : Nat} {Q : State → Prop} {cc : ByteArray} {nL pc : Nat} {own : String} {ls : Array Slot} {rest : List Value}
variable {D : va_G} {cy : Nat → ClassId} {q ad : Nat → Nat} {sp : Nat → x_K} {NC : Nat} {s0 : State} {M : x_M}
theorem x_CD (C : x_C p s m args c cc nL own D cy q NC s0) (M : x_M) : va_D (x_A q NC s.heap.size) (x_w cy q ad sp NC M) := x_w_D C.2.2.1 (fun k hk => Or.inl ⟨k, hk, rfl⟩) M
theorem x_iald (C : x_C p s m args c cc nL own D cy q NC s0) (hw : x_B D cy q ad sp NC s H locs M) (k n : Nat) (hs : sp k = .inl (0, n)) (hk : k < NC) {i : Int32} (hin : vp_in i n) (hdg : decode cc pc = .ok (.iaload, 1))
    (kk : W p l e R s m args below meth c H locs cells slots Q (F0 m (pc + 1) ls (.int (M k i.toNatClampNeg) :: rest))) : W p l e R s m args below meth c H locs cells slots Q (F0 m pc ls (.int i :: .ref (q k) :: rest)) :=
  va_iald C.1.1 C.1.2.1 C.2.1.1 hw.1 k 0 (by rw [x_w_get hk, hs]; rfl) rfl hin hdg kk
theorem x_iast (C : x_C p s m args c cc nL own D cy q NC s0) (hw : x_B D cy q ad sp NC s H locs M) (k n : Nat) (hs : sp k = .inl (0, n)) (hk : k < NC) {i x : Int32} (hin : vp_in i n) (hdg : decode cc pc = .ok (.iastore, 1))
    (kk : ∀ (H1 : Heap) (locs1 : List Loc), x_B D cy q ad sp NC s H1 locs1 (x_up M k i.toNatClampNeg x) → W p l e R s m args below meth c H1 locs1 cells slots Q (F0 m (pc + 1) ls rest)) : W p l e R s m args below meth c H locs cells slots Q (F0 m pc ls (.int x :: .int i :: .ref (q k) :: rest)) := by
  refine va_iast C.1.1 C.1.2.1 C.2.1.1 hw.1 (x_CD C M) hw.2 k 0 (cA := cy 0) (n := n) (f := M k) (by rw [x_w_get hk, hs]; rfl) rfl hin hdg (fun H1 locs1 hP _ hS => kk H1 locs1 ⟨?_, hS⟩)
  have e1 : (Sum.inl (cy 0, n, .inl (upd (M k) i.toNatClampNeg x)) : va_E) = x_E cy q ad (sp k) (upd (M k) i.toNatClampNeg x) := by rw [hs]; rfl
  rw [e1, x_w_set hk] at hP
  exact hP
theorem x_geti (C : x_C p s m args c cc nL own D cy q NC s0) (hw : x_B D cy q ad sp NC s H locs M) (k j : Nat) {ci z N index : Nat} {fs : List (Nat × Nat)} {K : String} {T : u_T} (hs : sp k = .inr (ci, fs)) (hk : k < NC) (hf : fs[j]? = some (0, z)) (hc : vwCl[ci]? = some (K, T, N)) (hj : j < N) (hl : Cond.fieldLink own index (T j).1 (T j).2.1 (T j).2.2.1 ∈ wsU) (hdg : decode cc pc = .ok (.getfield index, 3))
    (kk : W p l e R s m args below meth c H locs cells slots Q (F0 m (pc + 3) ls (.int (M k j) :: rest))) : W p l e R s m args below meth c H locs cells slots Q (F0 m pc ls (.ref (q k) :: rest)) :=
  va_get C.1.1 C.1.2.1 C.1.2.2.2.2 (x_cls hc).1 C.1.2.2.2.1 C.2.1.1 hw.1 k (by rw [x_w_get hk, hs]; rfl) hc j hj (C.1.2.2.2.2 _ hl) (fun _ h => h) (by have h := x_fs_get (q := q) (ad := ad) (row := M k) fs 0 j hf; rw [Nat.zero_add] at h; exact h) hdg kk
theorem x_getr (C : x_C p s m args c cc nL own D cy q NC s0) (hw : x_B D cy q ad sp NC s H locs M) (k j : Nat) {ci z N index : Nat} {fs : List (Nat × Nat)} {K : String} {T : u_T} (hs : sp k = .inr (ci, fs)) (hk : k < NC) (hf : fs[j]? = some (1, z)) (hc : vwCl[ci]? = some (K, T, N)) (hj : j < N) (hl : Cond.fieldLink own index (T j).1 (T j).2.1 (T j).2.2.1 ∈ wsU) (hdg : decode cc pc = .ok (.getfield index, 3))
    (kk : W p l e R s m args below meth c H locs cells slots Q (F0 m (pc + 3) ls (.ref (q z) :: rest))) : W p l e R s m args below meth c H locs cells slots Q (F0 m pc ls (.ref (q k) :: rest)) :=
  va_get C.1.1 C.1.2.1 C.1.2.2.2.2 (x_cls hc).1 C.1.2.2.2.1 C.2.1.1 hw.1 k (by rw [x_w_get hk, hs]; rfl) hc j hj (C.1.2.2.2.2 _ hl) (fun _ h => h) (by have h := x_fs_get (q := q) (ad := ad) (row := M k) fs 0 j hf; rw [Nat.zero_add] at h; exact h) hdg kk
theorem x_puti (C : x_C p s m args c cc nL own D cy q NC s0) (hw : x_B D cy q ad sp NC s H locs M) (k j : Nat) {ci z N index : Nat} {fs : List (Nat × Nat)} {K : String} {T : u_T} {ty : FieldType} {x : Int32} (hs : sp k = .inr (ci, fs)) (hk : k < NC) (hf : fs[j]? = some (0, z)) (hc : vwCl[ci]? = some (K, T, N)) (hj : j < N) (hl : Cond.fieldLink own index (T j).1 (T j).2.1 (T j).2.2.1 ∈ wsU) (hfin : (T j).2.2.2 = false) (hd : parseFieldDescriptor (T j).2.2.1 = some ty) (hn : narrow ty (.int x) = .int x) (hfit : fits ty (.int x) = true) (hdg : decode cc pc = .ok (.putfield index, 3))
    (kk : ∀ (H1 : Heap) (locs1 : List Loc), x_B D cy q ad sp NC s H1 locs1 (x_up M k j x) → W p l e R s m args below meth c H1 locs1 cells slots Q (F0 m (pc + 3) ls rest)) : W p l e R s m args below meth c H locs cells slots Q (F0 m pc ls (.int x :: .ref (q k) :: rest)) := by
  obtain ⟨h1, ⟨ty0, h2⟩, h3⟩ := x_cls hc
  refine va_put C.1.1 C.1.2.1 C.1.2.2.2.2 h1 ty0 h2 h3 C.1.2.2.2.1 C.2.1.1 hw.1 (x_CD C M) hw.2 k (fs := x_fs q ad (M k) 0 fs) (by rw [x_w_get hk, hs]; rfl) hc j hj (C.1.2.2.2.2 _ hl) (fun _ h => h) hfin hd hn hfit (by rw [x_fs_len]; exact (List.getElem?_eq_some_iff.mp hf).1) hdg (fun H1 locs1 hP _ hS => kk H1 locs1 ⟨?_, hS⟩)
  have e1 : (Sum.inr (ci, (x_fs q ad (M k) 0 fs).set j (.int x)) : va_E) = x_E cy q ad (sp k) (upd (M k) j x) := by
    have h := x_fs_set (q := q) (ad := ad) (row := M k) (x := x) fs 0 j hf
    rw [Nat.zero_add] at h
    have e2 : x_fv q ad (upd (M k) j x) j (0, z) = .int x := by simp [x_fv, upd]
    rw [e2] at h
    rw [h, hs]
    rfl
  rw [e1, x_w_set hk] at hP
  exact hP
theorem x_old (C : x_C p s m args c cc nL own D cy q NC s0) (hw : x_B D cy q ad sp NC s H locs M) : s0.heap.size ≤ H.size ∧ ∀ a, a < s0.heap.size → H[a]? = s0.heap[a]? := by
  obtain ⟨-, ⟨-, -, -, hz, ho⟩, hq⟩ := C
  refine ⟨Nat.le_trans hz hw.2.1, fun a ha => ?_⟩
  rw [hw.2.2.1 a (Nat.lt_of_lt_of_le ha hz) (x_A_old hq hz ha)]
  exact ho a ha
theorem x_blind {av : List Value} {sz : Nat} : FrameBlind (va_Pc av (x_Pre D cy q ad sp NC s0 sz M)) := fun a U g mk h => ⟨h.1, h.2.1, h.2.2.1.same (V := U.calling g mk a) rfl rfl, h.2.2.2⟩
theorem x_pre (C : x_C p s m args c cc nL own D cy q NC s0) (hw : x_B D cy q ad sp NC s H locs M) (av : List Value) (U : State) (hU : U.heap = H) (hW : s.WarmedH U.vm) : va_Pc av (x_Pre D cy q ad sp NC s0 H.size M) av.toArray U := by
  obtain ⟨h1, h2⟩ := x_old C hw
  exact ⟨rfl, by rw [hU], C.2.1.warm hW (by rw [hU]; exact h1) (by rw [hU]; exact h2), by rw [hU]; exact hw.1⟩
theorem x_A_sub {q : Nat → Nat} {NC a b : Nat} (h : a ≤ b) : ∀ z, x_A q NC b z → x_A q NC a z := fun _ hz => hz.elim Or.inl (fun g => Or.inr (Nat.le_trans h g))
/-- what the tables say of a method that is called -/
def x_ml (own : String) (index : Nat) (y : MethodName) (bytes : ByteArray) (maxL : Nat) (ret : Option FieldType) (n : Nat) : Prop := (Cond.methodLink own index y ∈ wsU ∧ Cond.initialized y.cls ∈ wsU ∧ Cond.code y bytes maxL ret ∈ wsU) ∧ (y.cls ≠ "java/lang/invoke/MethodHandle" ∧ y.cls ≠ "java/lang/invoke/VarHandle" ∧ (parseMethodDescriptor y.desc).map (fun d => d.parameters.length) = some n)
def x_mv (y : MethodName) : Prop := Cond.instanceMethod y ∈ wsU ∧ Cond.selects y.cls y y ∈ wsU
section XR
variable {y : MethodName} {bytes : ByteArray} {maxL index n : Nat} {ret : Option FieldType} {rm : Room} {As : List Value} {Pc : Array Value → State → Prop} {Qc : Array Value → State → Outcome → State → Prop} {free : Addr → Prop} {st : List Value}
/-- a call of an object of the world -/
theorem x_runV (C : x_C p s m args c cc nL own D cy q NC s0) (hw : x_B D cy q ad sp NC s H locs M) {k ci N : Nat} {fs : List (Nat × Nat)} {T : u_T} (hM : Met l y (x_uw y bytes maxL ret) rm (va_Pc (.ref (q k) :: As) (x_Pre D cy q ad sp NC s0 H.size M)) Qc 0 0 free) (ml : x_ml own index y bytes maxL ret n) (mv : x_mv y)
    (hs : sp k = .inr (ci, fs)) (hk : k < NC) (hc : vwCl[ci]? = some (y.cls, T, N)) (hrm : rm.cells = 0 ∧ rm.slots = 0 ∧ rm.frames + 1 ≤ R.frames ∧ 8 + (maxL + 11) + rm.locals ≤ R.locals) (hn : As.length = n) (hsz : ls.size = nL) (hst : st = As.reverse ++ .ref (q k) :: rest) (hrest : (rest.map fun v => v.category).sum ≤ 8) (hdg : decode cc pc = .ok (.invokevirtual index, 3)) (hcap : cells ≤ R.cells ∧ slots ≤ R.slots) :
    va_Run p l e R s m args below meth c H locs cells slots 0 0 (F0 m pc ls st) rest (Qc (Value.ref (q k) :: As).toArray) free := by
  obtain ⟨⟨m1, m2, m3⟩, md⟩ := ml
  obtain ⟨v1, v2⟩ := mv
  have hL := C.1.2.2.2.2
  refine va_runV (C := y.cls) (bytes := bytes) (maxL := maxL) (ret := ret) (n := n) C.1 hM ⟨callB_of n hL (x_uw_good (y := y) (cc := bytes) (n := maxL) (ret := ret) m3) rfl hrm.1 hrm.2.1 (hL _ m2) (hL _ m1) md hrm.2.2, hL _ v1, hL _ v2⟩ ⟨x_blind, ?_, fun U hU hW => x_pre C hw _ U hU hW⟩ rfl hn hsz hst (lv_room hrest) hdg hcap
  exact va_recv C.2.1.1 hw.1 hc (q0 := k) (by rw [x_w_get hk, hs]; rfl)
theorem x_runS (C : x_C p s m args c cc nL own D cy q NC s0) (hw : x_B D cy q ad sp NC s H locs M) (hM : Met l y (x_uw y bytes maxL ret) rm (va_Pc As (x_Pre D cy q ad sp NC s0 H.size M)) Qc 0 0 free) (ml : x_ml own index y bytes maxL ret n) (mv : Cond.static y ∈ wsU)
    (hrm : rm.cells = 0 ∧ rm.slots = 0 ∧ rm.frames + 1 ≤ R.frames ∧ 8 + (maxL + 11) + rm.locals ≤ R.locals) (hn : As.length = n) (hsz : ls.size = nL) (hst : st = As.reverse ++ rest) (hrest : (rest.map fun v => v.category).sum ≤ 8) (hdg : decode cc pc = .ok (.invokestatic index, 3)) (hcap : cells ≤ R.cells ∧ slots ≤ R.slots) :
    va_Run p l e R s m args below meth c H locs cells slots 0 0 (F0 m pc ls st) rest (Qc As.toArray) free := by
  obtain ⟨⟨m1, m2, m3⟩, md⟩ := ml
  have hL := C.1.2.2.2.2
  exact va_runS (bytes := bytes) (maxL := maxL) (ret := ret) (n := n) C.1 hM ⟨callB_of n hL (x_uw_good (y := y) (cc := bytes) (n := maxL) (ret := ret) m3) rfl hrm.1 hrm.2.1 (hL _ m2) (hL _ m1) md hrm.2.2, hL _ mv⟩ ⟨x_blind, fun U hU hW => x_pre C hw _ U hU hW⟩ rfl hn hsz hst (lv_room hrest) hdg hcap
/-- the same of a private method of another class of the nest -/
theorem x_runN (C : x_C p s m args c cc nL own D cy q NC s0) (hw : x_B D cy q ad sp NC s H locs M) (hM : Met l y (x_uw y bytes maxL ret) rm (va_Pc As (x_Pre D cy q ad sp NC s0 H.size M)) Qc 0 0 free) {host : String} (ml : Cond.methodLinkNest own index y host ∈ x_nest ∧ Cond.initialized y.cls ∈ wsU ∧ Cond.code y bytes maxL ret ∈ wsU) (md : y.cls ≠ "java/lang/invoke/MethodHandle" ∧ y.cls ≠ "java/lang/invoke/VarHandle" ∧ (parseMethodDescriptor y.desc).map (fun d => d.parameters.length) = some n) (mv : Cond.static y ∈ wsU)
    (hrm : rm.cells = 0 ∧ rm.slots = 0 ∧ rm.frames + 1 ≤ R.frames ∧ 8 + (maxL + 11) + rm.locals ≤ R.locals) (hn : As.length = n) (hsz : ls.size = nL) (hst : st = As.reverse ++ rest) (hrest : (rest.map fun v => v.category).sum ≤ 8) (hdg : decode cc pc = .ok (.invokestatic index, 3)) (hcap : cells ≤ R.cells ∧ slots ≤ R.slots) :
    va_Run p l e R s m args below meth c H locs cells slots 0 0 (F0 m pc ls st) rest (Qc As.toArray) free := by
  obtain ⟨m1, m2, m3⟩ := ml
  have hL := C.1.2.2.2.2
  exact va_runSN (bytes := bytes) (maxL := maxL) (ret := ret) (n := n) (host := host) C.1 hM ⟨va_cnB n hL (x_uw_good (y := y) (cc := bytes) (n := maxL) (ret := ret) m3) rfl hrm.1 hrm.2.1 (C.2.1.2.1 _ m1) (hL _ m2) md hrm.2.2, hL _ mv, trivial⟩ ⟨x_blind, fun U hU hW => x_pre C hw _ U hU hW⟩ rfl hn hsz hst (lv_room hrest) hdg hcap
end XR
/-- behind a call that answers an int -/
theorem x_calli {r : Int32} {M' : x_M} {a : Array Value} {st : List Value} (hw : x_B D cy q ad sp NC s H locs M) (hr : va_Run p l e R s m args below meth c H locs cells slots 0 0 (F0 m pc ls st) rest (va_Qi (fun r' (u : x_M) => r' = r ∧ u = M') (x_Post D cy q ad sp NC) (x_A q NC H.size) a) (x_A q NC H.size))
    (kk : ∀ (H1 : Heap) (locs1 : List Loc), x_B D cy q ad sp NC s H1 locs1 M' → W p l e R s m args below meth c H1 locs1 cells slots Q (F0 m (pc + 3) ls (.int r :: rest))) : W p l e R s m args below meth c H locs cells slots Q (F0 m pc ls st) := by
  refine va_calli hr hw.2 (fun z _ h => x_A_sub hw.2.1 z h) (x_A_sub hw.2.1) (fun r' u t H1 locs1 ht hvm hp hB hz1 hk1 hS => ?_)
  obtain ⟨rfl, rfl⟩ := hp
  exact kk H1 locs1 ⟨by rw [← ht]; exact hB, hS⟩
theorem x_calll {r : Int64} {M' : x_M} {a : Array Value} {st : List Value} (hw : x_B D cy q ad sp NC s H locs M) (hr : va_Run p l e R s m args below meth c H locs cells slots 0 0 (F0 m pc ls st) rest (va_Ql (fun r' (u : x_M) => r' = r ∧ u = M') (x_Post D cy q ad sp NC) (x_A q NC H.size) a) (x_A q NC H.size))
    (kk : ∀ (H1 : Heap) (locs1 : List Loc), x_B D cy q ad sp NC s H1 locs1 M' → W p l e R s m args below meth c H1 locs1 cells slots Q (F0 m (pc + 3) ls (.long r :: rest))) : W p l e R s m args below meth c H locs cells slots Q (F0 m pc ls st) := by
  refine va_calll hr hw.2 (fun z _ h => x_A_sub hw.2.1 z h) (x_A_sub hw.2.1) (fun r' u t H1 locs1 ht hvm hp hB hz1 hk1 hS => ?_)
  obtain ⟨rfl, rfl⟩ := hp
  exact kk H1 locs1 ⟨by rw [← ht]; exact hB, hS⟩
theorem x_callv {M' : x_M} {a : Array Value} {st : List Value} (hw : x_B D cy q ad sp NC s H locs M) (hr : va_Run p l e R s m args below meth c H locs cells slots 0 0 (F0 m pc ls st) rest (va_Qv (fun (u : x_M) => u = M') (x_Post D cy q ad sp NC) (x_A q NC H.size) a) (x_A q NC H.size))
    (kk : ∀ (H1 : Heap) (locs1 : List Loc), x_B D cy q ad sp NC s H1 locs1 M' → W p l e R s m args below meth c H1 locs1 cells slots Q (F0 m (pc + 3) ls rest)) : W p l e R s m args below meth c H locs cells slots Q (F0 m pc ls st) := by
  refine va_callv hr hw.2 (fun z _ h => x_A_sub hw.2.1 z h) (x_A_sub hw.2.1) (fun u t H1 locs1 ht hvm hp hB hz1 hk1 hS => ?_)
  subst hp
  exact kk H1 locs1 ⟨by rw [← ht]; exact hB, hS⟩
end XI
