/-! ===== an E worked out ===== -/
def z_jn (c a b : Int32) : Int32 := if c = -124 then (if a = 0 then (if b = 0 then nI 0 else nI 1) else nI 1) else if c = -38 then (if a = 0 then nI 0 else if b = 0 then nI 0 else nI 1) else if c = -60 then (if b ≤ a then nI 0 else nI 1) else if c = -61 then (if a = b then nI 1 else nI 0) else if c = -62 then (if a ≤ b then nI 0 else nI 1) else if c = -43 then a + b else if c = -45 then a - b else if c = -42 then a * b else if b = 0 then nI 0 else a / b
theorem z_jnX {X : x_M} {c a b : Int32} (h : z_opr c) : f_X1_joined X (-c) a b = some (z_jn c a b, X) := by
  unfold f_X1_joined f_X1_joined_84 f_X1_joined_102 z_jn x_dv
  rcases h with rfl | rfl | rfl | rfl | rfl | rfl | rfl | rfl | rfl <;> simp +decide only [if_true, if_false] <;> (repeat' split) <;> first | rfl | contradiction
theorem z_jnM {M : x_M} {c a b : Int32} (h : z_opr c) : f_X12_both M (z_wo c) a b = some (z_jn c a b, M) := by
  unfold f_X12_both f_X12_both_84 f_X12_both_102 z_jn x_dv
  rcases h with rfl | rfl | rfl | rfl | rfl | rfl | rfl | rfl | rfl <;> simp +decide only [if_true, if_false] <;> (repeat' split) <;> first | rfl | contradiction
def z_e1 (env : Nat → Int32) (c : Int32) (st : List Int32) : List Int32 := if 0 ≤ c then c :: st else if nI 97 ≤ -c ∧ -c ≤ nI 122 then env (-c).toNatClampNeg :: st else if c = -33 then (match st with
  | a :: s => (if a = 0 then nI 1 else nI 0) :: s
  | [] => []) else match st with
  | b :: a :: s => z_jn c a b :: s
  | s => s
def z_ev (env : Nat → Int32) : List Int32 → List Int32 → Int32
  | [], st => st.headD 0
  | c :: l, st => z_ev env l (z_e1 env c st)
def z_stk (row : Nat → Int32) (st : List Int32) : Prop := ∀ j, j < st.length → row j = st.getD (st.length - 1 - j) 0
theorem z_stk_push {row : Nat → Int32} {st : List Int32} {v : Int32} (h : z_stk row st) : z_stk (upd row st.length v) (v :: st) := by
  intro j hj
  rw [List.length_cons] at hj ⊢
  by_cases e : j = st.length
  · subst e
    rw [z_us, show st.length + 1 - 1 - st.length = 0 by omega]
    rfl
  · rw [z_un e, h j (by omega), show st.length + 1 - 1 - j = (st.length - 1 - j) + 1 by omega]
    rfl
theorem z_stk_pop {row : Nat → Int32} {st : List Int32} {a : Int32} (h : z_stk row (a :: st)) : row st.length = a ∧ z_stk row st := by
  refine ⟨?_, fun j hj => ?_⟩
  · have := h st.length (by rw [List.length_cons]; omega)
    rw [List.length_cons, show st.length + 1 - 1 - st.length = 0 by omega] at this
    exact this
  · have := h j (by rw [List.length_cons]; omega)
    rw [List.length_cons, show st.length + 1 - 1 - j = (st.length - 1 - j) + 1 by omega] at this
    exact this
theorem z_stk_set {row : Nat → Int32} {st : List Int32} {a v : Int32} (h : z_stk row (a :: st)) : z_stk (upd row st.length v) (v :: st) := z_stk_push (z_stk_pop h).2
def z_lets : List Nat := [108, 102, 112, 99, 116, 107, 111, 100, 113]
theorem z_nm_l {w b : Nat} (h : b ∈ z_nm w) : b ∈ z_lets := by
  unfold z_nm at h
  unfold z_lets
  split at h <;> simp only [List.mem_cons, List.not_mem_nil, or_false] at h ⊢ <;> omega
theorem z_lets_b {b : Nat} (h : b ∈ z_lets) : 97 ≤ b ∧ b ≤ 122 := by
  unfold z_lets at h
  simp only [List.mem_cons, List.not_mem_nil, or_false] at h
  omega
def z_envX (row : Nat → Int32) (b : Nat) : Int32 := if b = 99 then row 5 else if b = 100 then row 7 else if b = 102 then row 3 else if b = 107 then row 9 else if b = 108 then row 2 else if b = 111 then row 6 else if b = 112 then row 4 else if b = 116 then row 8 else row 10
theorem z_namX {X : x_M} {b : Nat} (h : b ∈ z_lets) : f_X1_named X (nI b) = some (z_envX (X 68) b, X) := by
  unfold z_lets at h
  simp only [List.mem_cons, List.not_mem_nil, or_false] at h
  unfold f_X1_named z_envX
  rcases h with rfl | rfl | rfl | rfl | rfl | rfl | rfl | rfl | rfl <;> simp +decide only [if_true, if_false, z_gf]
theorem z_envX_c {row row' : Nat → Int32} {b : Nat} (h : ∀ c, c ≠ 1 → row' c = row c) : z_envX row' b = z_envX row b := by
  unfold z_envX
  simp (disch := omega) only [h]
theorem z_neg {b : Nat} (h1 : 1 ≤ b) (h2 : b < 1000000) : (-(nI b) < 0) ∧ -(-(nI b)) = nI b ∧ ¬ (0 ≤ -(nI b)) := by
  have e : (-(nI b)).toInt = -(b : Int) := by
    rw [Int32.toInt_neg, nI_toInt (by omega), Int.bmod_eq_of_le (by omega) (by omega)]
  refine ⟨?_, by rw [Int32.neg_neg], ?_⟩
  · rw [Int32.lt_iff_toInt_lt, e, show (0 : Int32).toInt = 0 by decide]
    omega
  · rw [Int32.le_iff_toInt_le, e, show (0 : Int32).toInt = 0 by decide]
    omega
/-- the class pushes -/
theorem z_push {X : x_M} {n : Nat} {v : Int32} (h : X 68 1 = nI n) (hn : n < 132) : f_X1_push X v = some ((), x_up (x_up X 69 n v) 68 1 (nI (n + 1))) := by
  unfold f_X1_push
  rw [z_gf, h, if_neg (by rw [z_le (by omega) (by omega)]; omega), z_gf, h, z_wr hn (by omega), z_gf, z_upn (by omega), h, z_pf, z_add]
theorem z_popX {X : x_M} {n : Nat} (h : X 68 1 = nI (n + 1)) (hn : n < 132) : f_X1_pop X = some (X 69 n, x_up X 68 1 (nI n)) := by
  unfold f_X1_pop
  rw [z_gf, h, if_pos (by rw [z_0lt (by omega)]; omega), z_gf, h, z_pf, z_sub (by omega), z_gf, z_upr, z_us, z_rd (by omega) (by omega), z_upn (by omega)]
  rfl
def z_svd (X X' : x_M) : Prop := (∀ q, q ≠ 68 → q ≠ 69 → X' q = X q) ∧ ∀ c, c ≠ 1 → X' 68 c = X 68 c
theorem z_svd_t {X X' X'' : x_M} (h : z_svd X X') (h' : z_svd X' X'') : z_svd X X'' := ⟨fun q h1 h2 => by rw [h'.1 q h1 h2, h.1 q h1 h2], fun c hc => by rw [h'.2 c hc, h.2 c hc]⟩
theorem z_svd_1 {X : x_M} {v : Int32} : z_svd X (x_up X 68 1 v) := ⟨fun q h1 _ => z_upn h1, fun c hc => by rw [z_upr, z_un hc]⟩
theorem z_svd_9 {X : x_M} {i : Nat} {v : Int32} : z_svd X (x_up X 69 i v) := ⟨fun q _ h2 => z_upn h2, fun c _ => by rw [z_upn (by omega)]⟩
theorem z_svd_r {X : x_M} : z_svd X X := ⟨fun _ _ _ => rfl, fun _ _ => rfl⟩
theorem z_evX {NC r T : Nat} (htk : z_tk NC r) (hN : NC ≤ 100000) (hT : T ≤ 132) {env : Nat → Int32} {N : List Nat} (hNl : ∀ b, b ∈ N → b ∈ z_lets) : ∀ (l : List Int32) (st : List Int32) (i fu : Nat) (X : x_M), z_wf N l st.length 1 → l.length < fu → st.length + l.length ≤ 132 → (∀ j, j < l.length → X r (i + j) = l.getD j 0) → X r 2147483648 = nI T → i + l.length ≤ T → X 68 1 = nI st.length → z_stk (X 69) st → (∀ b, b ∈ N → z_envX (X 68) b = env b) → ∃ X', f_X1_workedOut_18 NC fu X (nI r) (nI (i + l.length)) (nI i) = some (z_ev env l st, X') ∧ z_svd X X' := by
  have hr : 88 < r ∧ r < 1000000 := by unfold z_tk at htk; omega
  intro l
  induction l with
  | nil =>
    intro st i fu X hwf hfu hd hrow hlen hi htop hst henv
    obtain ⟨fu, rfl⟩ : ∃ a, fu = a + 1 := ⟨fu - 1, by omega⟩
    have hwf : st.length = 1 := hwf
    obtain ⟨a, rfl⟩ : ∃ a, st = [a] := List.length_eq_one_iff.mp hwf
    rw [List.length_nil] at hi
    rw [f_X1_workedOut_18_s, List.length_nil, if_pos (by rw [z_le (by omega) (by omega)]; omega), z_popX (n := 0) htop (by omega), z_bn, show X 69 0 = a from (z_stk_pop hst).1]
    exact ⟨_, rfl, z_svd_1⟩
  | cons c l ih =>
    intro st i fu X hwf hfu hd hrow hlen hi htop hst henv
    obtain ⟨fu, rfl⟩ : ∃ a, fu = a + 1 := ⟨fu - 1, by omega⟩
    rw [List.length_cons] at hd hi hfu
    have hc : X r i = c := by
      have := hrow 0 (by rw [List.length_cons]; omega)
      exact this
    have next : ∀ (st' : List Int32) (X' : x_M), z_wf N l st'.length 1 → st'.length ≤ st.length + 1 → z_svd X X' → X' 68 1 = nI st'.length → z_stk (X' 69) st' → ∃ X'', f_X1_workedOut_122 NC (f_X1_workedOut_18 NC fu) X' (nI r) (nI (i + (c :: l).length)) (nI i) = some (z_ev env l st', X'') ∧ z_svd X X'' := by
      intro st' X' h1 h2 h3 h4 h5
      unfold f_X1_workedOut_122
      have hr1 : X' r = X r := h3.1 r (by omega) (by omega)
      obtain ⟨X'', a1, a2⟩ := ih st' (i + 1) fu X' h1 (by omega) (by omega) (fun j hj => by
        rw [hr1, show i + 1 + j = i + (j + 1) by omega, hrow (j + 1) (by rw [List.length_cons]; omega)]
        rfl) (by rw [hr1]; exact hlen) (by omega) h4 h5 (fun b hb => by rw [z_envX_c h3.2]; exact henv b hb)
      rw [z_add, List.length_cons, show i + (l.length + 1) = i + 1 + l.length by omega]
      exact ⟨X'', a1, z_svd_t h3 a2⟩
    have pushed : ∀ (v : Int32) (st' : List Int32) (X' : x_M), z_wf N l (st'.length + 1) 1 → st'.length ≤ st.length → z_svd X X' → X' 68 1 = nI st'.length → z_stk (X' 69) st' → ∃ X'', x_bn (f_X1_push X' v) (fun _ M => f_X1_workedOut_122 NC (f_X1_workedOut_18 NC fu) M (nI r) (nI (i + (c :: l).length)) (nI i)) = some (z_ev env l (v :: st'), X'') ∧ z_svd X X'' := by
      intro v st' X' h1 h2 h3 h4 h5
      rw [z_push h4 (by omega), z_bn]
      refine next (v :: st') _ h1 (by rw [List.length_cons]; omega) (z_svd_t h3 (z_svd_t z_svd_9 z_svd_1)) ?_ ?_
      · rw [z_upr, z_us]
        rfl
      · rw [z_upn (by omega), z_upr]
        exact z_stk_push h5
    rw [f_X1_workedOut_18_s, if_neg (by rw [z_le (by rw [List.length_cons]; omega) (by omega), List.length_cons]; omega), z_xtk htk hN, z_xtk htk hN, nI_clamp (by omega), hlen, nI_clamp (by omega), z_rd (by omega) (by omega), hc, z_ev]
    rcases hwf with ⟨h1, h2⟩ | ⟨rfl, h2, h3⟩ | ⟨h1, h2, h3⟩
    · rcases h1 with ⟨v, hv, rfl⟩ | ⟨b, hb, rfl⟩
      · have e1 : z_e1 env (nI v) st = nI v :: st := by
          unfold z_e1
          rw [if_pos (by rw [z_0le (by omega)]; trivial)]
        rw [if_neg (by rw [z_lt0 (by omega)]; exact id), e1]
        exact pushed (nI v) st X h2 (Nat.le_refl _) z_svd_r htop hst
      · have hl := hNl b hb
        have hbb := z_lets_b hl
        obtain ⟨n1, n2, n3⟩ := z_neg (b := b) (by omega) (by omega)
        have e1 : z_e1 env (-(nI b)) st = env b :: st := by
          unfold z_e1
          rw [if_neg n3, n2, if_pos (by rw [z_le (by omega) (by omega), z_le (by omega) (by omega)]; omega), nI_clamp (by omega)]
        rw [if_pos n1, n2, z_wi, z_bn, if_neg (show ¬ (nI b < nI 97 ∨ nI 122 < nI b) by rw [z_lt (by omega) (by omega), z_lt (by omega) (by omega)]; omega), if_neg z_n10, z_namX hl, z_bn, henv b hb, e1]
        exact pushed (env b) st X h2 (Nat.le_refl _) z_svd_r htop hst
    · obtain ⟨a, s, rfl⟩ : ∃ a s, st = a :: s := by
        match st, h2 with
        | a :: s, _ => exact ⟨a, s, rfl⟩
      have e1 : z_e1 env (-33) (a :: s) = (if a = 0 then nI 1 else nI 0) :: s := by
        unfold z_e1
        rw [if_neg (by decide), if_neg (by decide), if_pos rfl]
      rw [List.length_cons] at htop hd h3
      rw [if_pos (by decide), z_wi, z_bn, if_pos (show (-(-33 : Int32)) < nI 97 ∨ nI 122 < -(-33) by decide), if_pos z_n00, if_pos rfl, z_popX htop (by omega), z_bn, (z_stk_pop hst).1, e1]
      unfold f_X1_workedOut_94
      by_cases ha : a = 0
      · rw [if_pos ha, if_pos ha]
        exact pushed _ s _ h3 (by rw [List.length_cons]; omega) z_svd_1 (by rw [z_upr, z_us]) (by rw [z_upn (by omega)]; exact (z_stk_pop hst).2)
      · rw [if_neg ha, if_neg ha]
        exact pushed _ s _ h3 (by rw [List.length_cons]; omega) z_svd_1 (by rw [z_upr, z_us]) (by rw [z_upn (by omega)]; exact (z_stk_pop hst).2)
    · obtain ⟨b, a, s, rfl⟩ : ∃ b a s, st = b :: a :: s := by
        match st, h2 with
        | b :: a :: s, _ => exact ⟨b, a, s, rfl⟩
      have hcs : c < 0 ∧ (-c < nI 97 ∨ nI 122 < -c) ∧ ¬ c = -33 ∧ ¬ (0 ≤ c) ∧ ¬ (nI 97 ≤ -c ∧ -c ≤ nI 122) := by
        rcases h1 with rfl | rfl | rfl | rfl | rfl | rfl | rfl | rfl | rfl <;> decide
      obtain ⟨q1, q2, q3, q4, q5⟩ := hcs
      have e1 : z_e1 env c (b :: a :: s) = z_jn c a b :: s := by
        unfold z_e1
        rw [if_neg q4, if_neg q5, if_neg q3]
      rw [List.length_cons, List.length_cons] at htop hd h3
      have p1 := z_stk_pop hst
      have p2 := z_stk_pop p1.2
      rw [List.length_cons] at p1
      rw [if_pos q1, z_wi, z_bn, if_pos q2, if_pos z_n00, if_neg q3, z_popX htop (by omega), z_bn, p1.1, z_popX (n := s.length) (by rw [z_upr, z_us]) (by omega), z_bn, z_upn (by omega), p2.1, z_jnX h1, z_bn, e1]
      exact pushed _ s _ h3 (by rw [List.length_cons, List.length_cons]; omega) (z_svd_t z_svd_1 z_svd_1) (by rw [z_upr, z_us]) (by rw [z_upn (by omega), z_upn (by omega)]; exact p2.2)
/-- the class works part w of some TERMS out -/
theorem z_wkX {NC r w : Nat} {X : x_M} {cd : Nat → List Int32} {env : Nat → Int32} (htk : z_tk NC r) (hN : NC ≤ 100000) (hw : w < 4) (hcd : z_code X r cd) (hwf : z_wf (z_nm w) (cd w) 0 1) (henv : ∀ b, b ∈ z_nm w → z_envX (X 68) b = env b) : ∃ X', f_X1_workedOut NC X (nI r) (nI w) = some (z_ev env (cd w) [], X') ∧ z_svd X X' := by
  have hr : 88 < r ∧ r < 1000000 := by unfold z_tk at htk; omega
  obtain ⟨c1, c2, c3⟩ := hcd
  obtain ⟨c4, c5⟩ := c3 w hw
  have hbw : z_beg cd (w + 1) ≤ z_beg cd 4 := by
    rcases (show w = 0 ∨ w = 1 ∨ w = 2 ∨ w = 3 by omega) with rfl | rfl | rfl | rfl <;> simp only [z_beg] <;> omega
  have hb1 : z_beg cd (w + 1) = z_beg cd w + (cd w).length := rfl
  unfold f_X1_workedOut
  have u1 : (x_up X 68 1 (nI 0)) (r + 1) = X (r + 1) := z_upn (by omega)
  have u0 : (x_up X 68 1 (nI 0)) r = X r := z_upn (by omega)
  have ebeg : ∀ Y : x_M, Y (r + 1) = X (r + 1) → f_X8_begin NC Y (nI r) (nI w) = some (nI (z_beg cd w), Y) := by
    intro Y hY
    unfold f_X8_begin f_X8_begin_24
    simp only [z_xtk htk hN]
    by_cases e : w = 0
    · subst e
      rw [if_pos (show (nI 0 : Int32) ≤ 0 by decide)]
      rfl
    · rw [if_neg (show ¬ (nI w ≤ 0) by rw [z_le0 (by omega)]; omega), if_neg (show ¬ (nI 4 < nI w) by rw [z_lt (by omega) (by omega)]; omega), nI_clamp (by omega), z_sub (by omega), z_rd (by omega) (by omega), hY, (c3 (w - 1) (by omega)).1, show w - 1 + 1 = w by omega]
  have eend : ∀ Y : x_M, Y (r + 1) = X (r + 1) → Y r = X r → f_X8_end NC Y (nI r) (nI w) = some (nI (z_beg cd (w + 1)), Y) := by
    intro Y hY hY0
    unfold f_X8_end f_X8_end_30
    simp only [z_xtk htk hN]
    rw [if_neg (show ¬ (nI w < 0) by rw [z_lt0 (by omega)]; exact id), if_neg (show ¬ (nI 4 ≤ nI w) by rw [z_le (by omega) (by omega)]; omega), nI_clamp (by omega), z_rd (by omega) (by omega), z_vl, hY, hY0, c4, c1, nI_clamp (by omega), if_neg (show ¬ (nI (z_beg cd 4) < nI (z_beg cd (w + 1))) by rw [z_lt (by omega) (by omega)]; omega)]
  rw [z_pf]
  simp only [z_xtk htk hN]
  rw [eend (x_up X 68 1 (nI 0)) u1 u0, z_bn, ebeg (x_up X 68 1 (nI 0)) u1, z_bn, hb1]
  obtain ⟨X', a1, a2⟩ := z_evX (T := z_beg cd 4) htk hN c2 (env := env) (N := z_nm w) (fun b => z_nm_l) (cd w) [] (z_beg cd w) x_FU (x_up X 68 1 (nI 0)) hwf (by unfold x_FU; omega) (by rw [List.length_nil]; omega) (fun j hj => by rw [u0]; exact c5 j hj) (by rw [u0]; exact c1) (by omega) (by rw [z_upr, z_us]; rfl) (fun j hj => by rw [List.length_nil] at hj; omega) (fun b hb => by rw [z_envX_c (row := X 68) (fun c hc => by rw [z_upr, z_un hc])]; exact henv b hb)
  exact ⟨X', a1, z_svd_t z_svd_1 a2⟩
/-- the reference -/
theorem z_evM {base : Nat} (hbs : base < 5200) {env : Nat → Int32} {N : List Nat} (hNl : ∀ b, b ∈ N → b ∈ z_lets) : ∀ (l : List Int32) (st : List Int32) (i fu : Nat) (M : x_M), z_wf N l st.length 1 → l.length < fu → st.length + l.length ≤ 132 → i + l.length ≤ 132 → M 1 base = nI (i + l.length) → (∀ j, j < l.length → M 1 (base + 1 + 2 * (i + j)) = z_wo (l.getD j 0) ∧ M 1 (base + 2 + 2 * (i + j)) = z_wv (l.getD j 0)) → z_stk (M 6) st → (∀ b, b ∈ N → M 7 b = env b) → ∃ M', f_X12_worked_24 fu M (nI st.length) (nI base) (nI i) = some (z_ev env l st, M') ∧ ∀ q, q ≠ 6 → M' q = M q := by
  intro l
  induction l with
  | nil =>
    intro st i fu M hwf hfu hd hi hlen hrow hst henv
    obtain ⟨fu, rfl⟩ : ∃ a, fu = a + 1 := ⟨fu - 1, by omega⟩
    have hwf : st.length = 1 := hwf
    obtain ⟨a, rfl⟩ : ∃ a, st = [a] := List.length_eq_one_iff.mp hwf
    rw [List.length_nil] at hlen hi
    rw [f_X12_worked_24_s, z_rd (by omega) (by omega), hlen, if_pos (by rw [z_le (by omega) (by omega)]; omega), z_rd (by omega) (by omega), show M 6 0 = a from (z_stk_pop hst).1]
    exact ⟨M, rfl, fun _ _ => rfl⟩
  | cons c l ih =>
    intro st i fu M hwf hfu hd hi hlen hrow hst henv
    obtain ⟨fu, rfl⟩ : ∃ a, fu = a + 1 := ⟨fu - 1, by omega⟩
    have hlen' := hlen
    rw [List.length_cons] at hd hi hfu hlen'
    obtain ⟨ho, hv⟩ : M 1 (base + 1 + 2 * i) = z_wo c ∧ M 1 (base + 2 + 2 * i) = z_wv c := by
      have := hrow 0 (by rw [List.length_cons]; omega)
      exact this
    have next : ∀ (st' : List Int32) (M' : x_M), z_wf N l st'.length 1 → st'.length ≤ st.length + 1 → (∀ q, q ≠ 6 → M' q = M q) → z_stk (M' 6) st' → ∃ M'', f_X12_worked_173 (f_X12_worked_24 fu) M' (nI st'.length) (nI base) (nI i) = some (z_ev env l st', M'') ∧ ∀ q, q ≠ 6 → M'' q = M q := by
      intro st' M' h1 h2 h3 h4
      unfold f_X12_worked_173
      have hr1 : M' 1 = M 1 := h3 1 (by omega)
      obtain ⟨M'', a1, a2⟩ := ih st' (i + 1) fu M' h1 (by omega) (by omega) (by omega) (by rw [hr1, hlen', show i + 1 + l.length = i + (l.length + 1) by omega]) (fun j hj => by
        rw [hr1, show i + 1 + j = i + (j + 1) by omega]
        exact hrow (j + 1) (by rw [List.length_cons]; omega)) h4 (fun b hb => by rw [h3 7 (by omega)]; exact henv b hb)
      rw [z_add]
      exact ⟨M'', a1, fun q hq => by rw [a2 q hq, h3 q hq]⟩
    have put : ∀ (v : Int32) (s : List Int32), z_wf N l (s.length + 1) 1 → s.length ≤ st.length → z_stk (upd (M 6) s.length v) (v :: s) → ∃ M'', x_wr 140 M 6 (nI s.length) v (fun M => f_X12_worked_173 (f_X12_worked_24 fu) M (nI (s.length + 1)) (nI base) (nI i)) = some (z_ev env l (v :: s), M'') ∧ ∀ q, q ≠ 6 → M'' q = M q := by
      intro v s h1 h2 h3
      rw [z_wr (by omega) (by omega)]
      refine next (v :: s) _ h1 (by rw [List.length_cons]; omega) (fun q hq => z_upn hq) ?_
      rw [z_upr]
      exact h3
    rw [f_X12_worked_24_s, z_rd (by omega) (by omega), hlen', if_neg (by rw [z_le (by omega) (by omega)]; omega)]
    simp (disch := omega) only [z_add, z_mul, z_rd]
    rw [ho, hv, z_ev]
    rcases hwf with ⟨h1, h2⟩ | ⟨rfl, h2, h3⟩ | ⟨h1, h2, h3⟩
    · rcases h1 with ⟨v, hv, rfl⟩ | ⟨b, hb, rfl⟩
      · have e1 : z_e1 env (nI v) st = nI v :: st := by
          unfold z_e1
          rw [if_pos (by rw [z_0le (by omega)]; trivial)]
        have e2 : z_wo (nI v) = nI 1 ∧ z_wv (nI v) = nI v := by
          unfold z_wo z_wv
          rw [if_pos (by rw [z_0le (by omega)]; trivial), if_pos (by rw [z_0le (by omega)]; trivial)]
          exact ⟨rfl, rfl⟩
        unfold f_X12_worked_80 f_X12_worked_103
        rw [e2.1, e2.2, if_pos rfl, if_pos rfl, e1, z_add]
        exact put (nI v) st h2 (Nat.le_refl _) (z_stk_push hst)
      · have hl := hNl b hb
        have hbb := z_lets_b hl
        obtain ⟨n1, n2, n3⟩ := z_neg (b := b) (by omega) (by omega)
        have hin : nI 97 ≤ nI b ∧ nI b ≤ nI 122 := by
          rw [z_le (by omega) (by omega), z_le (by omega) (by omega)]
          omega
        have e1 : z_e1 env (-(nI b)) st = env b :: st := by
          unfold z_e1
          rw [if_neg n3, n2, if_pos hin, nI_clamp (by omega)]
        have e2 : z_wo (-(nI b)) = nI 2 ∧ z_wv (-(nI b)) = nI b := by
          unfold z_wo z_wv
          rw [if_neg n3, if_neg n3, n2, if_pos hin, if_pos hin]
          exact ⟨rfl, rfl⟩
        unfold f_X12_worked_80 f_X12_worked_103
        rw [e2.1, e2.2, if_neg (by decide), if_pos rfl, if_neg (by decide), z_rd (by omega) (by omega), henv b hb, e1, z_add]
        exact put (env b) st h2 (Nat.le_refl _) (z_stk_push hst)
    · obtain ⟨a, s, rfl⟩ : ∃ a s, st = a :: s := by
        match st, h2 with
        | a :: s, _ => exact ⟨a, s, rfl⟩
      have e1 : z_e1 env (-33) (a :: s) = (if a = 0 then nI 1 else nI 0) :: s := by
        unfold z_e1
        rw [if_neg (by decide), if_neg (by decide), if_pos rfl]
      have e2 : z_wo (-33) = nI 3 := by decide
      rw [List.length_cons] at hd h3
      unfold f_X12_worked_139
      rw [e2, if_neg (by decide), if_neg (by decide), if_pos rfl, e1, List.length_cons, z_sub (by omega), show s.length + 1 - 1 = s.length by omega, z_rd (by omega) (by omega), (z_stk_pop hst).1]
      by_cases ha : a = 0
      · rw [if_pos ha, if_pos ha]
        exact put _ s h3 (by rw [List.length_cons]; omega) (z_stk_set hst)
      · rw [if_neg ha, if_neg ha]
        exact put _ s h3 (by rw [List.length_cons]; omega) (z_stk_set hst)
    · obtain ⟨b, a, s, rfl⟩ : ∃ b a s, st = b :: a :: s := by
        match st, h2 with
        | b :: a :: s, _ => exact ⟨b, a, s, rfl⟩
      have hcs : ¬ z_wo c = nI 1 ∧ ¬ z_wo c = nI 2 ∧ ¬ z_wo c = nI 3 ∧ ¬ c = -33 ∧ ¬ (0 ≤ c) ∧ ¬ (nI 97 ≤ -c ∧ -c ≤ nI 122) := by
        rcases h1 with rfl | rfl | rfl | rfl | rfl | rfl | rfl | rfl | rfl <;> decide
      obtain ⟨q0, q1, q2, q3, q4, q5⟩ := hcs
      have e1 : z_e1 env c (b :: a :: s) = z_jn c a b :: s := by
        unfold z_e1
        rw [if_neg q4, if_neg q5, if_neg q3]
      rw [List.length_cons, List.length_cons] at hd h3
      have p1 := z_stk_pop hst
      have p2 := z_stk_pop p1.2
      rw [List.length_cons] at p1
      rw [if_neg q0, if_neg q1, if_neg q2, List.length_cons, List.length_cons, z_m1 (by omega), show s.length + 1 + 1 - 1 = s.length + 1 by omega, z_sub (by omega), show s.length + 1 - 1 = s.length by omega, z_rd (by omega) (by omega), z_rd (by omega) (by omega), p1.1, p2.1, z_jnM h1, z_bn, e1]
      exact put _ s h3 (by rw [List.length_cons, List.length_cons]; omega) (z_stk_push p2.2)
theorem z_wkM {k w : Nat} {M : x_M} {cd : Nat → List Int32} {env : Nat → Int32} (hk : k < 4) (hw : w < 4) (hl : (cd w).length ≤ 132) (hcd : z_wds (M 1) (1052 + 1062 * k) cd) (hwf : z_wf (z_nm w) (cd w) 0 1) (henv : ∀ b, b ∈ z_nm w → M 7 b = env b) : ∃ M', f_X12_worked M (nI k) (nI w) = some (z_ev env (cd w) [], M') ∧ ∀ q, q ≠ 6 → M' q = M q := by
  obtain ⟨c1, c2⟩ := hcd w hw
  unfold f_X12_worked
  simp only [z_mul, z_add]
  rw [show 1050 + 1062 * k + 2 + 265 * w = 1052 + 1062 * k + 265 * w by omega]
  exact z_evM (by omega) (fun b => z_nm_l) (cd w) [] 0 x_FU M hwf (by unfold x_FU; omega) (by rw [List.length_nil]; omega) (by omega) (by rw [c1, Nat.zero_add]) (fun j hj => by rw [Nat.zero_add]; exact c2 j hj) (fun j hj => by rw [List.length_nil] at hj; omega) henv
