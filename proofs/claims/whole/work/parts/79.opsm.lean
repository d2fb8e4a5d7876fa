/-! ===== as the reference stands while it reads ===== -/
def z_ost (row : Nat → Int32) : List Nat → Prop
  | [] => True
  | x :: st => row st.length = nI x ∧ z_ost row st
theorem z_ost_fr {row row' : Nat → Int32} : ∀ st : List Nat, (∀ j, j < st.length → row' j = row j) → z_ost row st → z_ost row' st
  | [], _, _ => trivial
  | x :: st, h, hs => ⟨by rw [h _ (by simp)]; exact hs.1, z_ost_fr st (fun j hj => h j (by rw [List.length_cons]; omega)) hs.2⟩
def z_cM (M : x_M) (B : Nat → Nat) (n s cnt cl pa ba bd : Nat) (ft : Int32) (out : List Int32) (st : List Nat) : Prop := z_bM M B n ∧ s ≤ n ∧ M 0 5 = nI s ∧ M 0 6 = nI (z_en B n s) ∧ M 0 8 = nI (z_ka B n s) ∧ M 0 9 = ft ∧ M 0 10 = nI bd ∧ M 0 11 = nI cl ∧ M 0 12 = nI out.length ∧ (∀ j, j < out.length → M 4 (265 * cl + 1 + 2 * j) = z_wo (out.getD j 0) ∧ M 4 (265 * cl + 2 + 2 * j) = z_wv (out.getD j 0)) ∧ M 0 13 = nI cnt ∧ M 0 16 = nI st.length ∧ M 0 17 = nI pa ∧ M 0 18 = nI ba ∧ z_ost (M 5) st
def z_fM (cl : Nat) (M M' : x_M) : Prop := (∀ q, q ≠ 0 → q ≠ 4 → q ≠ 5 → M' q = M q) ∧ (∀ c, c < 5 ∨ 18 < c → M' 0 c = M 0 c) ∧ ∀ i, ¬ (265 * cl + 1 ≤ i ∧ i ≤ 265 * cl + 264) → M' 4 i = M 4 i
theorem z_fM_r {cl : Nat} {M : x_M} : z_fM cl M M := ⟨fun _ _ _ _ => rfl, fun _ _ => rfl, fun _ _ => rfl⟩
theorem z_fM_t {cl : Nat} {M M' M'' : x_M} (h : z_fM cl M M') (h' : z_fM cl M' M'') : z_fM cl M M'' := ⟨fun q h1 h2 h3 => by rw [h'.1 q h1 h2 h3, h.1 q h1 h2 h3], fun c hc => by rw [h'.2.1 c hc, h.2.1 c hc], fun i hi => by rw [h'.2.2 i hi, h.2.2 i hi]⟩
theorem z_cM_f {M M' : x_M} {B : Nat → Nat} {n s cnt cl pa ba bd cnt' pa' ba' : Nat} {ft : Int32} {out : List Int32} {st st' : List Nat} (h : z_cM M B n s cnt cl pa ba bd ft out st) (hq : ∀ q, q ≠ 0 → q ≠ 5 → M' q = M q) (hc : ∀ c, c ≤ 12 → M' 0 c = M 0 c) (h13 : M' 0 13 = nI cnt') (h16 : M' 0 16 = nI st'.length) (h17 : M' 0 17 = nI pa') (h18 : M' 0 18 = nI ba') (hs : z_ost (M' 5) st') : z_cM M' B n s cnt' cl pa' ba' bd ft out st' := by
  obtain ⟨⟨b1, b2, b3⟩, g1, g2, g3, g4, g5, g6, g7, g8, g9, -, -, -, -, -⟩ := h
  refine ⟨⟨b1, by rw [hc 7 (by omega)]; exact b2, fun i hi => by rw [hq 3 (by omega) (by omega)]; exact b3 i hi⟩, g1, by rw [hc 5 (by omega)]; exact g2, by rw [hc 6 (by omega)]; exact g3, by rw [hc 8 (by omega)]; exact g4, by rw [hc 9 (by omega)]; exact g5, by rw [hc 10 (by omega)]; exact g6, by rw [hc 11 (by omega)]; exact g7, by rw [hc 12 (by omega)]; exact g8, fun j hj => by rw [hq 4 (by omega) (by omega)]; exact g9 j hj, h13, h16, h17, h18, hs⟩
theorem z_emM {M : x_M} {B : Nat → Nat} {n s cnt cl pa ba bd : Nat} {ft v : Int32} {out : List Int32} {st : List Nat} (h : z_cM M B n s cnt cl pa ba bd ft out st) (hcl : cl ≤ 3) (hl : out.length < 132) : ∃ M', f_X12_emit M (z_wo v) (z_wv v) = some ((), M') ∧ z_cM M' B n s cnt cl pa ba bd ft (out ++ [v]) st ∧ z_fM cl M M' ∧ M' 5 = M 5 ∧ ∀ c, c ≠ 12 → M' 0 c = M 0 c := by
  obtain ⟨⟨b1, b2, b3⟩, g1, g2, g3, g4, g5, g6, g7, g8, g9, g10, g11, g12, g13, g14⟩ := h
  unfold f_X12_emit
  rw [z_gf, g7, z_gf, g8, z_mul, z_add, z_mul, z_add, z_add, z_wr (by omega) (by omega), z_wr (by omega) (by omega), z_gf, z_upn (by omega), z_upn (by omega), g8, z_pf, z_add]
  have f0 : ∀ c, c ≠ 12 → (x_up (x_up (x_up M 4 (265 * cl + 1 + 2 * out.length) (z_wo v)) 4 (265 * cl + 1 + 2 * out.length + 1) (z_wv v)) 0 12 (nI (out.length + 1))) 0 c = M 0 c := fun c hc => by rw [z_upr, z_un hc, z_upn (by omega), z_upn (by omega)]
  have f4 : (x_up (x_up (x_up M 4 (265 * cl + 1 + 2 * out.length) (z_wo v)) 4 (265 * cl + 1 + 2 * out.length + 1) (z_wv v)) 0 12 (nI (out.length + 1))) 4 = upd (upd (M 4) (265 * cl + 1 + 2 * out.length) (z_wo v)) (265 * cl + 1 + 2 * out.length + 1) (z_wv v) := by rw [z_upn (by omega), z_upr, z_upr]
  have fq : ∀ q, q ≠ 0 → q ≠ 4 → (x_up (x_up (x_up M 4 (265 * cl + 1 + 2 * out.length) (z_wo v)) 4 (265 * cl + 1 + 2 * out.length + 1) (z_wv v)) 0 12 (nI (out.length + 1))) q = M q := fun q h1 h2 => by rw [z_upn h1, z_upn h2, z_upn h2]
  refine ⟨_, rfl, ⟨⟨b1, ?_, fun i hi => ?_⟩, g1, ?_, ?_, ?_, ?_, ?_, ?_, ?_, fun j hj => ?_, ?_, ?_, ?_, ?_, ?_⟩, ⟨fun q q1 q2 _ => fq q q1 q2, fun c hc => f0 c (by omega), fun i hi => ?_⟩, fq 5 (by omega) (by omega), f0⟩
  · rw [f0 7 (by omega)]; exact b2
  · rw [fq 3 (by omega) (by omega)]; exact b3 i hi
  · rw [f0 5 (by omega)]; exact g2
  · rw [f0 6 (by omega)]; exact g3
  · rw [f0 8 (by omega)]; exact g4
  · rw [f0 9 (by omega)]; exact g5
  · rw [f0 10 (by omega)]; exact g6
  · rw [f0 11 (by omega)]; exact g7
  · rw [z_upr, z_us, List.length_append]; rfl
  · rw [List.length_append, List.length_singleton] at hj
    rw [f4]
    by_cases e : j = out.length
    · subst e
      rw [z_gda, z_un (by omega), z_us, show 265 * cl + 2 + 2 * out.length = 265 * cl + 1 + 2 * out.length + 1 by omega, z_us]
      exact ⟨rfl, rfl⟩
    · rw [z_gdb (by omega), z_un (by omega), z_un (by omega), z_un (by omega), z_un (by omega)]
      exact g9 j (by omega)
  · rw [f0 13 (by omega)]; exact g10
  · rw [f0 16 (by omega)]; exact g11
  · rw [f0 17 (by omega)]; exact g12
  · rw [f0 18 (by omega)]; exact g13
  · rw [fq 5 (by omega) (by omega)]; exact g14
  · rw [f4, z_un (by omega), z_un (by omega)]
theorem z_wrM {M : x_M} {B : Nat → Nat} {n s cnt cl pa ba : Nat} {ft : Int32} {out : List Int32} {st : List Nat} (h : z_cM M B n s cnt cl pa ba 0 ft out st) : ∃ M', f_X12_wrong M = some ((), M') ∧ z_cM M' B n s cnt cl pa ba 1 (nI s) out st ∧ z_fM cl M M' := by
  obtain ⟨⟨b1, b2, b3⟩, g1, g2, g3, g4, g5, g6, g7, g8, g9, g10, g11, g12, g13, g14⟩ := h
  rw [z_wrg g6, g2]
  have f0 : ∀ c, c ≠ 9 → c ≠ 10 → (x_up (x_up M 0 9 (nI s)) 0 10 (nI 1)) 0 c = M 0 c := fun c c1 c2 => by rw [z_upr, z_un c2, z_upr, z_un c1]
  have fq : ∀ q, q ≠ 0 → (x_up (x_up M 0 9 (nI s)) 0 10 (nI 1)) q = M q := fun q h1 => by rw [z_upn h1, z_upn h1]
  refine ⟨_, rfl, ⟨⟨b1, ?_, fun i hi => ?_⟩, g1, ?_, ?_, ?_, ?_, ?_, ?_, ?_, fun j hj => ?_, ?_, ?_, ?_, ?_, ?_⟩, ⟨fun q q1 _ _ => fq q q1, fun c hc => f0 c (by omega) (by omega), fun i hi => by rw [fq 4 (by omega)]⟩⟩
  · rw [f0 7 (by omega) (by omega)]; exact b2
  · rw [fq 3 (by omega)]; exact b3 i hi
  · rw [f0 5 (by omega) (by omega)]; exact g2
  · rw [f0 6 (by omega) (by omega)]; exact g3
  · rw [f0 8 (by omega) (by omega)]; exact g4
  · rw [z_upr, z_un (by omega), z_upr, z_us]
  · rw [z_upr, z_us]
  · rw [f0 11 (by omega) (by omega)]; exact g7
  · rw [f0 12 (by omega) (by omega)]; exact g8
  · rw [fq 4 (by omega)]; exact g9 j hj
  · rw [f0 13 (by omega) (by omega)]; exact g10
  · rw [f0 16 (by omega) (by omega)]; exact g11
  · rw [f0 17 (by omega) (by omega)]; exact g12
  · rw [f0 18 (by omega) (by omega)]; exact g13
  · rw [fq 5 (by omega)]; exact g14
theorem z_neM {M : x_M} {B : Nat → Nat} {n s cnt cl pa ba : Nat} {ft : Int32} {out : List Int32} {st : List Nat} (h : z_cM M B n s cnt cl pa ba 0 ft out st) : ∃ M' ft', f_X12_next M = some ((), M') ∧ z_cM M' B n (z_go B n s) cnt cl pa ba (z_gl B n (z_en B n s) (z_ka B n s)) ft' out st ∧ (z_gl B n (z_en B n s) (z_ka B n s) = 1 → ft' = nI (z_go B n s)) ∧ z_fM cl M M' := by
  obtain ⟨⟨b1, b2, b3⟩, g1, g2, g3, g4, g5, g6, g7, g8, g9, g10, g11, g12, g13, g14⟩ := h
  have en := z_en_b (B := B) g1
  obtain ⟨M', a1, a2, a3, a4, a5, a6, a7, a8⟩ := z_nxM ⟨b1, b2, b3⟩ en.2.1 g3 g4 z_ka_b g6
  refine ⟨M', M' 0 9, a1, ⟨⟨b1, ?_, fun i hi => ?_⟩, (z_go_b g1).1, a2, a3, a4, rfl, a5, ?_, ?_, fun j hj => ?_, ?_, ?_, ?_, ?_, ?_⟩, a6, ⟨fun q q1 _ _ => a7 q q1, fun c hc => a8 c (by omega) (by omega) (by omega) (by omega) (by omega), fun i hi => by rw [a7 4 (by omega)]⟩⟩
  · rw [a8 7 (by omega) (by omega) (by omega) (by omega) (by omega)]; exact b2
  · rw [a7 3 (by omega)]; exact b3 i hi
  · rw [a8 11 (by omega) (by omega) (by omega) (by omega) (by omega)]; exact g7
  · rw [a8 12 (by omega) (by omega) (by omega) (by omega) (by omega)]; exact g8
  · rw [a7 4 (by omega)]; exact g9 j hj
  · rw [a8 13 (by omega) (by omega) (by omega) (by omega) (by omega)]; exact g10
  · rw [a8 16 (by omega) (by omega) (by omega) (by omega) (by omega)]; exact g11
  · rw [a8 17 (by omega) (by omega) (by omega) (by omega) (by omega)]; exact g12
  · rw [a8 18 (by omega) (by omega) (by omega) (by omega) (by omega)]; exact g13
  · rw [a7 5 (by omega)]; exact g14
def z_sc (w : Nat) : Int32 := if w = 10 then -124 else if w = 20 then -38 else if w = 30 then -60 else if w = 31 then -61 else if w = 32 then -62 else if w = 40 then -43 else if w = 41 then -45 else if w = 50 then -42 else if w = 51 then -47 else -33
def z_op (w : Nat) : Prop := w = 10 ∨ w = 20 ∨ w = 30 ∨ w = 31 ∨ w = 32 ∨ w = 40 ∨ w = 41 ∨ w = 50 ∨ w = 51
theorem z_op_c {w : Nat} (h : z_op w) : nI w = z_wo (z_sc w) ∧ nI 0 = z_wv (z_sc w) ∧ z_opr (z_sc w) := by
  unfold z_op at h
  rcases h with rfl | rfl | rfl | rfl | rfl | rfl | rfl | rfl | rfl <;> exact ⟨by decide, by decide, by unfold z_opr; decide⟩
/-- nothing more is worked off -/
def z_stp (c : Nat) (st : List Nat) : Prop := st = [] ∨ ∃ x st', st = x :: st' ∧ x < 60 ∧ (x < 10 ∨ x / 10 < c)
theorem z_wrkM {B : Nat → Nat} {n s cnt cl pa ba bd c : Nat} {ft : Int32} {st : List Nat} (hcl : cl ≤ 3) (hc : c ≤ 9) (hst : z_stp c st) : ∀ (K : List Nat) (fu : Nat) (M : x_M) (out : List Int32), z_cM M B n s cnt cl pa ba bd ft out (K ++ st) → (∀ q, q ∈ K → z_op q ∧ c ≤ q / 10) → out.length + K.length ≤ 132 → (K ++ st).length < 140 → K.length < fu → ∃ M', f_X12_works_0 fu M (nI c) = some ((), M') ∧ z_cM M' B n s cnt cl pa ba bd ft (out ++ K.map z_sc) st ∧ z_fM cl M M' := by
  intro K
  induction K with
  | nil =>
    intro fu M out h hK h1 h2 hfu
    obtain ⟨fu, rfl⟩ : ∃ a, fu = a + 1 := ⟨fu - 1, by omega⟩
    obtain ⟨⟨b1, b2, b3⟩, g1, g2, g3, g4, g5, g6, g7, g8, g9, g10, g11, g12, g13, g14⟩ := id h
    rw [List.nil_append] at g11 g14 h2
    rw [List.map_nil, List.append_nil, f_X12_works_0_s, z_gf, g11, z_ile0 (by omega)]
    rcases hst with rfl | ⟨x, st', rfl, x1, x2⟩
    · rw [if_pos (by simp)]
      exact ⟨M, rfl, h, z_fM_r⟩
    · rw [if_neg (by simp), z_gf, g11, List.length_cons, z_sub (by omega), show st'.length + 1 - 1 = st'.length by omega, z_rd (by rw [List.length_cons] at h2; omega) (by omega), g14.1, z_ilt (by omega) (by omega)]
      by_cases c1 : x < 10
      · rw [if_pos c1]
        exact ⟨M, rfl, h, z_fM_r⟩
      · rw [if_neg c1, z_gf, g11, List.length_cons, z_sub (by omega), show st'.length + 1 - 1 = st'.length by omega, z_rd (by rw [List.length_cons] at h2; omega) (by omega), g14.1, z_dv (by omega) (by omega), z_div (by omega) (by omega) (by omega), z_ilt (by omega) (by omega), if_pos (by omega)]
        exact ⟨M, rfl, h, z_fM_r⟩
  | cons q K ih =>
    intro fu M out h hK h1 h2 hfu
    obtain ⟨fu, rfl⟩ : ∃ a, fu = a + 1 := ⟨fu - 1, by omega⟩
    obtain ⟨⟨b1, b2, b3⟩, g1, g2, g3, g4, g5, g6, g7, g8, g9, g10, g11, g12, g13, g14⟩ := id h
    obtain ⟨o1, o2⟩ := hK q (by simp)
    obtain ⟨p1, p2, p3⟩ := z_op_c o1
    have qb : 10 ≤ q ∧ q ≤ 51 := by unfold z_op at o1; omega
    rw [List.cons_append, List.length_cons] at g11 h2
    rw [List.length_cons] at h1 hfu
    have t1 : M 5 (K ++ st).length = nI q := g14.1
    have u16 : (x_up M 0 16 (nI (K ++ st).length)) 0 16 = nI (K ++ st).length := by rw [z_upr, z_us]
    have u5 : (x_up M 0 16 (nI (K ++ st).length)) 5 = M 5 := z_upn (by omega)
    rw [f_X12_works_0_s, z_gf, g11, z_ile0 (by omega), if_neg (by omega), z_gf, g11, z_sub (by omega), show (K ++ st).length + 1 - 1 = (K ++ st).length by omega, z_rd (by omega) (by omega), t1, z_ilt (by omega) (by omega), if_neg (by omega), z_gf, g11, z_sub (by omega), show (K ++ st).length + 1 - 1 = (K ++ st).length by omega, z_rd (by omega) (by omega), t1, z_dv (by omega) (by omega), z_div (by omega) (by omega) (by omega), z_ilt (by omega) (by omega), if_neg (by omega), z_gf, g11, z_sub (by omega), show (K ++ st).length + 1 - 1 = (K ++ st).length by omega, z_pf, z_gf, u16, z_rd (by omega) (by omega), u5, t1, p1, p2]
    have hM1 : z_cM (x_up M 0 16 (nI (K ++ st).length)) B n s cnt cl pa ba bd ft out (K ++ st) := z_cM_f h (fun q q1 _ => z_upn q1) (fun c hc => by rw [z_upr, z_un (by omega)]) (by rw [z_upr, z_un (by omega)]; exact g10) u16 (by rw [z_upr, z_un (by omega)]; exact g12) (by rw [z_upr, z_un (by omega)]; exact g13) (by rw [u5]; exact g14.2)
    obtain ⟨M2, a1, a2, a3, a4, a5⟩ := z_emM (v := z_sc q) hM1 hcl (by omega)
    obtain ⟨M3, d1, d2, d3⟩ := ih fu M2 (out ++ [z_sc q]) a2 (fun x hx => hK x (by simp [hx])) (by rw [List.length_append, List.length_singleton]; omega) (by omega) (by omega)
    rw [a1, z_bn, d1]
    refine ⟨M3, rfl, ?_, z_fM_t (z_fM_t ⟨fun q q1 _ _ => z_upn q1, fun c hc => by rw [z_upr, z_un (by omega)], fun i _ => by rw [z_upn (by omega)]⟩ a3) d3⟩
    rw [List.append_assoc] at d2
    exact d2
theorem z_parM {B : Nat → Nat} {n s cnt cl pa bd : Nat} {ft : Int32} {st : List Nat} (hcl : cl ≤ 3) (hst : z_stp 9 st) (h3 : ∀ x st', st = x :: st' → x ≠ 3) : ∀ (j fu : Nat) (M : x_M) (out : List Int32) (ba : Nat), z_cM M B n s cnt cl pa ba bd ft out (List.replicate j 3 ++ st) → j ≤ ba → ba ≤ 100 → out.length + j ≤ 132 → j + st.length < 140 → j < fu → ∃ M', f_X12_parted_0 fu M = some ((), M') ∧ z_cM M' B n s cnt cl pa (ba - j) bd ft (out ++ List.replicate j (-33)) st ∧ z_fM cl M M' := by
  intro j
  induction j with
  | zero =>
    intro fu M out ba h hj hba h1 h2 hfu
    obtain ⟨fu, rfl⟩ : ∃ a, fu = a + 1 := ⟨fu - 1, by omega⟩
    obtain ⟨⟨b1, b2, b3⟩, g1, g2, g3, g4, g5, g6, g7, g8, g9, g10, g11, g12, g13, g14⟩ := id h
    rw [List.replicate_zero, List.nil_append] at g11 g14
    rw [List.replicate_zero, List.append_nil, Nat.sub_zero, f_X12_parted_0_s, z_gf, g11, z_ile0 (by omega)]
    rcases hst with rfl | ⟨x, st', rfl, x1, x2⟩
    · rw [if_pos (by simp)]
      exact ⟨M, rfl, h, z_fM_r⟩
    · have hx := h3 x st' rfl
      rw [if_neg (by simp), z_gf, g11, List.length_cons, z_sub (by omega), show st'.length + 1 - 1 = st'.length by omega, z_rd (by rw [List.length_cons] at h2; omega) (by omega), g14.1, z_ieq (by omega) (by omega), if_neg hx]
      exact ⟨M, rfl, h, z_fM_r⟩
  | succ j ih =>
    intro fu M out ba h hj hba h1 h2 hfu
    obtain ⟨fu, rfl⟩ : ∃ a, fu = a + 1 := ⟨fu - 1, by omega⟩
    obtain ⟨⟨b1, b2, b3⟩, g1, g2, g3, g4, g5, g6, g7, g8, g9, g10, g11, g12, g13, g14⟩ := id h
    have hlen : (List.replicate j 3 ++ st).length = j + st.length := by simp
    rw [List.replicate_succ, List.cons_append, List.length_cons, hlen] at g11
    have t1 : M 5 (List.replicate j 3 ++ st).length = nI 3 := g14.1
    rw [hlen] at t1
    have w3 : nI 3 = z_wo (-33) := by decide
    have w0 : nI 0 = z_wv (-33) := by decide
    have u18 : (x_up M 0 16 (nI (j + st.length))) 0 18 = nI ba := by rw [z_upr, z_un (by omega)]; exact g13
    rw [f_X12_parted_0_s, z_gf, g11, z_ile0 (by omega), if_neg (by omega), z_gf, g11, z_sub (by omega), show j + st.length + 1 - 1 = j + st.length by omega, z_rd (by omega) (by omega), t1, if_pos rfl, z_gf, g11, z_sub (by omega), show j + st.length + 1 - 1 = j + st.length by omega, z_pf, z_gf, u18, z_sub (by omega), z_pf, w3, w0]
    have hM1 : z_cM (x_up (x_up M 0 16 (nI (j + st.length))) 0 18 (nI (ba - 1))) B n s cnt cl pa (ba - 1) bd ft out (List.replicate j 3 ++ st) := z_cM_f h (fun q q1 _ => by rw [z_upn q1, z_upn q1]) (fun c hc => by rw [z_upr, z_un (by omega), z_upr, z_un (by omega)]) (by rw [z_upr, z_un (by omega), z_upr, z_un (by omega)]; exact g10) (by rw [z_upr, z_un (by omega), z_upr, z_us, hlen]) (by rw [z_upr, z_un (by omega), z_upr, z_un (by omega)]; exact g12) (by rw [z_upr, z_us]) (by rw [z_upn (by omega), z_upn (by omega)]; exact g14.2)
    obtain ⟨M2, a1, a2, a3, a4, a5⟩ := z_emM (v := -33) hM1 hcl (by omega)
    obtain ⟨M3, d1, d2, d3⟩ := ih fu M2 (out ++ [-33]) (ba - 1) a2 (by omega) (by omega) (by rw [List.length_append, List.length_singleton]; omega) (by omega) (by omega)
    rw [a1, z_bn, d1]
    refine ⟨M3, rfl, ?_, z_fM_t (z_fM_t ⟨fun q q1 _ _ => by rw [z_upn q1, z_upn q1], fun c hc => by rw [z_upr, z_un (by omega), z_upr, z_un (by omega)], fun i _ => by rw [z_upn (by omega), z_upn (by omega)]⟩ a3) d3⟩
    rw [List.append_assoc, show ba - 1 - j = ba - (j + 1) by omega] at d2
    rw [List.replicate_succ]
    exact d2
theorem z_sgM {M : x_M} {B : Nat → Nat} {n s cnt cl pa ba bd a : Nat} {ft : Int32} {out : List Int32} {st : List Nat} (h : z_cM M B n s cnt cl pa ba bd ft out st) (ha : 0 < a ∧ a < 128) : f_X12_isSign M (nI a) = some (if z_sg0 B n s = a then nI 1 else nI 0, M) := by
  obtain ⟨⟨b1, b2, b3⟩, g1, g2, g3, g4, -⟩ := h
  have hkb := z_ka_b (B := B) (n := n) (p := s)
  have hk0 := z_ka_0 (B := B) (n := n) (p := s)
  unfold f_X12_isSign f_X12_isSign_25 z_sg0
  rw [z_gf, g4, z_ieq (by omega) (by omega)]
  by_cases c : z_ka B n s = 3
  · obtain ⟨q1, q2⟩ := b3 s (by omega)
    rw [if_pos c, if_pos c, z_gf, g2, z_rd (by omega) (by omega), q2, z_ieq (by omega) (by omega)]
    by_cases c2 : B s = a
    · rw [if_pos c2, if_pos c2]
    · rw [if_neg c2, if_neg c2]
  · rw [if_neg c, if_neg c, if_neg (by omega)]
/-- the number of a binary sign -/
def z_sn (b : Nat) : Nat := if b = 38 then 20 else if b = 42 then 50 else if b = 43 then 40 else if b = 45 then 41 else if b = 47 then 51 else if b = 60 then 30 else if b = 61 then 31 else if b = 62 then 32 else if b = 124 then 10 else 0
theorem z_sihM {M : x_M} {B : Nat → Nat} {n s cnt cl pa ba bd : Nat} {ft : Int32} {out : List Int32} {st : List Nat} (h : z_cM M B n s cnt cl pa ba bd ft out st) : f_X12_signHere M = some (nI (z_sn (z_sg0 B n s)), M) := by
  obtain ⟨⟨b1, b2, b3⟩, g1, g2, g3, g4, -⟩ := h
  have hkb := z_ka_b (B := B) (n := n) (p := s)
  have hk0 := z_ka_0 (B := B) (n := n) (p := s)
  unfold f_X12_signHere z_sg0
  rw [z_gf, g4, z_ieq (by omega) (by omega)]
  by_cases c : z_ka B n s = 3
  · obtain ⟨q1, q2⟩ := b3 s (by omega)
    rw [if_pos c, if_pos c, z_gf, g2, z_rd (by omega) (by omega), q2]
    unfold z_sn
    simp (disch := omega) only [z_eq]
    repeat' split
    all_goals first | rfl | omega
  · rw [if_neg c, if_neg c]
    rfl
