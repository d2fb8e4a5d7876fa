/-! ===== steps of the reference's reading ===== -/
def z_stJ (l : Nat) (st : List Nat) : Prop := st = [] ∨ ∃ x st', st = x :: st' ∧ (x = 1 ∨ (z_op x ∧ x / 10 ≤ l))
theorem z_stJ_p {l c : Nat} {st : List Nat} (h : z_stJ l st) (hc : l < c) : z_stp c st := by
  rcases h with h | ⟨x, st', h, h2⟩
  · exact Or.inl h
  · refine Or.inr ⟨x, st', h, ?_⟩
    unfold z_op at h2
    omega
theorem z_stJ_3 {l : Nat} {st : List Nat} (h : z_stJ l st) : ∀ x st', st = x :: st' → x ≠ 3 := by
  intro x st' e
  rcases h with h | ⟨y, st2, h, h2⟩
  · rw [h] at e
    exact absurd e (by simp)
  · rw [h] at e
    have := (List.cons.inj e).1
    unfold z_op at h2
    omega
theorem z_sn_f : ∀ b, b < 256 → z_sn b ≠ 0 → (z_sn b = 10 ∨ z_sn b = 20 ∨ z_sn b = 30 ∨ z_sn b = 31 ∨ z_sn b = 32 ∨ z_sn b = 40 ∨ z_sn b = 41 ∨ z_sn b = 50 ∨ z_sn b = 51) ∧ z_sc (z_sn b) = -(nI b) := by decide +kernel
theorem z_sn_l : ∀ l, l < 5 → ∀ b, b < 256 → (b ∈ z_sb (9 + l) ↔ z_sn b / 10 = l + 1) := by decide +kernel
/-- a fault is found; where it stood -/
def z_bd1 (M : x_M) : Prop := M 0 10 = nI 1 ∧ ∃ s e, M 0 5 = nI s ∧ M 0 6 = nI e ∧ s ≤ 132 ∧ e ≤ 132
theorem z_bd1_c {M : x_M} {B : Nat → Nat} {n s cnt cl pa ba : Nat} {ft : Int32} {out : List Int32} {st : List Nat} (h : z_cM M B n s cnt cl pa ba 1 ft out st) : z_bd1 M := by
  obtain ⟨⟨b1, b2, b3⟩, g1, g2, g3, g4, g5, g6, -⟩ := h
  have := z_en_b (B := B) g1
  exact ⟨g6, s, _, g2, g3, by omega, by omega⟩
theorem z_ebad {fu : Nat} {M : x_M} {v1 v2 : Int32} (hb : z_bd1 M) : f_X12_expression_19 (fu + 1) M v1 v2 = some ((), M) := by
  have h := hb.1
  have e : f_X12_expression_208 M = some ((), M) := by
    unfold f_X12_expression_208
    rw [z_gf, h, if_neg z_n10]
  rw [f_X12_expression_19_s, e, z_gf, h, if_neg z_n10, ite_self]
theorem z_sg0_256 {M : x_M} {B : Nat → Nat} {n s : Nat} (h : z_bM M B n) : z_sg0 B n s < 256 := by
  unfold z_sg0
  by_cases c : z_ka B n s = 3
  · rw [if_pos c]
    have := z_ka_0 (B := B) (n := n) (p := s)
    exact (h.2.2 s (by omega)).1
  · rw [if_neg c]
    omega
theorem z_ka3 {B : Nat → Nat} {n s : Nat} (h : z_sg0 B n s ≠ 0) : z_ka B n s = 3 := (z_sg0_b h).1
theorem z_pshM {M : x_M} {B : Nat → Nat} {n s cnt cl pa ba w : Nat} {ft : Int32} {out : List Int32} {st : List Nat} (h : z_cM M B n s cnt cl pa ba 0 ft out st) (hl : st.length < 140) : z_cM (x_up (x_up M 5 st.length (nI w)) 0 16 (nI (st.length + 1))) B n s cnt cl pa ba 0 ft out (w :: st) ∧ z_fM cl M (x_up (x_up M 5 st.length (nI w)) 0 16 (nI (st.length + 1))) := by
  obtain ⟨-, -, -, -, -, -, -, -, -, -, g10, g11, g12, g13, g14⟩ := id h
  refine ⟨z_cM_f h (fun q q1 q2 => by rw [z_upn q1, z_upn q2]) (fun c hc => by rw [z_upr, z_un (by omega), z_upn (by omega)]) (by rw [z_upr, z_un (by omega), z_upn (by omega)]; exact g10) (by rw [z_upr, z_us]; rfl) (by rw [z_upr, z_un (by omega), z_upn (by omega)]; exact g12) (by rw [z_upr, z_un (by omega), z_upn (by omega)]; exact g13) ⟨?_, ?_⟩, fun q q1 q2 q3 => by rw [z_upn q1, z_upn q3], fun c hc => by rw [z_upr, z_un (by omega), z_upn (by omega)], fun i _ => by rw [z_upn (by omega), z_upn (by omega)]⟩
  · rw [z_upn (by omega), z_upr, z_us]
  · exact z_ost_fr st (fun j hj => by rw [z_upn (by omega), z_upr, z_un (by omega)]) g14
theorem z_e111 {M : x_M} {B : Nat → Nat} {n s cnt cl pa ba w : Nat} {ft v2 : Int32} {out : List Int32} {st : List Nat} {k19 : x_M → Int32 → Int32 → Option (Unit × x_M)} (h : z_cM M B n s cnt cl pa ba 0 ft out st) (hl : st.length < 140) (h3 : z_ka B n s = 3) : ∃ M' ft', f_X12_expression_111 k19 M v2 (nI w) = k19 M' (nI 1) v2 ∧ z_cM M' B n (z_go B n s) cnt cl pa ba 0 ft' out (w :: st) ∧ z_fM cl M M' := by
  obtain ⟨p1, p2⟩ := z_pshM (w := w) h hl
  obtain ⟨M2, ft', a1, a2, a3, a4⟩ := z_neM p1
  have g11 : M 0 16 = nI st.length := h.2.2.2.2.2.2.2.2.2.2.2.1
  unfold f_X12_expression_111 f_X12_expression_205
  rw [z_gf, g11, z_wr (by omega) (by omega), z_gf, z_upn (by omega), g11, z_add, z_pf, a1, z_bn]
  rw [h3, z_gl3] at a2
  exact ⟨M2, ft', rfl, a2, z_fM_t p2 a4⟩
theorem z_st_bin {M : x_M} {B : Nat → Nat} {n s cnt cl pa ba l fu : Nat} {ft : Int32} {out : List Int32} {K st : List Nat} (h : z_cM M B n s cnt cl pa ba 0 ft out (K ++ st)) (hcl : cl ≤ 3) (hl : l < 5) (hw : z_sn (z_sg0 B n s) / 10 = l + 1) (hst : z_stJ l st) (hK : ∀ q, q ∈ K → z_op q ∧ (if l = 2 then 4 else l + 1) ≤ q / 10) (hlen : out.length + (K ++ st).length ≤ s) : ∃ M' ft', f_X12_expression_19 (fu + 1) M (nI 0) (nI 1) = f_X12_expression_19 fu M' (nI 1) (nI 1) ∧ z_cM M' B n (z_go B n s) cnt cl pa ba 0 ft' (out ++ K.map z_sc) (z_sn (z_sg0 B n s) :: st) ∧ z_fM cl M M' := by
  have hn : n ≤ 132 := h.1.1
  have hs : s ≤ n := h.2.1
  have g6 : M 0 10 = nI 0 := h.2.2.2.2.2.2.1
  have hf := z_sn_f _ (z_sg0_256 (s := s) h.1) (by omega)
  have h3 : z_ka B n s = 3 := z_ka3 (fun q => by rw [q] at hw; simp [z_sn] at hw)
  have hsh := z_sihM h
  obtain ⟨w, hwd⟩ : ∃ w, w = z_sn (z_sg0 B n s) := ⟨_, rfl⟩
  rw [← hwd] at hsh hw hf ⊢
  have hw51 : 10 ≤ w ∧ w ≤ 51 := by omega
  rw [List.length_append] at hlen
  have hc9 : (if l = 2 then 4 else l + 1) ≤ 9 := by split <;> omega
  obtain ⟨M1, a1, a2, a3⟩ := z_wrkM (c := if l = 2 then 4 else l + 1) hcl hc9 (z_stJ_p hst (by split <;> omega)) K x_FU M out h hK (by omega) (by rw [List.length_append]; omega) (by unfold x_FU; omega)
  obtain ⟨M2, ft', d1, d2, d3⟩ := z_e111 (w := w) (v2 := nI 1) (k19 := f_X12_expression_19 fu) a2 (by omega) h3
  have g11 : M1 0 16 = nI st.length := a2.2.2.2.2.2.2.2.2.2.2.2.1
  have g14 : z_ost (M1 5) st := a2.2.2.2.2.2.2.2.2.2.2.2.2.2.2
  rw [f_X12_expression_19_s, if_neg z_n10, z_gf, g6, if_pos z_n00, if_pos z_n00, hsh, z_bn, z_ieq0 (by omega), if_neg (by omega), z_dv (by omega) (by omega), z_div (by omega) (by omega) (by omega), z_ieq (by omega) (by omega), z_dv (by omega) (by omega)]
  unfold f_X12_expression_68 f_X12_works
  rw [z_div (by omega) (by omega) (by omega)]
  refine ⟨M2, ft', ?_, d2, z_fM_t a3 d3⟩
  by_cases c2 : l = 2
  · rw [if_pos c2] at a1
    rw [if_pos (show w / 10 = 3 by omega), a1, z_bn, z_dv (by omega) (by omega), z_ieq (by omega) (by omega), if_pos (show w / 10 = 3 by omega), z_gf, g11, z_ile0 (by omega), z_gf, g11]
    rcases hst with rfl | ⟨x, st', rfl, hx⟩
    · rw [if_pos (by simp)]
      exact d1
    · have hxb : x < 60 ∧ x / 10 ≠ 3 := by
        unfold z_op at hx
        omega
      rw [List.length_cons] at hlen
      rw [if_neg (by simp), List.length_cons, z_sub (by omega), show st'.length + 1 - 1 = st'.length by omega, z_rd (by omega) (by omega), g14.1, z_dv (by omega) (by omega), z_div (by omega) (by omega) (by omega), z_ieq (by omega) (by omega), if_neg hxb.2]
      exact d1
  · rw [if_neg c2] at a1
    rw [if_neg (show ¬ w / 10 = 3 by omega), hw, a1, z_bn, z_dv (by omega) (by omega), z_ieq (by omega) (by omega), if_neg (show ¬ l + 1 = 3 by omega)]
    exact d1
theorem z_st_two {M : x_M} {B : Nat → Nat} {n s cnt cl pa ba fu : Nat} {ft : Int32} {out : List Int32} {K st : List Nat} (h : z_cM M B n s cnt cl pa ba 0 ft out (K ++ st)) (hcl : cl ≤ 3) (hw : z_sn (z_sg0 B n s) / 10 = 3) (hK : ∀ q, q ∈ K → z_op q) (hp : K.Pairwise (fun a b => b / 10 < a / 10)) (hq : ∃ q, q ∈ K ∧ q / 10 = 3) (hlen : out.length + (K ++ st).length ≤ s) : ∃ M', f_X12_expression_19 (fu + 2) M (nI 0) (nI 1) = some ((), M') ∧ z_bd1 M' ∧ M' 0 9 = nI s ∧ z_fM cl M M' := by
  have hn : n ≤ 132 := h.1.1
  have hs : s ≤ n := h.2.1
  have g6 : M 0 10 = nI 0 := h.2.2.2.2.2.2.1
  have hf := z_sn_f _ (z_sg0_256 (s := s) h.1) (by omega)
  have hsh := z_sihM h
  obtain ⟨w, hwd⟩ : ∃ w, w = z_sn (z_sg0 B n s) := ⟨_, rfl⟩
  rw [← hwd] at hsh hw hf
  have hw51 : 10 ≤ w ∧ w ≤ 51 := by omega
  obtain ⟨q, hqm, hq3⟩ := hq
  obtain ⟨Kh, Kl, rfl⟩ := List.append_of_mem hqm
  have hqo := hK q (by simp)
  have hqb : q < 60 := by unfold z_op at hqo; omega
  rw [List.pairwise_append] at hp
  have hst : z_stp 4 (q :: (Kl ++ st)) := Or.inr ⟨q, _, rfl, hqb, Or.inr (by omega)⟩
  rw [List.append_assoc, List.cons_append] at h hlen
  rw [List.length_append, List.length_cons] at hlen
  obtain ⟨M1, a1, a2, a3⟩ := z_wrkM (c := 4) hcl (by omega) hst Kh x_FU M out h (fun x hx => ⟨hK x (by simp [hx]), by have := hp.2.2 x hx q (by simp); omega⟩) (by omega) (by rw [List.length_append, List.length_cons]; omega) (by unfold x_FU; omega)
  obtain ⟨M2, d1, d2, d3⟩ := z_wrM a2
  have g11 : M1 0 16 = nI (q :: (Kl ++ st)).length := a2.2.2.2.2.2.2.2.2.2.2.2.1
  have g14 : z_ost (M1 5) (q :: (Kl ++ st)) := a2.2.2.2.2.2.2.2.2.2.2.2.2.2.2
  have k10 : z_bd1 M2 := z_bd1_c d2
  have k9 : M2 0 9 = nI s := d2.2.2.2.2.2.1
  rw [List.length_cons] at g11
  rw [f_X12_expression_19_s, if_neg z_n10, z_gf, g6, if_pos z_n00, if_pos z_n00, hsh, z_bn, z_ieq0 (by omega), if_neg (by omega), z_dv (by omega) (by omega), z_div (by omega) (by omega) (by omega), z_ieq (by omega) (by omega), if_pos hw]
  unfold f_X12_expression_68 f_X12_works f_X12_expression_205
  rw [a1, z_bn, z_dv (by omega) (by omega), z_div (by omega) (by omega) (by omega), z_ieq (by omega) (by omega), if_pos hw, z_gf, g11, z_ile0 (by omega), if_neg (by omega), z_gf, g11, z_sub (by omega), show (Kl ++ st).length + 1 - 1 = (Kl ++ st).length by omega, z_rd (by omega) (by omega), g14.1, z_dv (by omega) (by omega), z_div (by omega) (by omega) (by omega), z_ieq (by omega) (by omega), if_pos hq3, d1, z_bn, z_ebad k10]
  exact ⟨M2, rfl, k10, k9, z_fM_t a3 d3⟩
/-- the E is at its end -/
theorem z_st_end {M : x_M} {B : Nat → Nat} {n s cnt cl ba fu : Nat} {ft : Int32} {out : List Int32} {K : List Nat} (h : z_cM M B n s cnt cl 0 ba 0 ft out K) (hcl : cl ≤ 3) (hw : z_sn (z_sg0 B n s) = 0) (hK : ∀ q, q ∈ K → z_op q) (hlen : out.length + K.length ≤ s) : ∃ M', f_X12_expression_19 (fu + 2) M (nI 0) (nI 1) = some ((), M') ∧ z_cM M' B n s cnt cl 0 ba 0 ft (out ++ K.map z_sc) [] ∧ z_fM cl M M' := by
  have hn : n ≤ 132 := h.1.1
  have hs : s ≤ n := h.2.1
  have g6 : M 0 10 = nI 0 := h.2.2.2.2.2.2.1
  have g12 : M 0 17 = nI 0 := h.2.2.2.2.2.2.2.2.2.2.2.2.1
  have hsh := z_sihM h
  rw [hw] at hsh
  have h' := h
  rw [← List.append_nil K] at h'
  obtain ⟨M1, a1, a2, a3⟩ := z_wrkM (c := 1) hcl (by omega) (Or.inl rfl) K x_FU M out h' (fun x hx => ⟨hK x hx, by have := hK x hx; unfold z_op at this; omega⟩) (by omega) (by rw [List.append_nil]; omega) (by unfold x_FU; omega)
  have e192 : f_X12_expression_192 (f_X12_expression_19 (fu + 1)) M (nI 0) = some ((), M1) := by
    unfold f_X12_expression_192 f_X12_expression_205
    rw [z_gf, g12, if_pos (show (nI 0 : Int32) ≤ 0 by decide), f_X12_expression_19_s, if_pos z_n00]
    unfold f_X12_expression_208 f_X12_works
    rw [z_gf, g6, if_pos z_n00, a1, z_bn]
  rw [f_X12_expression_19_s, if_neg z_n10, z_gf, g6, if_pos z_n00, if_pos z_n00, hsh, z_bn, if_pos z_n00, z_sgM h (by omega), z_bn, e192, z_gf, g12, if_pos (show (nI 0 : Int32) ≤ 0 by decide), ite_self]
  exact ⟨M1, rfl, a2, a3⟩
theorem z_st_par {M : x_M} {B : Nat → Nat} {n s cnt cl pa ba j fu : Nat} {ft : Int32} {out : List Int32} {K st : List Nat} (h : z_cM M B n s cnt cl pa ba 0 ft out (K ++ 1 :: (List.replicate j 3 ++ st))) (hcl : cl ≤ 3) (hsg : z_sg0 B n s = 41) (hpa : 1 ≤ pa) (hpa8 : pa ≤ 8) (hK : ∀ q, q ∈ K → z_op q) (hst : z_stJ 5 st) (hj : j ≤ ba) (hba : ba ≤ 8) (hlen : out.length + K.length + 1 + j + st.length ≤ s) : ∃ M' ft', f_X12_expression_19 (fu + 1) M (nI 0) (nI 1) = f_X12_expression_19 fu M' (nI 0) (nI 1) ∧ z_cM M' B n (z_go B n s) cnt cl (pa - 1) (ba - j) 0 ft' (out ++ K.map z_sc ++ List.replicate j (-33)) st ∧ z_fM cl M M' := by
  have hn : n ≤ 132 := h.1.1
  have hs : s ≤ n := h.2.1
  have g6 : M 0 10 = nI 0 := h.2.2.2.2.2.2.1
  have g12 : M 0 17 = nI pa := h.2.2.2.2.2.2.2.2.2.2.2.2.1
  have h3 : z_ka B n s = 3 := z_ka3 (by omega)
  have hsh := z_sihM h
  rw [hsg, show z_sn 41 = 0 from rfl] at hsh
  have hlr : (List.replicate j 3 ++ st).length = j + st.length := by simp
  obtain ⟨M1, a1, a2, a3⟩ := z_wrkM (c := 1) hcl (by omega) (Or.inr ⟨1, _, rfl, by omega, Or.inl (by omega)⟩) K x_FU M out h (fun x hx => ⟨hK x hx, by have := hK x hx; unfold z_op at this; omega⟩) (by omega) (by rw [List.length_append, List.length_cons, hlr]; omega) (by unfold x_FU; omega)
  obtain ⟨-, -, -, -, -, -, -, -, -, -, k10, k11, k12, k13, k14⟩ := id a2
  rw [List.length_cons, hlr] at k11
  have u17 : (x_up M1 0 16 (nI (j + st.length))) 0 17 = nI pa := by rw [z_upr, z_un (by omega)]; exact k12
  have hM2 : z_cM (x_up (x_up M1 0 16 (nI (j + st.length))) 0 17 (nI (pa - 1))) B n s cnt cl (pa - 1) ba 0 ft (out ++ K.map z_sc) (List.replicate j 3 ++ st) := z_cM_f a2 (fun q q1 _ => by rw [z_upn q1, z_upn q1]) (fun c hc => by rw [z_upr, z_un (by omega), z_upr, z_un (by omega)]) (by rw [z_upr, z_un (by omega), z_upr, z_un (by omega)]; exact k10) (by rw [z_upr, z_un (by omega), z_upr, z_us, hlr]) (by rw [z_upr, z_us]) (by rw [z_upr, z_un (by omega), z_upr, z_un (by omega)]; exact k13) (by rw [z_upn (by omega), z_upn (by omega)]; exact k14.2)
  obtain ⟨M3, ft', d1, d2, d3, d4⟩ := z_neM hM2
  rw [h3, z_gl3] at d2
  obtain ⟨M4, p1, p2, p3⟩ := z_parM hcl (z_stJ_p hst (by omega)) (z_stJ_3 hst) j x_FU M3 _ ba d2 hj (by omega) (by rw [List.length_append, List.length_map]; omega) (by omega) (by unfold x_FU; omega)
  rw [f_X12_expression_19_s, if_neg z_n10, z_gf, g6, if_pos z_n00, if_pos z_n00, hsh, z_bn, if_pos z_n00, z_sgM h (by omega), z_bn, if_pos hsg, if_neg z_n10, z_gf, g12, z_ile0 (by omega), if_neg (by omega)]
  unfold f_X12_works f_X12_parted f_X12_expression_205
  rw [a1, z_bn, z_gf, k11, z_sub (by omega), show j + st.length + 1 - 1 = j + st.length by omega, z_pf, z_gf, u17, z_sub hpa, z_pf, d1, z_bn, p1, z_bn]
  exact ⟨M4, ft', rfl, p2, z_fM_t (z_fM_t (z_fM_t a3 ⟨fun q q1 _ _ => by rw [z_upn q1, z_upn q1], fun c hc => by rw [z_upr, z_un (by omega), z_upr, z_un (by omega)], fun i _ => by rw [z_upn (by omega), z_upn (by omega)]⟩) d4) p3⟩
theorem z_st_nop {M : x_M} {B : Nat → Nat} {n s cnt cl pa ba fu : Nat} {ft : Int32} {out : List Int32} {st : List Nat} (h : z_cM M B n s cnt cl pa ba 0 ft out st) (hw : z_sn (z_sg0 B n s) = 0) (hsg : z_sg0 B n s ≠ 41) (hpa : 1 ≤ pa) (hpa8 : pa ≤ 8) : ∃ M', f_X12_expression_19 (fu + 2) M (nI 0) (nI 1) = some ((), M') ∧ z_bd1 M' ∧ M' 0 9 = nI s ∧ z_fM cl M M' := by
  have g6 : M 0 10 = nI 0 := h.2.2.2.2.2.2.1
  have g12 : M 0 17 = nI pa := h.2.2.2.2.2.2.2.2.2.2.2.2.1
  have hsh := z_sihM h
  rw [hw] at hsh
  obtain ⟨M2, d1, d2, d3⟩ := z_wrM h
  have k10 : z_bd1 M2 := z_bd1_c d2
  have k9 : M2 0 9 = nI s := d2.2.2.2.2.2.1
  rw [f_X12_expression_19_s, if_neg z_n10, z_gf, g6, if_pos z_n00, if_pos z_n00, hsh, z_bn, if_pos z_n00, z_sgM h (by omega), z_bn, if_neg hsg, if_pos z_n00]
  unfold f_X12_expression_192 f_X12_expression_205
  rw [z_gf, g12, z_ile0 (by omega), if_neg (by omega), d1, z_bn, z_ebad k10]
  exact ⟨M2, rfl, k10, k9, d3⟩
theorem z_exp1 {M : x_M} {fu : Nat} (h : M 0 10 = nI 0) : f_X12_expression_19 (fu + 1) M (nI 1) (nI 1) = x_bn (f_X12_begins M) (fun r35 M => f_X12_expression_19 fu M r35 (nI 1)) := by
  rw [f_X12_expression_19_s, if_neg z_n10, z_gf, h, if_pos z_n00, if_neg z_n10]
theorem z_bg33 {M : x_M} {B : Nat → Nat} {n s cnt cl pa ba : Nat} {ft : Int32} {out : List Int32} {st : List Nat} (h : z_cM M B n s cnt cl pa ba 0 ft out st) (hsg : z_sg0 B n s = 33) (hl : st.length < 140) (hba : ba ≤ 8) (hpa : pa ≤ 8) : (ba = 8 → ∃ M', f_X12_begins M = some (nI 0, M') ∧ z_bd1 M' ∧ M' 0 9 = nI s ∧ z_fM cl M M') ∧ (ba ≠ 8 → ∃ M' ft', f_X12_begins M = some (nI 1, M') ∧ z_cM M' B n (z_go B n s) cnt cl pa (ba + 1) 0 ft' out (3 :: st) ∧ z_fM cl M M') := by
  obtain ⟨-, -, -, -, -, -, g6, -, -, -, g10, g11, g12, g13, g14⟩ := id h
  have h3 : z_ka B n s = 3 := z_ka3 (by omega)
  unfold f_X12_begins f_X12_begins_18 f_X12_begins_40
  rw [z_sgM h (by omega), z_bn, if_pos hsg, if_neg z_n10, z_sgM h (by omega), z_bn, if_pos hsg, if_neg z_n10, z_gf, g13, z_ieq (by omega) (by omega), z_gf, g11, if_neg z_n10]
  refine ⟨fun c => ?_, fun c => ?_⟩
  · obtain ⟨M2, d1, d2, d3⟩ := z_wrM h
    rw [if_pos c, d1, z_bn]
    exact ⟨M2, rfl, z_bd1_c d2, d2.2.2.2.2.2.1, d3⟩
  · rw [if_neg c]
    unfold f_X12_begins_68 f_X12_begins_93 f_X12_begins_111
    obtain ⟨p1, p2⟩ := z_pshM (w := 3) h hl
    obtain ⟨-, -, -, -, -, -, -, -, -, -, k10, k11, k12, k13, k14⟩ := id p1
    have hM2 : z_cM (x_up (x_up (x_up (x_up M 5 st.length (nI 3)) 0 16 (nI (st.length + 1))) 0 18 (nI (ba + 1))) 0 17 (nI pa)) B n s cnt cl pa (ba + 1) 0 ft out (3 :: st) := z_cM_f p1 (fun q q1 _ => by rw [z_upn q1, z_upn q1]) (fun c hc => by rw [z_upr, z_un (by omega), z_upr, z_un (by omega)]) (by rw [z_upr, z_un (by omega), z_upr, z_un (by omega)]; exact k10) (by rw [z_upr, z_un (by omega), z_upr, z_un (by omega)]; exact k11) (by rw [z_upr, z_us]) (by rw [z_upr, z_un (by omega), z_upr, z_us]) (by rw [z_upn (by omega), z_upn (by omega)]; exact k14)
    obtain ⟨M3, ft', d1, d2, d3, d4⟩ := z_neM hM2
    rw [h3, z_gl3] at d2
    have u18 : (x_up (x_up M 5 st.length (nI 3)) 0 16 (nI (st.length + 1))) 0 18 = nI ba := k13
    have u17 : (x_up (x_up (x_up M 5 st.length (nI 3)) 0 16 (nI (st.length + 1))) 0 18 (nI (ba + 1))) 0 17 = nI pa := by rw [z_upr, z_un (by omega)]; exact k12
    rw [z_wr (by omega) (by omega), z_gf, z_upn (by omega), g11, z_add, z_pf, z_gf, u18, if_neg z_n10, z_add, z_pf, z_gf, u17, if_neg z_n10, show nI pa + nI 0 = nI pa from z_add pa 0, z_pf, d1, z_bn]
    exact ⟨M3, ft', rfl, d2, z_fM_t (z_fM_t p2 ⟨fun q q1 _ _ => by rw [z_upn q1, z_upn q1], fun c hc => by rw [z_upr, z_un (by omega), z_upr, z_un (by omega)], fun i _ => by rw [z_upn (by omega), z_upn (by omega)]⟩) d4⟩
theorem z_bg40 {M : x_M} {B : Nat → Nat} {n s cnt cl pa ba : Nat} {ft : Int32} {out : List Int32} {st : List Nat} (h : z_cM M B n s cnt cl pa ba 0 ft out st) (hsg : z_sg0 B n s = 40) (hl : st.length < 140) (hba : ba ≤ 8) (hpa : pa ≤ 8) : (pa = 8 → ∃ M', f_X12_begins M = some (nI 0, M') ∧ z_bd1 M' ∧ M' 0 9 = nI s ∧ z_fM cl M M') ∧ (pa ≠ 8 → ∃ M' ft', f_X12_begins M = some (nI 1, M') ∧ z_cM M' B n (z_go B n s) cnt cl (pa + 1) ba 0 ft' out (1 :: st) ∧ z_fM cl M M') := by
  obtain ⟨-, -, -, -, -, -, g6, -, -, -, g10, g11, g12, g13, g14⟩ := id h
  have h3 : z_ka B n s = 3 := z_ka3 (by omega)
  unfold f_X12_begins f_X12_begins_18 f_X12_begins_40
  rw [z_sgM h (by omega), z_bn, if_neg (show ¬ z_sg0 B n s = 33 by omega), if_pos z_n00, z_sgM h (by omega), z_bn, if_pos hsg, if_neg z_n10, z_sgM h (by omega), z_bn, if_neg (show ¬ z_sg0 B n s = 33 by omega), if_pos z_n00, z_gf, g12, z_ieq (by omega) (by omega), z_gf, g11, if_pos z_n00]
  refine ⟨fun c => ?_, fun c => ?_⟩
  · obtain ⟨M2, d1, d2, d3⟩ := z_wrM h
    rw [if_pos c, d1, z_bn]
    exact ⟨M2, rfl, z_bd1_c d2, d2.2.2.2.2.2.1, d3⟩
  · rw [if_neg c]
    unfold f_X12_begins_68 f_X12_begins_93 f_X12_begins_111
    obtain ⟨p1, p2⟩ := z_pshM (w := 1) h hl
    obtain ⟨-, -, -, -, -, -, -, -, -, -, k10, k11, k12, k13, k14⟩ := id p1
    have hM2 : z_cM (x_up (x_up (x_up (x_up M 5 st.length (nI 1)) 0 16 (nI (st.length + 1))) 0 18 (nI ba)) 0 17 (nI (pa + 1))) B n s cnt cl (pa + 1) ba 0 ft out (1 :: st) := z_cM_f p1 (fun q q1 _ => by rw [z_upn q1, z_upn q1]) (fun c hc => by rw [z_upr, z_un (by omega), z_upr, z_un (by omega)]) (by rw [z_upr, z_un (by omega), z_upr, z_un (by omega)]; exact k10) (by rw [z_upr, z_un (by omega), z_upr, z_un (by omega)]; exact k11) (by rw [z_upr, z_us]) (by rw [z_upr, z_un (by omega), z_upr, z_us]) (by rw [z_upn (by omega), z_upn (by omega)]; exact k14)
    obtain ⟨M3, ft', d1, d2, d3, d4⟩ := z_neM hM2
    rw [h3, z_gl3] at d2
    have u18 : (x_up (x_up M 5 st.length (nI 1)) 0 16 (nI (st.length + 1))) 0 18 = nI ba := k13
    have u17 : (x_up (x_up (x_up M 5 st.length (nI 1)) 0 16 (nI (st.length + 1))) 0 18 (nI ba)) 0 17 = nI pa := by rw [z_upr, z_un (by omega)]; exact k12
    rw [z_wr (by omega) (by omega), z_gf, z_upn (by omega), g11, z_add, z_pf, z_gf, u18, if_pos z_n00, show nI ba + nI 0 = nI ba from z_add ba 0, z_pf, z_gf, u17, if_pos z_n00, z_add, z_pf, d1, z_bn]
    exact ⟨M3, ft', rfl, d2, z_fM_t (z_fM_t p2 ⟨fun q q1 _ _ => by rw [z_upn q1, z_upn q1], fun c hc => by rw [z_upr, z_un (by omega), z_upr, z_un (by omega)], fun i _ => by rw [z_upn (by omega), z_upn (by omega)]⟩) d4⟩
