/-! ===== both read an E alike ===== -/
def z_bdP (B : Nat → Nat) (n cl s cnt pa ba s' : Nat) : Prop := ∀ (j : Nat) (M : x_M) (ft : Int32) (out : List Int32) (st : List Nat) (fu : Nat), j ≤ ba → z_cM M B n s cnt cl pa ba 0 ft out (List.replicate j 3 ++ st) → z_stJ 5 st → out.length + (j + st.length) ≤ s → 140 ≤ fu + s → ∃ M', f_X12_expression_19 fu M (nI 1) (nI 1) = some ((), M') ∧ z_bd1 M' ∧ M' 0 9 = nI s' ∧ z_fM cl M M'
def z_gdP (B : Nat → Nat) (n cl s cnt pa ba s' cnt' : Nat) (seg : List Int32) : Prop := ∀ (j : Nat) (M : x_M) (ft : Int32) (out : List Int32) (st : List Nat) (fu : Nat), j ≤ ba → z_cM M B n s cnt cl pa ba 0 ft out (List.replicate j 3 ++ st) → z_stJ 5 st → out.length + (j + st.length) ≤ s → 140 ≤ fu + s → ∃ M' ft' fu', f_X12_expression_19 fu M (nI 1) (nI 1) = f_X12_expression_19 fu' M' (nI 0) (nI 1) ∧ 140 ≤ fu' + s' ∧ z_cM M' B n s' cnt' cl pa (ba - j) 0 ft' (out ++ seg ++ List.replicate j (-33)) st ∧ z_fM cl M M'
def z_bdJ (B : Nat → Nat) (n cl s cnt pa ba l s' : Nat) : Prop := ∀ (M : x_M) (ft : Int32) (out : List Int32) (st : List Nat) (fu : Nat), z_cM M B n s cnt cl pa ba 0 ft out st → z_stJ l st → out.length + st.length ≤ s → 140 ≤ fu + s → ∃ M', f_X12_expression_19 fu M (nI 1) (nI 1) = some ((), M') ∧ z_bd1 M' ∧ M' 0 9 = nI s' ∧ z_fM cl M M'
def z_gdJ (B : Nat → Nat) (n cl s cnt pa ba l s' cnt' : Nat) (K : List Nat) (seg : List Int32) : Prop := ∀ (M : x_M) (ft : Int32) (out : List Int32) (st : List Nat) (fu : Nat), z_cM M B n s cnt cl pa ba 0 ft out st → z_stJ l st → out.length + st.length ≤ s → 140 ≤ fu + s → ∃ M' ft' fu' out', f_X12_expression_19 fu M (nI 1) (nI 1) = f_X12_expression_19 fu' M' (nI 0) (nI 1) ∧ 140 ≤ fu' + s' ∧ z_cM M' B n s' cnt' cl pa ba 0 ft' out' (K ++ st) ∧ out' ++ K.map z_sc = out ++ seg ∧ z_fM cl M M'
def z_cc (X' : x_M) (B : Nat → Nat) (n cl s s' nb cnt' pa ba : Nat) (code seg : List Int32) : Prop := z_cX X' B n s' nb cnt' pa ba (nI (5 + cl)) (code ++ seg) ∧ seg.length + s ≤ s' ∧ s < s' ∧ ∀ d, z_wf (z_nm cl) seg d (d + 1)
def z_tc (B : Nat → Nat) (n s' l : Nat) (K : List Nat) : Prop := z_sn (z_sg0 B n s') / 10 ≤ l ∨ (z_sn (z_sg0 B n s') / 10 = 3 ∧ ∃ q, q ∈ K ∧ q / 10 = 3)
def z_kk (l : Nat) (K : List Nat) : Prop := (∀ q, q ∈ K → z_op q ∧ l + 1 ≤ q / 10) ∧ K.Pairwise (fun a b => b / 10 < a / 10)
def z_oP (B : Nat → Nat) (n cl s cnt pa ba : Nat) (code : List Int32) (r : Nat) (X' : x_M) : Prop := (r = 0 ∧ ∃ s', X' 80 6 = nI s' ∧ z_bdP B n cl s cnt pa ba s') ∨ (r = 1 ∧ ∃ s' nb cnt' seg, z_cc X' B n cl s s' nb cnt' pa ba code seg ∧ ((nb = 1 ∧ (z_ka B n s' = 1 ∨ z_ka B n s' = 2) ∧ z_bdP B n cl s cnt pa ba s') ∨ (nb = 0 ∧ z_gdP B n cl s cnt pa ba s' cnt' seg)))
def z_oJ (B : Nat → Nat) (n cl s cnt pa ba l : Nat) (code : List Int32) (r : Nat) (X' : x_M) : Prop := (r = 0 ∧ ∃ s', X' 80 6 = nI s' ∧ z_bdJ B n cl s cnt pa ba l s') ∨ (r = 1 ∧ ∃ s' nb cnt' seg, z_cc X' B n cl s s' nb cnt' pa ba code seg ∧ ((nb = 1 ∧ (z_ka B n s' = 1 ∨ z_ka B n s' = 2) ∧ z_bdJ B n cl s cnt pa ba l s') ∨ (nb = 0 ∧ ∃ K, z_kk l K ∧ z_tc B n s' l K ∧ z_gdJ B n cl s cnt pa ba l s' cnt' K seg)))
def z_clP (B : Nat → Nat) (n cl d : Nat) : Prop := ∀ (X : x_M) (s cnt pa ba : Nat) (code : List Int32), 1 + 7 * (8 - pa) + (8 - ba) ≤ d → pa ≤ 8 → ba ≤ 8 → z_cX X B n s 0 cnt pa ba (nI (5 + cl)) code → code.length ≤ s → ∃ r X', (x_rec d).2 X = some (nI r, X') ∧ z_fX X X' ∧ z_oP B n cl s cnt pa ba code r X'
def z_clJ (B : Nat → Nat) (n cl d : Nat) : Prop := ∀ (l : Nat) (X : x_M) (s cnt pa ba : Nat) (code : List Int32), l ≤ 5 → (6 - l) + (1 + 7 * (8 - pa) + (8 - ba)) ≤ d → pa ≤ 8 → ba ≤ 8 → z_cX X B n s 0 cnt pa ba (nI (5 + cl)) code → code.length ≤ s → ∃ r X', (x_rec d).1 X (nI l) = some (nI r, X') ∧ z_fX X X' ∧ z_oJ B n cl s cnt pa ba l code r X'
theorem z_cX_pb {X : x_M} {B : Nat → Nat} {n s nb cnt pa ba : Nat} {nm : Int32} {code : List Int32} (h : z_cX X B n s nb cnt pa ba nm code) : (∀ v, z_cX (x_up X 80 11 (nI v)) B n s nb cnt v ba nm code ∧ z_fX X (x_up X 80 11 (nI v))) ∧ ∀ v, z_cX (x_up X 80 12 (nI v)) B n s nb cnt pa v nm code ∧ z_fX X (x_up X 80 12 (nI v)) := by
  obtain ⟨⟨h1, h2, h3⟩, g1, g2, g3, g4, g5, g6, g7, g8, g9, g10, g11⟩ := h
  refine ⟨fun v => ?_, fun v => ?_⟩
  · have f81 : ∀ c, c ≠ 11 → (x_up X 80 11 (nI v)) 80 c = X 80 c := fun c hc => by rw [z_upr, z_un hc]
    exact ⟨⟨⟨h1, by rw [f81 4 (by omega)]; exact h2, fun i hi => by rw [z_upn (by omega)]; exact h3 i hi⟩, g1, by rw [f81 6 (by omega)]; exact g2, by rw [f81 7 (by omega)]; exact g3, by rw [f81 8 (by omega)]; exact g4, by rw [f81 9 (by omega)]; exact g5, by rw [f81 5 (by omega)]; exact g6, by rw [z_upr, z_us], by rw [f81 12 (by omega)]; exact g8, by rw [f81 13 (by omega)]; exact g9, by rw [f81 10 (by omega)]; exact g10, fun j hj => by rw [z_upn (by omega)]; exact g11 j hj⟩, fun q q1 _ => z_upn q1, f81 3 (by omega)⟩
  · have f81 : ∀ c, c ≠ 12 → (x_up X 80 12 (nI v)) 80 c = X 80 c := fun c hc => by rw [z_upr, z_un hc]
    exact ⟨⟨⟨h1, by rw [f81 4 (by omega)]; exact h2, fun i hi => by rw [z_upn (by omega)]; exact h3 i hi⟩, g1, by rw [f81 6 (by omega)]; exact g2, by rw [f81 7 (by omega)]; exact g3, by rw [f81 8 (by omega)]; exact g4, by rw [f81 9 (by omega)]; exact g5, by rw [f81 5 (by omega)]; exact g6, by rw [f81 11 (by omega)]; exact g7, by rw [z_upr, z_us], by rw [f81 13 (by omega)]; exact g9, by rw [f81 10 (by omega)]; exact g10, fun j hj => by rw [z_upn (by omega)]; exact g11 j hj⟩, fun q q1 _ => z_upn q1, f81 3 (by omega)⟩
theorem z_wk_sg {B : Nat → Nat} {n s : Nat} (h : z_ka B n s = 1 ∨ z_ka B n s = 2) : z_sg0 B n s = 0 := by
  unfold z_sg0
  rw [if_neg (by omega)]
theorem z_fu1 {fu s n : Nat} (h : 140 ≤ fu + s) (hs : s ≤ n) (hn : n ≤ 132) : ∃ f, fu = f + 2 := ⟨fu - 2, by omega⟩
/-- ! -/
theorem z_pNot {B : Nat → Nat} {n cl d : Nat} (ih : z_clP B n cl d) {X : x_M} {s cnt pa ba : Nat} {code : List Int32} (hd : 1 + 7 * (8 - pa) + (8 - ba) ≤ d + 1) (hpa : pa ≤ 8) (hba : ba ≤ 8) (h : z_cX X B n s 0 cnt pa ba (nI (5 + cl)) code) (hc : code.length ≤ s) (hsg : z_sg0 B n s = 33) : ∃ r X', f_X7_isNot (x_rec d).2 X = some (nI r, X') ∧ r ≤ 1 ∧ z_fX X X' ∧ z_oP B n cl s cnt pa ba code r X' := by
  have hn : n ≤ 132 := h.1.1
  have hs : s ≤ n := h.2.1
  have g8 : X 80 12 = nI ba := h.2.2.2.2.2.2.2.2.1
  have h3 : z_ka B n s = 3 := z_ka3 (by omega)
  have hgo := z_go_b (B := B) hs
  have hgs := hgo.2.2 (by omega)
  unfold f_X7_isNot
  rw [z_gf, g8, z_ilt (by omega) (by omega)]
  by_cases c : ba < 8
  · obtain ⟨b1, b2⟩ := (z_cX_pb h).2 (ba + 1)
    obtain ⟨X2, a1, a2, a3⟩ := z_nxX b1
    rw [h3, z_gl3] at a2
    obtain ⟨r, X3, p1, p2, p3⟩ := ih X2 (z_go B n s) cnt pa (ba + 1) code (by omega) hpa (by omega) a2 (by omega)
    have bad : ∀ s', z_bdP B n cl (z_go B n s) cnt pa (ba + 1) s' → z_bdP B n cl s cnt pa ba s' := by
      intro s' hb j M ft out st fu hj hM hst hlen hfu
      obtain ⟨f, rfl⟩ := z_fu1 hfu hs hn
      obtain ⟨M1, ft', q1, q2, q3⟩ := (z_bg33 hM hsg (by simp; omega) hba hpa).2 (by omega)
      obtain ⟨M2, e1, e2, e3, e4⟩ := hb (j + 1) M1 ft' out st (f + 1) (by omega) (by rw [List.replicate_succ, List.cons_append]; exact q2) hst (by omega) (by omega)
      rw [z_exp1 hM.2.2.2.2.2.2.1, q1, z_bn, e1]
      exact ⟨M2, rfl, e2, e3, z_fM_t q3 e4⟩
    rw [if_pos c, z_gf, g8, z_add, z_pf, a1, z_bn, p1, z_bn]
    rcases p3 with ⟨rfl, s', k1, k2⟩ | ⟨rfl, s', nb, cnt', seg, ⟨k1, k2, k3, k4⟩, k5⟩
    · rw [if_pos z_n00]
      exact ⟨0, X3, rfl, by omega, z_fX_t (z_fX_t b2 a3) p2, Or.inl ⟨rfl, s', k1, bad s' k2⟩⟩
    · have hs' : s' ≤ n := k1.2.1
      obtain ⟨X4, d1, d2, d3⟩ := z_emX (v := -33) k1 (by rw [List.length_append]; omega)
      obtain ⟨w1, w2⟩ := (z_cX_pb d2).2 ba
      rw [if_neg z_n10, d1, z_bn, z_gf, d2.2.2.2.2.2.2.2.2.1, z_sub (by omega), show ba + 1 - 1 = ba by omega, z_pf]
      refine ⟨1, _, rfl, by omega, z_fX_t (z_fX_t (z_fX_t (z_fX_t b2 a3) p2) d3) w2, Or.inr ⟨rfl, s', nb, cnt', seg ++ [-33], ⟨by rw [← List.append_assoc]; exact w1, by rw [List.length_append, List.length_singleton]; omega, by omega, fun d => z_wf_app (show z_wf (z_nm cl) [-33] (d + 1) (d + 1) from Or.inr (Or.inl ⟨rfl, by omega, rfl⟩)) seg d (k4 d)⟩, ?_⟩⟩
      rcases k5 with ⟨n1, n2, n3⟩ | ⟨n1, n3⟩
      · exact Or.inl ⟨n1, n2, bad s' n3⟩
      · refine Or.inr ⟨n1, fun j M ft out st fu hj hM hst hlen hfu => ?_⟩
        obtain ⟨f, rfl⟩ := z_fu1 hfu hs hn
        obtain ⟨M1, ft', q1, q2, q3⟩ := (z_bg33 hM hsg (by simp; omega) hba hpa).2 (by omega)
        obtain ⟨M2, ft2, fu2, e1, e2, e3, e4⟩ := n3 (j + 1) M1 ft' out st (f + 1) (by omega) (by rw [List.replicate_succ, List.cons_append]; exact q2) hst (by omega) (by omega)
        rw [z_exp1 hM.2.2.2.2.2.2.1, q1, z_bn, e1]
        refine ⟨M2, ft2, fu2, rfl, e2, ?_, z_fM_t q3 e4⟩
        rw [show ba + 1 - (j + 1) = ba - j by omega, List.replicate_succ] at e3
        rw [show out ++ (seg ++ [-33]) ++ List.replicate j (-33 : Int32) = out ++ seg ++ (-33) :: List.replicate j (-33) by simp]
        exact e3
  · rw [if_neg c]
    refine ⟨0, X, rfl, by omega, z_fX_r, Or.inl ⟨rfl, s, h.2.2.1, fun j M ft out st fu hj hM hst hlen hfu => ?_⟩⟩
    obtain ⟨f, rfl⟩ := z_fu1 hfu hs hn
    obtain ⟨M1, q1, q2, q3, q4⟩ := (z_bg33 hM hsg (by simp; omega) hba hpa).1 (by omega)
    rw [z_exp1 hM.2.2.2.2.2.2.1, q1, z_bn, z_ebad q2]
    exact ⟨M1, rfl, q2, q3, q4⟩
/-- ( -/
theorem z_pPar {B : Nat → Nat} {n cl d : Nat} (hcl : cl ≤ 3) (ih : z_clJ B n cl d) {X : x_M} {s cnt pa ba : Nat} {code : List Int32} (hd : 1 + 7 * (8 - pa) + (8 - ba) ≤ d + 1) (hpa : pa ≤ 8) (hba : ba ≤ 8) (h : z_cX X B n s 0 cnt pa ba (nI (5 + cl)) code) (hc : code.length ≤ s) (hsg : z_sg0 B n s = 40) : ∃ r X', f_X7_isInParens (x_rec d).1 X = some (nI r, X') ∧ r ≤ 1 ∧ z_fX X X' ∧ z_oP B n cl s cnt pa ba code r X' := by
  have hn : n ≤ 132 := h.1.1
  have hs : s ≤ n := h.2.1
  have g7 : X 80 11 = nI pa := h.2.2.2.2.2.2.2.1
  have h3 : z_ka B n s = 3 := z_ka3 (by omega)
  have hgo := z_go_b (B := B) hs
  have hgs := hgo.2.2 (by omega)
  unfold f_X7_isInParens f_X7_isInParens_42
  rw [z_gf, g7, z_ilt (by omega) (by omega)]
  by_cases c : pa < 8
  · obtain ⟨b1, b2⟩ := (z_cX_pb h).1 (pa + 1)
    obtain ⟨X2, a1, a2, a3⟩ := z_nxX b1
    rw [h3, z_gl3] at a2
    obtain ⟨r, X3, p1, p2, p3⟩ := ih 0 X2 (z_go B n s) cnt (pa + 1) ba code (by omega) (by omega) (by omega) hba a2 (by omega)
    have st1 : ∀ st : List Nat, z_stJ 0 (1 :: st) := fun st => Or.inr ⟨1, st, rfl, Or.inl rfl⟩
    have bad : ∀ s', z_bdJ B n cl (z_go B n s) cnt (pa + 1) ba 0 s' → z_bdP B n cl s cnt pa ba s' := by
      intro s' hb j M ft out st fu hj hM hst hlen hfu
      obtain ⟨f, rfl⟩ := z_fu1 hfu hs hn
      obtain ⟨M1, ft', q1, q2, q3⟩ := (z_bg40 hM hsg (by simp; omega) hba hpa).2 (by omega)
      obtain ⟨M2, e1, e2, e3, e4⟩ := hb M1 ft' out _ (f + 1) q2 (st1 _) (by simp; omega) (by omega)
      rw [z_exp1 hM.2.2.2.2.2.2.1, q1, z_bn, e1]
      exact ⟨M2, rfl, e2, e3, z_fM_t q3 e4⟩
    rw [if_pos c, z_gf, g7, z_add, z_pf, a1, z_bn, p1, z_bn]
    rcases p3 with ⟨rfl, s', k1, k2⟩ | ⟨rfl, s', nb, cnt', seg, ⟨k1, k2, k3, k4⟩, k5⟩
    · rw [if_pos z_n00]
      exact ⟨0, X3, rfl, by omega, z_fX_t (z_fX_t b2 a3) p2, Or.inl ⟨rfl, s', k1, bad s' k2⟩⟩
    · have hs' : s' ≤ n := k1.2.1
      rw [if_neg z_n10, z_isoX k1 (t := 16) (by omega) (by decide), z_bn]
      by_cases c41 : z_sg0 B n s' = 41
      · have h3' : z_ka B n s' = 3 := z_ka3 (by omega)
        have hgo' := z_go_b (B := B) hs'
        have hgs' := hgo'.2.2 (by omega)
        obtain ⟨X4, d1, d2, d3⟩ := z_nxX k1
        rw [h3', z_gl3] at d2
        obtain ⟨w1, w2⟩ := (z_cX_pb d2).1 pa
        rw [if_pos (show z_sg0 B n s' ∈ z_sb 16 by rw [c41]; decide), if_neg z_n10, d1, z_bn, z_gf, d2.2.2.2.2.2.2.2.1, z_sub (by omega), show pa + 1 - 1 = pa by omega, z_pf]
        refine ⟨1, _, rfl, by omega, z_fX_t (z_fX_t (z_fX_t (z_fX_t b2 a3) p2) d3) w2, Or.inr ⟨rfl, z_go B n s', 0, cnt', seg, ⟨w1, by omega, by omega, k4⟩, ?_⟩⟩
        rcases k5 with ⟨n1, n2, n3⟩ | ⟨n1, K, n2, n3, n4⟩
        · have := z_wk_sg n2
          omega
        · refine Or.inr ⟨rfl, fun j M ft out st fu hj hM hst hlen hfu => ?_⟩
          obtain ⟨f, rfl⟩ := z_fu1 hfu hs hn
          obtain ⟨M1, ft', q1, q2, q3⟩ := (z_bg40 hM hsg (by simp; omega) hba hpa).2 (by omega)
          obtain ⟨M2, ft2, fu2, out2, e1, e2, e3, e4, e5⟩ := n4 M1 ft' out _ (f + 1) q2 (st1 _) (by simp; omega) (by omega)
          obtain ⟨f2, rfl⟩ := z_fu1 e2 hs' hn
          have hlen2 := congrArg List.length e4
          simp only [List.length_append, List.length_map] at hlen2
          obtain ⟨M3, ft3, u1, u2, u3⟩ := z_st_par (fu := f2 + 1) e3 hcl c41 (by omega) (by omega) (fun q hq => (n2.1 q hq).1) hst hj hba (by omega)
          rw [z_exp1 hM.2.2.2.2.2.2.1, q1, z_bn, e1, u1]
          rw [e4, show pa + 1 - 1 = pa by omega] at u2
          exact ⟨M3, ft3, f2 + 1, rfl, by omega, u2, z_fM_t q3 (z_fM_t e5 u3)⟩
      · rw [if_neg (show ¬ z_sg0 B n s' ∈ z_sb 16 by intro q; exact c41 (by have q : z_sg0 B n s' ∈ [41] := q; simpa using q)), if_pos z_n00]
        refine ⟨0, X3, rfl, by omega, z_fX_t (z_fX_t b2 a3) p2, Or.inl ⟨rfl, s', k1.2.2.1, ?_⟩⟩
        rcases k5 with ⟨n1, n2, n3⟩ | ⟨n1, K, n2, n3, n4⟩
        · exact bad s' n3
        · intro j M ft out st fu hj hM hst hlen hfu
          obtain ⟨f, rfl⟩ := z_fu1 hfu hs hn
          obtain ⟨M1, ft', q1, q2, q3⟩ := (z_bg40 hM hsg (by simp; omega) hba hpa).2 (by omega)
          obtain ⟨M2, ft2, fu2, out2, e1, e2, e3, e4, e5⟩ := n4 M1 ft' out _ (f + 1) q2 (st1 _) (by simp; omega) (by omega)
          obtain ⟨f2, rfl⟩ := z_fu1 e2 hs' hn
          have hlen2 := congrArg List.length e4
          simp only [List.length_append, List.length_map] at hlen2
          rw [z_exp1 hM.2.2.2.2.2.2.1, q1, z_bn, e1]
          rcases n3 with n3 | ⟨n3, n5⟩
          · have hw : z_sn (z_sg0 B n s') = 0 := by
              by_cases w0 : z_sn (z_sg0 B n s') = 0
              · exact w0
              · have := (z_sn_f _ (z_sg0_256 (s := s') e3.1) w0).1
                omega
            obtain ⟨M3, u1, u2, u3, u4⟩ := z_st_nop (fu := f2) e3 hw c41 (by omega) (by omega)
            exact ⟨M3, u1, u2, u3, z_fM_t q3 (z_fM_t e5 u4)⟩
          · obtain ⟨M3, u1, u2, u3, u4⟩ := z_st_two (fu := f2) e3 hcl n3 (fun q hq => (n2.1 q hq).1) n2.2 n5 (by simp; omega)
            exact ⟨M3, u1, u2, u3, z_fM_t q3 (z_fM_t e5 u4)⟩
  · rw [if_neg c]
    refine ⟨0, X, rfl, by omega, z_fX_r, Or.inl ⟨rfl, s, h.2.2.1, fun j M ft out st fu hj hM hst hlen hfu => ?_⟩⟩
    obtain ⟨f, rfl⟩ := z_fu1 hfu hs hn
    obtain ⟨M1, q1, q2, q3, q4⟩ := (z_bg40 hM hsg (by simp; omega) hba hpa).1 (by omega)
    rw [z_exp1 hM.2.2.2.2.2.2.1, q1, z_bn, z_ebad q2]
    exact ⟨M1, rfl, q2, q3, q4⟩
theorem z_pPart {B : Nat → Nat} {n cl d : Nat} (hcl : cl ≤ 3) (ihP : z_clP B n cl d) (ihJ : z_clJ B n cl d) : z_clP B n cl (d + 1) := by
  intro X s cnt pa ba code hd hpa hba h hc
  have hn : n ≤ 132 := h.1.1
  have hs : s ≤ n := h.2.1
  have hgo := z_go_b (B := B) hs
  show ∃ r X', f_X7_isPart (x_rec d).1 (x_rec d).2 X = some (nI r, X') ∧ z_fX X X' ∧ z_oP B n cl s cnt pa ba code r X'
  unfold f_X7_isPart
  have cz : ∀ (r : Nat) (Y : x_M), r ≤ 1 → x_cz (nI r) (some (nI r, Y)) = some (nI r, Y) := by
    intro r Y hr
    rcases (show r = 0 ∨ r = 1 by omega) with rfl | rfl
    · exact z_cz0
    · exact z_cz1
  rw [z_isoX h (t := 14) (by omega) (by decide), z_bn]
  by_cases c33 : z_sg0 B n s = 33
  · obtain ⟨r, X', p1, p2, p3, p4⟩ := z_pNot ihP hd hpa hba h hc c33
    rw [if_pos (show z_sg0 B n s ∈ z_sb 14 by rw [c33]; decide), if_neg z_n10, p1, z_bn, cz r X' p2]
    exact ⟨r, X', rfl, p3, p4⟩
  · rw [if_neg (show ¬ z_sg0 B n s ∈ z_sb 14 by intro q; exact c33 (by have q : z_sg0 B n s ∈ [33] := q; simpa using q)), if_pos z_n00, z_isoX h (t := 15) (by omega) (by decide), z_bn]
    by_cases c40 : z_sg0 B n s = 40
    · obtain ⟨r, X', p1, p2, p3, p4⟩ := z_pPar hcl ihJ hd hpa hba h hc c40
      rw [if_pos (show z_sg0 B n s ∈ z_sb 15 by rw [c40]; decide), if_neg z_n10, p1, z_bn, cz r X' p2]
      exact ⟨r, X', rfl, p3, p4⟩
    · rw [if_neg (show ¬ z_sg0 B n s ∈ z_sb 15 by intro q; exact c40 (by have q : z_sg0 B n s ∈ [40] := q; simpa using q)), if_pos z_n00]
      obtain ⟨x1, x2⟩ := z_atX h hcl hc
      cases hat : z_at B n s cl with
      | none =>
        rw [x2 hat, z_bn, z_cz0]
        refine ⟨0, X, rfl, z_fX_r, Or.inl ⟨rfl, s, h.2.2.1, fun j M ft out st fu hj hM hst hlen hfu => ?_⟩⟩
        obtain ⟨f, rfl⟩ := z_fu1 hfu hs hn
        obtain ⟨M1, q1, q2, q3⟩ := (z_atM hM hcl (z_stJ_p hst (by omega)) (z_stJ_3 hst) hj hba hlen c33 c40).2 hat
        rw [z_exp1 hM.2.2.2.2.2.2.1, q1, z_bn, z_ebad (z_bd1_c q2)]
        exact ⟨M1, rfl, z_bd1_c q2, q2.2.2.2.2.2.1, q3⟩
      | some v =>
        obtain ⟨X1, a1, a2, a3⟩ := x1 v hat
        have hka : z_ka B n s ≠ 0 := fun q => by
          have : z_at B n s cl = none := z_at_0 (fun q' => by omega) (fun q' => by omega)
          rw [hat] at this
          exact absurd this (by simp)
        have hgs := hgo.2.2 hka
        rw [a1, z_bn, z_cz1]
        refine ⟨1, X1, rfl, a3, Or.inr ⟨rfl, z_go B n s, _, cnt + 1, [v], ⟨a2, by simp; omega, hgs, fun d => Or.inl ⟨z_at_opd hs hat, rfl⟩⟩, ?_⟩⟩
        have hgl := z_gl_b (B := B) (n := n) (p := z_en B n s) (k := z_ka B n s)
        by_cases cg : z_gl B n (z_en B n s) (z_ka B n s) = 1
        · refine Or.inl ⟨cg, z_gl_k cg, fun j M ft out st fu hj hM hst hlen hfu => ?_⟩
          obtain ⟨f, rfl⟩ := z_fu1 hfu hs hn
          obtain ⟨M1, ft', q1, q2, q3, q4⟩ := (z_atM hM hcl (z_stJ_p hst (by omega)) (z_stJ_3 hst) hj hba hlen c33 c40).1 v hat
          have q2' := q2
          rw [cg] at q2'
          have k10 : z_bd1 M1 := z_bd1_c q2'
          rw [z_exp1 hM.2.2.2.2.2.2.1, q1, z_bn, z_ebad k10]
          exact ⟨M1, rfl, k10, by rw [q2.2.2.2.2.2.1, q3 cg], q4⟩
        · refine Or.inr ⟨by omega, fun j M ft out st fu hj hM hst hlen hfu => ?_⟩
          obtain ⟨f, rfl⟩ := z_fu1 hfu hs hn
          obtain ⟨M1, ft', q1, q2, q3, q4⟩ := (z_atM hM hcl (z_stJ_p hst (by omega)) (z_stJ_3 hst) hj hba hlen c33 c40).1 v hat
          rw [show z_gl B n (z_en B n s) (z_ka B n s) = 0 by omega] at q2
          rw [z_exp1 hM.2.2.2.2.2.2.1, q1, z_bn]
          exact ⟨M1, ft', f + 1, rfl, by omega, q2, q4⟩
