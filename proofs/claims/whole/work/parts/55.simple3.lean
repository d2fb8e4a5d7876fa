/-! ===== calls that tell a LINE ===== -/
theorem z_bnid {o : Option (Int32 × x_M)} : x_bn o (fun r M => some (r, M)) = o := by
  cases o with
  | none => rfl
  | some a => rfl
theorem z_newl {NC : Nat} {X M : x_M} {G H : z_G} {Cd Ch : Nat → Nat → List Int32} (R : z_R NC X M G H Cd Ch) {kd mb ab am ot co : Nat} (hlc : z_lc G kd mb ab am ot co) : z_E NC (f_X0_newLine X (nI kd) (nI mb) (nI ab) (nI am) (nI ot) (nI co)) (if nI (G 6 9) = nI 100 then some ((-1000000003), M) else f_X12_tells M (nI kd) (nI mb) (nI ab) (nI am) (nI ot) (nI co)) := by
  obtain ⟨hcl, hrs, hwy⟩ := id R
  obtain ⟨hc, hi, ho, hf, ht⟩ := id hcl
  have hS := hi.1
  unfold z_IS at hS
  have hm := z_g6 hc
  simp (disch := omega) only [z_eq]
  by_cases hL : G 6 9 = 100
  · rw [if_pos hL]
    unfold f_X0_newLine f_X3_add
    simp (disch := omega) only [z_gf, hm, z_lt]
    rw [if_neg (by omega)]
    exact z_same R
  · rw [if_neg hL]
    obtain ⟨X', M', e1, e2, e3, -, -⟩ := z_line R (by omega) hlc
    exact ⟨_, X', M', _, H, Cd, Ch, e1, e2, e3⟩
theorem e_spend {NC : Nat} {X M : x_M} {G H : z_G} {Cd Ch : Nat → Nat → List Int32} (R : z_R NC X M G H Cd Ch) (a1 a2 a3 a4 : Int32) : z_E NC (f_X11_spend X a1 a2 a3 a4) (f_X12_spend M a1 a2 a3 a4) := by
  obtain ⟨hcl, hrs, hwy⟩ := id R
  obtain ⟨hc, hi, ho, hf, ht⟩ := id hcl
  have hS := hi.1
  unfold z_IS at hS
  have hm := z_g2 hc
  have hT := z_g1 hc
  have hl := z_g6 hc
  unfold f_X11_spend f_X12_spend f_X11_spend_34 f_X12_spend_36 f_X11_isMember f_X12_isMember f_X11_isPast f_X12_isPast f_X11_isPartner
  simp (disch := omega) only [z_gf, z_rd, hm, hT, hl, z_in, z_wi, z_bn, z_czi, z_ite, z_bnid]
  by_cases h1 : a1 < nI 0 ∨ nI (G 2 3) - nI 1 < a1
  · simp only [if_pos h1]
    exact z_same R
  simp only [if_neg h1]
  by_cases h2 : a2 < nI 0 ∨ nI (G 1 8) < a2
  · simp only [if_pos h2]
    exact z_same R
  simp only [if_neg h2]
  by_cases h3 : a3 < nI 1 ∨ nI 99999 < a3
  · simp only [if_pos h3]
    exact z_same R
  simp only [if_neg h3]
  by_cases h4 : a4 < nI 0 ∨ nI 3 < a4
  · simp only [if_pos h4]
    exact z_same R
  simp only [if_neg h4]
  obtain ⟨v1, k1, rfl⟩ := z_natm h1 (by omega)
  obtain ⟨v2, -, k2, rfl⟩ := z_nat h2 (by decide) (by omega)
  obtain ⟨v3, k3, k3', rfl⟩ := z_nat h3 (by decide) (by decide)
  obtain ⟨v4, -, k4, rfl⟩ := z_nat h4 (by decide) (by decide)
  exact z_newl R (kd := 1) (co := 0) (by unfold z_lc; omega)
theorem e_gift {NC : Nat} {X M : x_M} {G H : z_G} {Cd Ch : Nat → Nat → List Int32} (R : z_R NC X M G H Cd Ch) (a1 a2 a3 a4 : Int32) : z_E NC (f_X11_gift X a1 a2 a3 a4) (f_X12_gift M a1 a2 a3 a4) := by
  obtain ⟨hcl, hrs, hwy⟩ := id R
  obtain ⟨hc, hi, ho, hf, ht⟩ := id hcl
  have hS := hi.1
  unfold z_IS at hS
  have hm := z_g2 hc
  have hT := z_g1 hc
  have hl := z_g6 hc
  unfold f_X11_gift f_X12_gift f_X11_gift_35 f_X12_gift_41 f_X11_isMember f_X12_isMember f_X11_isPast f_X12_isPast
  simp (disch := omega) only [z_gf, z_rd, hm, hT, hl, z_in, z_wi, z_bn, z_czi, z_ite, z_bnid]
  by_cases h1 : a1 < nI 0 ∨ nI (G 2 3) - nI 1 < a1
  · simp only [if_pos h1]
    exact z_same R
  simp only [if_neg h1]
  by_cases h2 : a2 < nI 0 ∨ nI (G 1 8) < a2
  · simp only [if_pos h2]
    exact z_same R
  simp only [if_neg h2]
  by_cases h3 : a3 < nI 1 ∨ nI 99999 < a3
  · simp only [if_pos h3]
    exact z_same R
  simp only [if_neg h3]
  by_cases h4 : a4 < nI 0 ∨ nI (G 2 3) - nI 1 < a4
  · simp only [if_pos h4]
    exact z_same R
  simp only [if_neg h4]
  by_cases h5 : a1 = a4
  · simp only [if_pos h5]
    exact z_same R
  simp only [if_neg h5]
  obtain ⟨v1, k1, rfl⟩ := z_natm h1 (by omega)
  obtain ⟨v2, -, k2, rfl⟩ := z_nat h2 (by decide) (by omega)
  obtain ⟨v3, k3, k3', rfl⟩ := z_nat h3 (by decide) (by decide)
  obtain ⟨v4, k4, rfl⟩ := z_natm h4 (by omega)
  rw [z_eq (by omega) (by omega)] at h5
  exact z_newl R (kd := 2) (co := 0) (by unfold z_lc; omega)
theorem e_back {NC : Nat} {X M : x_M} {G H : z_G} {Cd Ch : Nat → Nat → List Int32} (R : z_R NC X M G H Cd Ch) (a1 a2 : Int32) : z_E NC (f_X11_back X a1 a2) (f_X12_back M a1 a2) := by
  obtain ⟨hcl, hrs, hwy⟩ := id R
  obtain ⟨hc, hi, ho, hf, ht⟩ := id hcl
  have hS := hi.1
  unfold z_IS at hS
  have hT := z_g1 hc
  have hl := z_g6 hc
  unfold f_X11_back f_X12_back f_X11_back_16 f_X11_back_47 f_X12_back_50 f_X11_isLine f_X12_isLine f_X11_isPast f_X12_isPast
  simp (disch := omega) only [z_gf, z_rd, hT, hl, z_in, z_wi, z_bn, z_czi, z_ite, z_bnid]
  by_cases h1 : a1 < nI 0 ∨ nI (G 6 9) - nI 1 < a1
  · simp only [if_pos h1]
    exact z_same R
  simp only [if_neg h1]
  obtain ⟨k, hk, rfl⟩ := z_natm h1 (by omega)
  have hil := hi.2.2.2.1 k hk
  unfold z_IL at hil
  simp (disch := omega) only [z_add, z_mul, z_rd]
  rw [show 50 + 10 * k + 2 = 52 + 10 * k by omega, show 50 + 10 * k + 1 = 51 + 10 * k by omega, show 50 + 10 * k + 5 = 55 + 10 * k by omega, (z_g7 hc hk).1, (z_g7 hc hk).2, (z_g8 hc hk).1, (z_g8 hc hk).2, (z_g9 hc hk).1, (z_g9 hc hk).2, (z_g12 hc hk).1, (z_g12 hc hk).2]
  simp (disch := omega) only [z_eq (show G 7 k < 2147483648 by omega)]
  by_cases h2 : a2 < nI 0 ∨ nI (G 1 8) < a2
  · simp only [if_pos h2, ite_self]
    exact z_same R
  simp only [if_neg h2]
  by_cases h3 : G 7 k = 1
  · simp only [if_pos h3]
    obtain ⟨v2, -, k2, rfl⟩ := z_nat h2 (by decide) (by omega)
    simp (disch := omega) only [z_le]
    by_cases h4 : G 9 k ≤ v2
    · simp only [if_pos h4]
      exact z_newl R (kd := 3) (co := 0) (by unfold z_lc; omega)
    · simp only [if_neg h4]
      exact z_same R
  · simp only [if_neg h3]
    exact z_same R
theorem e_fly {NC : Nat} {X M : x_M} {G H : z_G} {Cd Ch : Nat → Nat → List Int32} (R : z_R NC X M G H Cd Ch) (a1 a2 a3 a4 a5 : Int32) : z_E NC (f_X11_fly X a1 a2 a3 a4 a5) (f_X12_fly M a1 a2 a3 a4 a5) := by
  obtain ⟨hcl, hrs, hwy⟩ := id R
  obtain ⟨hc, hi, ho, hf, ht⟩ := id hcl
  have hS := hi.1
  unfold z_IS at hS
  have hm := z_g2 hc
  have hT := z_g1 hc
  have hl := z_g6 hc
  unfold f_X11_fly f_X12_fly f_X11_fly_39 f_X11_fly_71 f_X12_fly_59 f_X11_isMember f_X12_isMember f_X11_isPast f_X12_isPast f_X11_isPartner
  simp (disch := omega) only [z_gf, z_rd, hm, hT, hl, z_in, z_wi, z_bn, z_czi, z_ite, z_bnid, z_dv]
  by_cases h1 : a1 < nI 0 ∨ nI (G 2 3) - nI 1 < a1
  · simp only [if_pos h1]
    exact z_same R
  simp only [if_neg h1]
  by_cases h2 : a2 < nI 0 ∨ nI (G 1 8) < a2
  · simp only [if_pos h2]
    exact z_same R
  simp only [if_neg h2]
  by_cases h3 : a3 < nI 1 ∨ nI 9999 < a3
  · simp only [if_pos h3]
    exact z_same R
  simp only [if_neg h3]
  by_cases h5 : a5 < nI 0 ∨ nI 9999 < a5
  · simp only [if_pos h5, ite_self]
    exact z_same R
  simp only [if_neg h5]
  by_cases h4 : a4 < nI 0
  · rw [if_pos (show a4 < 0 from h4), if_pos (Or.inl h4)]
    exact z_same R
  obtain ⟨v, hv, rfl⟩ := nI_of (x := a4) h4
  have hv : v < 2147483648 := hv
  simp (disch := omega) only [z_lt0, z_div, z_mul, z_sub, z_lt, if_false]
  by_cases h6 : 33 < v
  · rw [if_pos (Or.inr h6 : v < 0 ∨ 33 < v)]
    by_cases h7 : v / 10 < 0 ∨ 3 < v / 10
    · rw [if_pos h7]
      exact z_same R
    · rw [if_neg h7, if_pos (by omega)]
      exact z_same R
  · rw [if_neg (by omega : ¬ (v < 0 ∨ 33 < v)), if_neg (by omega : ¬ (v / 10 < 0 ∨ 3 < v / 10))]
    by_cases h7 : 3 < v - v / 10 * 10
    · rw [if_pos h7, if_pos (Or.inr h7)]
      exact z_same R
    · rw [if_neg h7, if_neg (by omega)]
      obtain ⟨v1, k1, rfl⟩ := z_natm h1 (by omega)
      obtain ⟨v2, -, k2, rfl⟩ := z_nat h2 (by decide) (by omega)
      obtain ⟨v3, k3, k3', rfl⟩ := z_nat h3 (by decide) (by decide)
      obtain ⟨v5, -, k5, rfl⟩ := z_nat h5 (by decide) (by decide)
      exact z_newl R (kd := 0) (by unfold z_lc; omega)
/-! ===== numbers that wait, sheets ===== -/
theorem z_live {NC : Nat} {X M : x_M} {G H : z_G} {Cd Ch : Nat → Nat → List Int32} (R : z_R NC X M G H Cd Ch) {X' M' : x_M} (hX : ∀ k, (1 ≤ k ∧ k ≤ 33) ∨ k = 78 ∨ k = 79 ∨ 88 ≤ k → X' k = X k) (hM : M' 1 = M 1) (rs : z_rs NC X' M' H Ch) : z_R NC X' M' G H Cd Ch := by
  obtain ⟨hcl, hrs, hwy⟩ := R
  refine ⟨?_, rs, z_wy_fr hwy (hX 78 (by omega)) (hX 79 (by omega)) rfl (fun _ => ⟨rfl, rfl, rfl⟩)⟩
  rw [hM]
  exact z_cl_fr hcl (fun k hk => hX k (by omega)) (fun _ _ => rfl)
theorem e_tell {NC : Nat} {X M : x_M} {G H : z_G} {Cd Ch : Nat → Nat → List Int32} (R : z_R NC X M G H Cd Ch) (a1 : Int32) : z_E NC (f_X11_tell X a1) (f_X12_tell M a1) := by
  obtain ⟨hcl, hrs, hwy⟩ := id R
  obtain ⟨hc, hi, ho, hf, ht⟩ := id hcl
  have hS := hi.1
  unfold z_IS at hS
  obtain ⟨hk, hsh, ⟨w, hw, w1, w2, w3⟩, htp, hpl⟩ := id hrs
  unfold f_X11_tell f_X12_tell
  simp (disch := omega) only [z_gf, w1, w2, z_lt, z_eq]
  by_cases h1 : w = 16
  · rw [if_neg (by omega), if_pos h1]
    exact z_same R
  · rw [if_pos (by omega), if_neg h1]
    simp (disch := omega) only [z_wr, z_upn, w1, w2, z_add, z_pf, z_upr, z_us]
    refine ⟨_, _, _, G, H, Cd, Ch, rfl, rfl, z_live R (fun k hk => ?_) ?_ (z_rs_fr2 hrs (fun k hk => ?_) ?_ ?_ ?_ ?_ ⟨w + 1, by omega, ?_, ?_, fun i hi' => ?_⟩ ?_)⟩
    · rw [z_upn (by omega), z_upn (by omega)]
    · rw [z_upn (by omega), z_upn (by omega)]
    · rw [z_upn (by omega), z_upn (by omega)]
    · rw [z_upn (by omega), z_upn (by omega)]
    · rw [z_upr, z_un (by omega), z_upn (by omega)]
    · rw [z_upr, z_un (by omega), z_upn (by omega)]
    · exact z_sh_fr hsh (by rw [z_upn (by omega), z_upn (by omega)]) (by rw [z_upn (by omega), z_upn (by omega)]) (by rw [z_upn (by omega), z_upn (by omega)]) (by rw [z_upn (by omega), z_upn (by omega)])
    · rw [z_upr, z_us]
    · rw [z_upr, z_us]
    · simp (disch := omega) only [z_upn, z_upr]
      by_cases e : i = w
      · subst e
        rw [z_us, z_us]
      · rw [z_un e, z_un e]
        exact w3 i (by omega)
    · exact z_tp_fr htp (by rw [z_upn (by omega), z_upn (by omega)]) (by rw [z_upn (by omega), z_upn (by omega)]) (by rw [z_upr, z_un (by omega), z_upn (by omega)]) (by rw [z_upn (by omega), z_upn (by omega)])
theorem e_mark {NC : Nat} {X M : x_M} {G H : z_G} {Cd Ch : Nat → Nat → List Int32} (R : z_R NC X M G H Cd Ch) (a1 a2 a3 : Int32) : z_E NC (f_X11_mark X a1 a2 a3) (f_X12_mark M a1 a2 a3) := by
  obtain ⟨hcl, hrs, hwy⟩ := id R
  obtain ⟨hc, hi, ho, hf, ht⟩ := id hcl
  have hS := hi.1
  unfold z_IS at hS
  obtain ⟨hk, ⟨s1, s2⟩, hwt, htp, hpl⟩ := id hrs
  unfold f_X11_mark f_X12_mark f_X11_isSheet
  simp only [z_in, z_wi, z_bn, z_czi, z_ite]
  by_cases h1 : a1 < nI 0 ∨ nI 1 < a1
  · simp only [if_pos h1]
    exact z_same R
  simp only [if_neg h1]
  obtain ⟨k, -, hk1, rfl⟩ := z_nat h1 (by decide) (by decide)
  obtain ⟨q1, q2⟩ := s2 k (by omega)
  simp (disch := omega) only [z_rd, q1]
  rcases q2 with q2 | ⟨n, hn, q2, q3⟩
  · rw [q2, if_pos rfl, if_pos rfl]
    exact z_same R
  · rw [q2]
    simp (disch := omega) only [z_nm1, if_false]
    by_cases h2 : a2 < nI 0 ∨ nI n - nI 1 < a2
    · simp only [if_pos h2]
      exact z_same R
    simp only [if_neg h2]
    obtain ⟨j, hj, rfl⟩ := z_natm h2 (by omega)
    simp (disch := omega) only [z_mul, z_add, z_rd, z_wr]
    rw [show k * 16 + j = 16 * k + j by omega, q3 j hj, pk_vs]
    refine ⟨_, _, _, G, H, Cd, Ch, rfl, rfl, z_live R (fun k' hk' => z_upn (by omega)) (z_upn (by omega)) (z_rs_fr2 hrs (fun k' hk' => z_upn (by omega)) (z_upn (by omega)) (by rw [z_upn (by omega)]) (by rw [z_upn (by omega)]) ⟨fun i hi' => ?_, fun i hi' => ?_⟩ (z_wt_fr hwt (by rw [z_upn (by omega)]) (z_upn (by omega)) (by rw [z_upn (by omega)]) (z_upn (by omega))) (z_tp_fr htp (by rw [z_upn (by omega)]) (z_upn (by omega)) (by rw [z_upn (by omega)]) (z_upn (by omega))))⟩
    · rw [z_upr]
      by_cases e : i = 16 * k + j
      · subst e
        rw [z_us]
        simp
      · rw [z_un e]
        exact s1 i hi'
    · rw [z_upn (by omega), z_upn (by omega), z_upr, z_upr]
      obtain ⟨p1, p2⟩ := s2 i hi'
      refine ⟨p1, p2.imp (fun h => h) (fun ⟨n', g1, g2, g3⟩ => ⟨n', g1, g2, fun j' hj' => ?_⟩)⟩
      by_cases e : 16 * i + j' = 16 * k + j
      · rw [e, z_us, z_us]
      · rw [z_un e, z_un e]
        exact g3 j' hj'
theorem e_trim {NC : Nat} {X M : x_M} {G H : z_G} {Cd Ch : Nat → Nat → List Int32} (R : z_R NC X M G H Cd Ch) (a1 : Int32) : z_E NC (f_X11_trim X a1) (f_X12_trim M a1) := by
  obtain ⟨hcl, hrs, hwy⟩ := id R
  obtain ⟨hc, hi, ho, hf, ht⟩ := id hcl
  have hS := hi.1
  unfold z_IS at hS
  obtain ⟨hk, hsh, hwt, ⟨n, hn, t1, t2, t3⟩, hpl⟩ := id hrs
  unfold f_X11_trim f_X12_trim
  simp only [z_gf, t1, t2, z_in, z_wi, z_bn, z_ite]
  by_cases h1 : a1 < nI 0 ∨ nI n < a1
  · simp only [if_pos h1]
    exact z_same R
  simp only [if_neg h1]
  obtain ⟨k, -, hk1, rfl⟩ := z_nat h1 (by decide) (by omega)
  simp only [z_pf]
  refine ⟨_, _, _, G, H, Cd, Ch, rfl, rfl, z_live R (fun k' hk' => z_upn (by omega)) (z_upn (by omega)) (z_rs_fr2 hrs (fun k' hk' => z_upn (by omega)) (z_upn (by omega)) (by rw [z_upn (by omega)]) (by rw [z_upr, z_un (by omega)]) (z_sh_fr hsh (z_upn (by omega)) (z_upn (by omega)) (z_upn (by omega)) (z_upn (by omega))) (z_wt_fr hwt (by rw [z_upn (by omega)]) (z_upn (by omega)) (by rw [z_upr, z_un (by omega)]) (z_upn (by omega))) ⟨k, by omega, by rw [z_upr, z_us], by rw [z_upr, z_us], fun i hi' => ?_⟩)⟩
  rw [z_upn (by omega), z_upn (by omega)]
  exact t3 i (by omega)
