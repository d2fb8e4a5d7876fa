/-! ===== calls that read, or change one value ===== -/
theorem z_n10 : ¬ (nI 1 : Int32) = 0 := by decide
theorem z_n00 : (nI 0 : Int32) = 0 := by decide
theorem e_is {NC : Nat} {X M : x_M} {G H : z_G} {Cd Ch : Nat → Nat → List Int32} (R : z_R NC X M G H Cd Ch) (a1 a2 : Int32) : z_E NC (f_X11_is X a1 a2) (f_X12_is M a1 a2) := by
  obtain ⟨hcl, hrs, hwy⟩ := id R
  obtain ⟨hc, hi, ho, hf, ht⟩ := id hcl
  have hS := hi.1
  unfold z_IS at hS
  have hm := z_g2 hc
  unfold f_X11_is f_X12_is f_X11_is_17 f_X12_is_17 f_X11_isMember f_X12_isMember f_X4_isOf f_X4_isOf_26 f_X4_isOf_30 f_X12_is_51 f_X12_is_55
  simp (disch := omega) only [z_gf, z_rd, hm, z_in, z_wi, z_bn, z_czi, z_ite]
  by_cases h1 : a1 < nI 0 ∨ nI (G 2 3) - nI 1 < a1
  · simp only [if_pos h1]
    exact z_same R
  simp only [if_neg h1]
  by_cases h2 : a2 < nI 0 ∨ nI 3 < a2
  · simp only [if_pos h2]
    exact z_same R
  simp only [if_neg h2]
  obtain ⟨k, hk, rfl⟩ := z_natm h1 (by omega)
  have g := z_g3 hc hk
  simp (disch := omega) only [z_add, z_mul, z_rd, g]
  by_cases c1 : a2 = 0
  · simp only [if_pos c1, z_bn, if_neg z_n10]
    exact z_same R
  simp only [if_neg c1]
  by_cases c2 : nI (G 3 k) = a2
  · simp only [if_pos c2, z_bn, if_neg z_n10]
    exact z_same R
  simp only [if_neg c2]
  by_cases c3 : nI (G 3 k) = nI 3
  · simp only [if_pos c3]
    by_cases c4 : a2 = nI 2
    · simp only [if_pos c4, z_bn, if_neg z_n10]
      exact z_same R
    · simp only [if_neg c4, z_bn, if_pos z_n00]
      exact z_same R
  · simp only [if_neg c3, z_bn, if_pos z_n00]
    exact z_same R
theorem e_marks {NC : Nat} {X M : x_M} {G H : z_G} {Cd Ch : Nat → Nat → List Int32} (R : z_R NC X M G H Cd Ch) (a1 a2 : Int32) : z_E NC (f_X11_marks X a1 a2) (f_X12_marks M a1 a2) := by
  obtain ⟨hcl, hrs, hwy⟩ := id R
  obtain ⟨hc, hi, ho, hf, ht⟩ := id hcl
  have hS := hi.1
  unfold z_IS at hS
  have hm := z_g2 hc
  unfold f_X11_marks f_X12_marks f_X11_marks_19 f_X12_marks_19 f_X11_isMember f_X12_isMember
  simp (disch := omega) only [z_gf, z_rd, hm, z_in, z_wi, z_bn, z_czi, z_ite]
  by_cases h1 : a1 < nI 0 ∨ nI (G 2 3) - nI 1 < a1
  · simp only [if_pos h1]
    exact z_same R
  simp only [if_neg h1]
  by_cases h2 : a2 < nI 0 ∨ nI 4095 < a2
  · simp only [if_pos h2]
    exact z_same R
  simp only [if_neg h2]
  obtain ⟨k, hk, rfl⟩ := z_natm h1 (by omega)
  obtain ⟨v, -, hv, rfl⟩ := z_nat h2 (by decide) (by decide)
  have g := z_g4 hc hk
  simp (disch := omega) only [z_add, z_mul, z_rd, z_wr]
  rw [show 20 + 3 * k + 1 = 21 + 3 * k by omega, g.1, g.2]
  exact ⟨_, _, _, z_gu G 4 k v, H, Cd, Ch, rfl, rfl, z_up1 R 4 k v (by unfold z_ok z_okS; omega) (by omega) (z_I_mk hi (by omega)) rfl rfl rfl⟩
theorem e_days {NC : Nat} {X M : x_M} {G H : z_G} {Cd Ch : Nat → Nat → List Int32} (R : z_R NC X M G H Cd Ch) (a1 : Int32) : z_E NC (f_X11_days X a1) (f_X12_days M a1) := by
  obtain ⟨hcl, hrs, hwy⟩ := id R
  obtain ⟨hc, hi, ho, hf, ht⟩ := id hcl
  have hS := hi.1
  unfold z_IS at hS
  have hm := z_g1 hc
  unfold f_X11_days f_X12_days f_X11_days_25 f_X12_days_24
  simp (disch := omega) only [z_gf, z_rd, hm, z_in, z_wi, z_bn, z_czi, z_ite]
  by_cases h1 : a1 < nI 1 ∨ nI 100 < a1
  · simp only [if_pos h1]
    exact z_same R
  simp only [if_neg h1]
  obtain ⟨v, hv1, hv2, rfl⟩ := z_nat h1 (by decide) (by decide)
  simp (disch := omega) only [z_add, z_le]
  by_cases h2 : G 1 8 + v ≤ 1200
  · simp only [if_pos h2]
    simp (disch := omega) only [z_wr, z_pf, z_upr, z_rd, z_us]
    refine ⟨_, _, _, z_gu G 1 8 (G 1 8 + v), H, Cd, Ch, rfl, rfl, z_up1 R 1 8 _ (by unfold z_ok z_okS; omega) (by omega) ?_ rfl rfl rfl⟩
    have e : ∀ k' i', ¬ (k' = 1 ∧ i' = 8) → z_gu G 1 8 (G 1 8 + v) k' i' = G k' i' := fun k' i' h' => z_gun (by omega)
    obtain ⟨g1, g2, g3, g4, g5, g6, g7⟩ := hi
    unfold z_I z_IS z_IL z_IF z_IA z_IO z_IM
    unfold z_IL at g4
    unfold z_IM at g3
    unfold z_IF at g5
    unfold z_IA at g6
    unfold z_IO at g7
    simp (disch := omega) only [e, z_gus]
    refine ⟨by omega, g2, g3, fun j hj => ?_, g5, g6, g7⟩
    obtain ⟨q1, q2, q3, q4, q5, q6⟩ := g4 j hj
    exact ⟨q1, q2, q3, by omega, by omega, q6⟩
  · simp only [if_neg h2]
    exact z_same R
theorem e_rule {NC : Nat} {X M : x_M} {G H : z_G} {Cd Ch : Nat → Nat → List Int32} (R : z_R NC X M G H Cd Ch) (a1 a2 : Int32) : z_E NC (f_X11_rule X a1 a2) (f_X12_rule M a1 a2) := by
  obtain ⟨hcl, hrs, hwy⟩ := id R
  obtain ⟨hc, hi, ho, hf, ht⟩ := id hcl
  have hS := hi.1
  unfold z_IS at hS
  unfold f_X11_rule f_X12_rule f_X11_rule_26 f_X12_rule_20 f_X12_rule_33 f_X12_rule_39
  simp only [z_in, z_wi, z_bn, z_ite]
  by_cases h1 : a1 < nI 0 ∨ nI 2 < a1
  · simp only [if_pos h1]
    exact z_same R
  simp only [if_neg h1]
  obtain ⟨k, -, hk, rfl⟩ := z_nat h1 (by decide) (by decide)
  have key : ∀ (v : Nat), (k = 0 → v ≤ 360) → (k = 1 → 1 ≤ v ∧ v ≤ 999) → (k = 2 → v ≤ 999) → z_E NC (x_rd 3 (X 31) (nI k) (fun r37 => x_wr 3 X 31 (nI k) (nI v) (fun M => some (r37, M)))) (x_rd 5512 (M 1) ((nI 1) + (nI k)) (fun r49 => x_wr 5512 M 1 ((nI 1) + (nI k)) (nI v) (fun M => some (r49, M)))) := by
    intro v hv0 hv1 hv2
    have g := z_g31 hc (i := k) (by omega)
    simp (disch := omega) only [z_add, z_rd, z_wr, g]
    refine ⟨_, _, _, z_gu G 31 k v, H, Cd, Ch, rfl, rfl, z_up1 R 31 k v (by unfold z_ok z_okS; omega) (by omega) ?_ rfl rfl rfl⟩
    have e : ∀ k' i', k' ≠ 31 → z_gu G 31 k v k' i' = G k' i' := fun k' i' h' => z_gun (by omega)
    obtain ⟨g1, g2, g3, g4, g5, g6, g7⟩ := hi
    unfold z_I z_IS z_IL z_IF z_IA z_IO z_IM
    unfold z_IL at g4
    unfold z_IM at g3
    unfold z_IF at g5
    unfold z_IA at g6
    unfold z_IO at g7
    simp (disch := omega) only [e]
    refine ⟨?_, g2, g3, g4, g5, g6, g7⟩
    refine ⟨by omega, by omega, by omega, by omega, by omega, by omega, by omega, ?_, ?_, ?_, ?_⟩ <;> unfold z_gu <;> split <;> omega
  rcases (show k = 0 ∨ k = 1 ∨ k = 2 by omega) with rfl | rfl | rfl
  · simp (disch := omega) only [z_rd]
    rw [if_neg (show ¬ (nI 0 = nI 1) by decide), if_pos (show nI 0 = 0 by decide)]
    show z_E NC (if a2 < nI 0 ∨ nI 360 < a2 then _ else _) _
    by_cases h2 : a2 < nI 0 ∨ nI 360 < a2
    · simp only [if_pos h2]
      exact z_same R
    simp only [if_neg h2]
    obtain ⟨v, hv1, hv2, rfl⟩ := z_nat h2 (by decide) (by decide)
    have q := key v (by omega) (by omega) (by omega)
    simp (disch := omega) only [z_rd] at q
    exact q
  · simp (disch := omega) only [z_rd]
    rw [if_pos trivial, if_neg (show ¬ (nI 1 = 0) by decide)]
    show z_E NC (if a2 < nI 1 ∨ nI 999 < a2 then _ else _) _
    by_cases h2 : a2 < nI 1 ∨ nI 999 < a2
    · simp only [if_pos h2]
      exact z_same R
    simp only [if_neg h2]
    obtain ⟨v, hv1, hv2, rfl⟩ := z_nat h2 (by decide) (by decide)
    have q := key v (by omega) (by omega) (by omega)
    simp (disch := omega) only [z_rd] at q
    exact q
  · simp (disch := omega) only [z_rd]
    rw [if_neg (show ¬ (nI 2 = nI 1) by decide), if_neg (show ¬ (nI 2 = 0) by decide)]
    show z_E NC (if a2 < nI 0 ∨ nI 999 < a2 then _ else _) _
    by_cases h2 : a2 < nI 0 ∨ nI 999 < a2
    · simp only [if_pos h2]
      exact z_same R
    simp only [if_neg h2]
    obtain ⟨v, hv1, hv2, rfl⟩ := z_nat h2 (by decide) (by decide)
    have q := key v (by omega) (by omega) (by omega)
    simp (disch := omega) only [z_rd] at q
    exact q
theorem z_eO_m1 {v : Nat} (h : v < 1000000) : (z_eO v = -1) = (v = 0) := by
  unfold z_eO
  by_cases h0 : v = 0
  · simp [h0]
  · rw [if_neg h0, z_nm1 (by omega)]
    simp [h0]
theorem z_eN_n5 {v : Nat} (h : v < 1000000) : (z_eN v = -1000000005) = (v = 0) := by
  unfold z_eN
  by_cases h0 : v = 0
  · simp [h0]
  · rw [if_neg h0, z_nn5 (by omega)]
    simp [h0]
theorem e_withdraw {NC : Nat} {X M : x_M} {G H : z_G} {Cd Ch : Nat → Nat → List Int32} (R : z_R NC X M G H Cd Ch) (a1 : Int32) : z_E NC (f_X11_withdraw X a1) (f_X12_withdraw M a1) := by
  obtain ⟨hcl, hrs, hwy⟩ := id R
  obtain ⟨hc, hi, ho, hf, ht⟩ := id hcl
  have hS := hi.1
  unfold z_IS at hS
  have hm := z_g6 hc
  have hT := z_g1 hc
  unfold f_X11_withdraw f_X12_withdraw f_X11_isLine f_X12_isLine
  simp (disch := omega) only [z_gf, z_rd, hm, z_in, z_wi, z_bn, z_czi, z_ite]
  by_cases h1 : a1 < nI 0 ∨ nI (G 6 9) - nI 1 < a1
  · simp only [if_pos h1]
    exact z_same R
  simp only [if_neg h1]
  obtain ⟨k, hk, rfl⟩ := z_natm h1 (by omega)
  have g := z_g11 hc hk
  have hl := hi.2.2.2.1 k hk
  have hl5 : G 11 k ≤ G 1 8 + 1 := hl.2.2.2.2.1
  simp (disch := omega) only [z_add, z_mul, z_rd, z_wr]
  rw [show 50 + 10 * k + 4 = 54 + 10 * k by omega, g.1, g.2]
  simp (disch := omega) only [z_eO_m1, z_eN_n5]
  by_cases h2 : G 11 k = 0
  · simp only [if_pos h2, hT]
    refine ⟨_, _, _, z_gu G 11 k (G 1 8 + 1), H, Cd, Ch, rfl, rfl, z_up1 R 11 k _ (by unfold z_ok z_okS; omega) (by omega) ?_ rfl rfl rfl⟩
    have e : ∀ k' i', k' ≠ 11 → z_gu G 11 k (G 1 8 + 1) k' i' = G k' i' := fun k' i' h' => z_gun (by omega)
    obtain ⟨g1, g2, g3, g4, g5, g6, g7⟩ := hi
    unfold z_I z_IS z_IL z_IF z_IA z_IO z_IM
    unfold z_IL at g4
    unfold z_IM at g3
    unfold z_IF at g5
    unfold z_IA at g6
    unfold z_IO at g7
    simp (disch := omega) only [e]
    refine ⟨by omega, g2, g3, fun j hj => ?_, g5, g6, g7⟩
    obtain ⟨q1, q2, q3, q4, q5, q6⟩ := g4 j hj
    refine ⟨q1, q2, q3, q4, ?_, q6⟩
    unfold z_gu
    split <;> omega
  · simp only [if_neg h2]
    exact z_same R
theorem e_line {NC : Nat} {X M : x_M} {G H : z_G} {Cd Ch : Nat → Nat → List Int32} (R : z_R NC X M G H Cd Ch) (a1 a2 : Int32) : z_E NC (f_X11_line X a1 a2) (f_X12_line M a1 a2) := by
  obtain ⟨hcl, hrs, hwy⟩ := id R
  obtain ⟨hc, hi, ho, hf, ht⟩ := id hcl
  have hS := hi.1
  unfold z_IS at hS
  have hm := z_g6 hc
  unfold f_X11_line f_X12_line f_X11_isLine f_X12_isLine f_X12_line_18
  simp (disch := omega) only [z_gf, z_rd, hm, z_in, z_wi, z_bn, z_czi, z_ite]
  by_cases h1 : a1 < nI 0 ∨ nI (G 6 9) - nI 1 < a1
  · simp only [if_pos h1]
    exact z_same R
  simp only [if_neg h1]
  obtain ⟨k, hk, rfl⟩ := z_natm h1 (by omega)
  have hl := hi.2.2.2.1 k hk
  have hl5 : G 11 k ≤ G 1 8 + 1 := hl.2.2.2.2.1
  by_cases h2 : a2 < nI 0 ∨ nI 6 < a2
  · simp only [if_pos h2]
    have hne : ∀ j, j ≤ 6 → ¬ a2 = nI j := by
      intro j hj e
      subst e
      rw [z_lt (by omega) (by omega), z_lt (by omega) (by omega)] at h2
      omega
    simp only [if_neg (hne 0 (by omega)), if_neg (hne 1 (by omega)), if_neg (hne 2 (by omega)), if_neg (hne 3 (by omega)), if_neg (hne 4 (by omega)), if_neg (hne 5 (by omega)), if_neg (hne 6 (by omega))]
    exact z_same R
  simp only [if_neg h2]
  obtain ⟨v, -, hv, rfl⟩ := z_nat h2 (by decide) (by decide)
  simp (disch := omega) only [z_add, z_mul, z_rd, z_eq]
  rcases (show v = 0 ∨ v = 1 ∨ v = 2 ∨ v = 3 ∨ v = 4 ∨ v = 5 ∨ v = 6 by omega) with rfl | rfl | rfl | rfl | rfl | rfl | rfl
  · rw [if_pos rfl, if_neg (by decide), show 50 + 10 * k + 0 = 50 + 10 * k by omega, (z_g7 hc hk).1, (z_g7 hc hk).2]
    exact z_same R
  · rw [if_neg (by decide), if_pos rfl, if_neg (by decide), show 50 + 10 * k + 1 = 51 + 10 * k by omega, (z_g8 hc hk).1, (z_g8 hc hk).2]
    exact z_same R
  · rw [if_neg (by decide), if_neg (by decide), if_pos rfl, if_neg (by decide), show 50 + 10 * k + 2 = 52 + 10 * k by omega, (z_g9 hc hk).1, (z_g9 hc hk).2]
    exact z_same R
  · rw [if_neg (by decide), if_neg (by decide), if_neg (by decide), if_pos rfl, if_neg (by decide), show 50 + 10 * k + 3 = 53 + 10 * k by omega, (z_g10 hc hk).1, (z_g10 hc hk).2]
    exact z_same R
  · rw [if_neg (by decide), if_neg (by decide), if_neg (by decide), if_neg (by decide), if_pos rfl, if_pos rfl, show 50 + 10 * k + 4 = 54 + 10 * k by omega, (z_g11 hc hk).1, (z_g11 hc hk).2, z_orN (by omega), z_bn]
    exact z_same R
  · rw [if_neg (by decide), if_neg (by decide), if_neg (by decide), if_neg (by decide), if_neg (by decide), if_pos rfl, if_neg (by decide), show 50 + 10 * k + 5 = 55 + 10 * k by omega, (z_g12 hc hk).1, (z_g12 hc hk).2]
    exact z_same R
  · rw [if_neg (by decide), if_neg (by decide), if_neg (by decide), if_neg (by decide), if_neg (by decide), if_neg (by decide), if_pos rfl, if_neg (by decide), show 50 + 10 * k + 6 = 56 + 10 * k by omega, (z_g13 hc hk).1, (z_g13 hc hk).2]
    exact z_same R
theorem e_rate {NC : Nat} {X M : x_M} {G H : z_G} {Cd Ch : Nat → Nat → List Int32} (R : z_R NC X M G H Cd Ch) (a1 a2 a3 : Int32) : z_E NC (f_X11_rate X a1 a2 a3) (f_X12_rate M a1 a2 a3) := by
  obtain ⟨hcl, hrs, hwy⟩ := id R
  obtain ⟨hc, hi, ho, hf, ht⟩ := id hcl
  have hS := hi.1
  unfold z_IS at hS
  unfold f_X11_rate f_X12_rate f_X11_rate_29 f_X12_rate_29
  simp only [z_in, z_wi, z_bn, z_ite]
  by_cases h1 : a1 < nI 1 ∨ nI 3 < a1
  · simp only [if_pos h1]
    exact z_same R
  simp only [if_neg h1]
  by_cases h2 : a2 < nI 0 ∨ nI 1 < a2
  · simp only [if_pos h2]
    exact z_same R
  simp only [if_neg h2]
  by_cases h3 : a3 < nI 0 ∨ nI 999 < a3
  · simp only [if_pos h3]
    exact z_same R
  simp only [if_neg h3]
  obtain ⟨k, hk1, hk, rfl⟩ := z_nat h1 (by decide) (by decide)
  obtain ⟨w, -, hw, rfl⟩ := z_nat h2 (by decide) (by decide)
  obtain ⟨v, -, hv, rfl⟩ := z_nat h3 (by decide) (by decide)
  have hI : ∀ q, q = 32 ∨ q = 33 → z_I (z_gu G q k v) := by
    intro q hq
    have e : ∀ k' i', ¬ (k' = 32 ∨ k' = 33) → z_gu G q k v k' i' = G k' i' := fun k' i' h' => z_gun (by omega)
    obtain ⟨g1, g2, g3, g4, g5, g6, g7⟩ := hi
    unfold z_I z_IS z_IL z_IF z_IA z_IO z_IM
    unfold z_IL at g4
    unfold z_IM at g3
    unfold z_IF at g5
    unfold z_IA at g6
    unfold z_IO at g7
    simp (disch := omega) only [e]
    refine ⟨by omega, fun i h1 h2 => ?_, g3, g4, g5, g6, g7⟩
    have := g2 i h1 h2
    unfold z_gu
    refine ⟨?_, ?_⟩ <;> split <;> omega
  have g := z_g32 hc (i := k) (by omega)
  have g' := z_g33 hc (i := k) (by omega)
  rcases (show w = 0 ∨ w = 1 by omega) with rfl | rfl
  · rw [if_pos (show nI 0 = 0 by decide)]
    simp (disch := omega) only [z_add, z_mul, z_sub, z_rd, z_wr]
    rw [show 10 + 2 * k - 2 + 0 = 8 + 2 * k by omega, g.1, g.2]
    exact ⟨_, _, _, z_gu G 32 k v, H, Cd, Ch, rfl, rfl, z_up1 R 32 k v (by unfold z_ok z_okS; omega) (by omega) (hI 32 (by omega)) rfl rfl rfl⟩
  · rw [if_neg (show ¬ (nI 1 = 0) by decide)]
    simp (disch := omega) only [z_add, z_mul, z_sub, z_rd, z_wr]
    rw [show 10 + 2 * k - 2 + 1 = 9 + 2 * k by omega, g'.1, g'.2]
    exact ⟨_, _, _, z_gu G 33 k v, H, Cd, Ch, rfl, rfl, z_up1 R 33 k v (by unfold z_ok z_okS; omega) (by omega) (hI 33 (by omega)) rfl rfl rfl⟩
theorem e_open {NC : Nat} {X M : x_M} {G H : z_G} {Cd Ch : Nat → Nat → List Int32} (R : z_R NC X M G H Cd Ch) (a1 : Int32) : z_E NC (f_X11_open X a1) (f_X12_open M a1) := by
  obtain ⟨hcl, hrs, hwy⟩ := id R
  obtain ⟨hc, hi, ho, hf, ht⟩ := id hcl
  have hS := hi.1
  unfold z_IS at hS
  have hm := z_g18a hc
  unfold f_X11_open f_X12_open f_X11_isFlight f_X12_isFlight
  simp (disch := omega) only [z_gf, z_rd, hm, z_in, z_wi, z_bn, z_czi, z_ite]
  by_cases h1 : a1 < nI 0 ∨ nI (G 18 8) - nI 1 < a1
  · simp only [if_pos h1]
    exact z_same R
  simp only [if_neg h1]
  obtain ⟨k, hk, rfl⟩ := z_natm h1 (by omega)
  simp (disch := omega) only [z_add, z_mul, z_rd]
  rw [show 5298 + 5 * k + 4 = 5302 + 5 * k by omega, (z_g22 hc hk).1, (z_g22 hc hk).2]
  exact z_same R
theorem e_asked {NC : Nat} {X M : x_M} {G H : z_G} {Cd Ch : Nat → Nat → List Int32} (R : z_R NC X M G H Cd Ch) (a1 a2 : Int32) : z_E NC (f_X11_asked X a1 a2) (f_X12_asked M a1 a2) := by
  obtain ⟨hcl, hrs, hwy⟩ := id R
  obtain ⟨hc, hi, ho, hf, ht⟩ := id hcl
  have hS := hi.1
  unfold z_IS at hS
  have hm := z_g18b hc
  unfold f_X11_asked f_X12_asked f_X12_asked_26
  simp (disch := omega) only [z_gf, z_rd, hm, z_in, z_wi, z_bn, z_czi, z_ite]
  by_cases h1 : a1 < nI 0 ∨ nI (G 18 9) - nI 1 < a1
  · simp only [if_pos h1]
    exact z_same R
  simp only [if_neg h1]
  obtain ⟨k, hk, rfl⟩ := z_natm h1 (by omega)
  have hl : G 23 k < G 2 3 ∧ G 24 k < G 18 8 ∧ G 25 k ≤ 3 ∧ G 26 k ≤ 100000 := hi.2.2.2.2.2.1 k hk
  by_cases h2 : a2 < nI 0 ∨ nI 4 < a2
  · simp only [if_pos h2]
    have hne : ∀ j, j ≤ 4 → ¬ a2 = nI j := by
      intro j hj e
      subst e
      rw [z_lt (by omega) (by omega), z_lt (by omega) (by omega)] at h2
      omega
    simp only [if_neg (hne 0 (by omega)), if_neg (hne 1 (by omega)), if_neg (hne 2 (by omega)), if_neg (hne 3 (by omega)), if_neg (hne 4 (by omega))]
    exact z_same R
  simp only [if_neg h2]
  obtain ⟨v, -, hv, rfl⟩ := z_nat h2 (by decide) (by decide)
  simp (disch := omega) only [z_add, z_mul, z_rd, z_eq]
  have orn : ∀ n, n < 2147483648 → f_X12_orNone M (nI n) = some (nI n, M) := by
    intro n hn
    unfold f_X12_orNone
    simp (disch := omega) only [z_nm1, if_false]
  rcases (show v = 0 ∨ v = 1 ∨ v = 2 ∨ v = 3 ∨ v = 4 by omega) with rfl | rfl | rfl | rfl | rfl
  · rw [if_pos rfl, show 5338 + 5 * k + 0 = 5338 + 5 * k by omega, (z_g23 hc hk).1, (z_g23 hc hk).2, orn _ (by omega), z_bn]
    exact z_same R
  · rw [if_neg (by decide), if_pos rfl, show 5338 + 5 * k + 1 = 5339 + 5 * k by omega, (z_g24 hc hk).1, (z_g24 hc hk).2, orn _ (by omega), z_bn]
    exact z_same R
  · rw [if_neg (by decide), if_neg (by decide), if_pos rfl, show 5338 + 5 * k + 2 = 5340 + 5 * k by omega, (z_g25 hc hk).1, (z_g25 hc hk).2, orn _ (by omega), z_bn]
    exact z_same R
  · rw [if_neg (by decide), if_neg (by decide), if_neg (by decide), if_pos rfl, show 5338 + 5 * k + 3 = 5341 + 5 * k by omega, (z_g26 hc hk).1, hf k hk, orn _ (by split <;> omega), z_bn]
    simp (disch := omega) only [z_eN_n5]
    by_cases h5 : G 26 k = 0
    · simp only [if_pos h5]
      exact z_same R
    · simp only [if_neg h5]
      exact z_same R
  · rw [if_neg (by decide), if_neg (by decide), if_neg (by decide), if_neg (by decide), if_pos rfl, show 5338 + 5 * k + 4 = 5342 + 5 * k by omega, (z_g26 hc hk).1, (z_g26 hc hk).2, z_orN (by omega), z_bn]
    exact z_same R
