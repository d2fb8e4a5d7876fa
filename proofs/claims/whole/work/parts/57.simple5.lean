theorem z_bF {k i : Nat} (h1 : 19 ≤ k) (h2 : k ≤ 22) (h3 : i < 8) : z_bd k i := Or.inr (Or.inr (Or.inr (Or.inr (Or.inr (Or.inr (Or.inr (Or.inl ⟨h1, h2, h3⟩)))))))
theorem z_bA {k i : Nat} (h1 : 23 ≤ k) (h2 : k ≤ 26) (h3 : i < 30) : z_bd k i := Or.inr (Or.inr (Or.inr (Or.inr (Or.inr (Or.inr (Or.inr (Or.inr (Or.inl ⟨h1, h2, h3⟩))))))))
theorem z_bO {k i : Nat} (h1 : 28 ≤ k) (h2 : k ≤ 30) (h3 : i < 8) : z_bd k i := Or.inr (Or.inr (Or.inr (Or.inr (Or.inr (Or.inr (Or.inr (Or.inr (Or.inr (Or.inr (Or.inl ⟨h1, h2, h3⟩))))))))))
theorem z_ot {NC : Nat} {X X' : x_M} {s s' : Nat → Int32} {G G' : z_G} {Cd : Nat → Nat → List Int32} (h : z_cl NC X 0 s G Cd) (hX : ∀ k, k = 15 ∨ k = 17 ∨ 88 ≤ k → X' k = X k) (hs : ∀ p, (1050 ≤ p ∧ p < 5298) → s' p = s p) (hG : ∀ k i, (k = 6 ∧ i = 9) ∨ k = 9 ∨ k = 16 ∨ k = 34 → G' k i = G k i) : z_or X' 0 G' ∧ z_ter NC X' 0 s' G' Cd := by
  obtain ⟨h1, h2, h3, h4, h5⟩ := h
  refine ⟨fun i hi => ?_, z_ter_fr h5 (fun k hk => hX k (by omega)) (fun p h1 h2 => hs p ⟨h1, h2⟩) (hG 16 2 (by omega)) (fun i => hG 34 i (by omega)) h2.1.2.2.2.1 (z_ter_len h5)⟩
  rw [hG 6 9 (by omega)] at hi ⊢
  have e : G' 9 = G 9 := by
    funext j
    exact hG 9 j (by omega)
  rw [e, hX 15 (by omega)]
  exact h3 i hi
set_option maxHeartbeats 4000000 in
theorem e_flight {NC : Nat} {X M : x_M} {G H : z_G} {Cd Ch : Nat → Nat → List Int32} (R : z_R NC X M G H Cd Ch) (a1 a2 a3 a4 : Int32) : z_E NC (f_X11_flight X a1 a2 a3 a4) (f_X12_flight M a1 a2 a3 a4) := by
  obtain ⟨hcl, hrs, hwy⟩ := id R
  obtain ⟨hc, hi, ho, hf, ht⟩ := id hcl
  have hS := hi.1
  unfold z_IS at hS
  have hm := z_g18a hc
  have hT := z_g1 hc
  unfold f_X11_flight f_X12_flight f_X11_flight_30 f_X11_flight_51 f_X12_flight_49 f_X6_newFlight f_X11_isPartner
  simp (disch := omega) only [z_gf, z_rd, hT, z_in, z_wi, z_bn, z_ite, z_bnid, z_czi, z_add]
  by_cases h1 : a1 < nI (G 1 8 + 1) ∨ nI 1200 < a1
  · simp only [if_pos h1]
    exact z_same R
  simp only [if_neg h1]
  by_cases h2 : a2 < nI 1 ∨ nI 9999 < a2
  · simp only [if_pos h2]
    exact z_same R
  simp only [if_neg h2]
  by_cases h3 : a3 < nI 0 ∨ nI 3 < a3
  · simp only [if_pos h3]
    exact z_same R
  simp only [if_neg h3]
  by_cases h4 : a4 < nI 0 ∨ nI 9 < a4
  · simp only [if_pos h4]
    exact z_same R
  simp only [if_neg h4]
  obtain ⟨v1, j1, k1, rfl⟩ := z_nat h1 (by omega) (by decide)
  obtain ⟨v2, j2, k2, rfl⟩ := z_nat h2 (by decide) (by decide)
  obtain ⟨v3, -, k3, rfl⟩ := z_nat h3 (by decide) (by decide)
  obtain ⟨v4, -, k4, rfl⟩ := z_nat h4 (by decide) (by decide)
  clear h1 h2 h3 h4
  generalize hmm : G 18 8 = m at *
  simp (disch := omega) only [z_gf, z_rd, hm, z_lt, z_eq]
  by_cases h5 : m = 8
  · rw [if_neg (by omega), if_pos h5]
    exact z_same R
  rw [if_pos (by omega), if_neg h5]
  simp (disch := omega) only [z_add, z_mul, z_wr, z_upn, hm, z_pf, z_upr, z_us, z_un, z_rd, z_sub]
  have hG : ∀ k i, ¬ (k = 18 ∧ i = 8) → ¬ (19 ≤ k ∧ k ≤ 22 ∧ i = m) → z_gu (z_gu (z_gu (z_gu (z_gu G 19 m v1) 20 m v2) 21 m v3) 22 m v4) 18 8 (m + 1) k i = G k i := by
    intro k i q1 q2
    rw [z_gun (by omega), z_gun (by omega), z_gun (by omega), z_gun (by omega), z_gun (by omega)]
  have n0 : z_gu (z_gu (z_gu (z_gu (z_gu G 19 m v1) 20 m v2) 21 m v3) 22 m v4) 18 8 (m + 1) 18 8 = m + 1 := z_gus
  have n19 : z_gu (z_gu (z_gu (z_gu (z_gu G 19 m v1) 20 m v2) 21 m v3) 22 m v4) 18 8 (m + 1) 19 m = v1 := by rw [z_gun (by omega), z_gun (by omega), z_gun (by omega), z_gun (by omega), z_gus]
  have n20 : z_gu (z_gu (z_gu (z_gu (z_gu G 19 m v1) 20 m v2) 21 m v3) 22 m v4) 18 8 (m + 1) 20 m = v2 := by rw [z_gun (by omega), z_gun (by omega), z_gun (by omega), z_gus]
  have n21 : z_gu (z_gu (z_gu (z_gu (z_gu G 19 m v1) 20 m v2) 21 m v3) 22 m v4) 18 8 (m + 1) 21 m = v3 := by rw [z_gun (by omega), z_gun (by omega), z_gus]
  have n22 : z_gu (z_gu (z_gu (z_gu (z_gu G 19 m v1) 20 m v2) 21 m v3) 22 m v4) 18 8 (m + 1) 22 m = v4 := by rw [z_gun (by omega), z_gus]
  have hc0 := hc
  have c0 := z_cr_up hc0 19 m v1 (r := 19) (x := (nI v1)) (p := 5298 + 5 * m) (y := (nI v1)) (z_bF (by decide) (by decide) (by omega)) rfl rfl (by first | rfl | (simp only [z_pos]; omega)) rfl
  have c1 := z_cr_up c0 20 m v2 (r := 20) (x := (nI v2)) (p := 5298 + 5 * m + 1) (y := (nI v2)) (z_bF (by decide) (by decide) (by omega)) rfl rfl (by first | rfl | (simp only [z_pos]; omega)) rfl
  have c2 := z_cr_up c1 21 m v3 (r := 21) (x := (nI v3)) (p := 5298 + 5 * m + 2) (y := (nI v3)) (z_bF (by decide) (by decide) (by omega)) rfl rfl (by first | rfl | (simp only [z_pos]; omega)) rfl
  have c2 := z_cr_jk c2 (p := 5298 + 5 * m + 3) (y := (nI v4)) (fun k i hb => by have j1 := (z_junk hb).1 m; have j2 := (z_junk hb).2 m; clear hG; omega)
  have c3 := z_cr_up c2 22 m v4 (r := 22) (x := (nI v4)) (p := 5298 + 5 * m + 4) (y := (nI v4)) (z_bF (by decide) (by decide) (by omega)) rfl rfl (by first | rfl | (simp only [z_pos]; omega)) rfl
  have cf := z_cr_up c3 18 8 (m + 1) (r := 18) (x := nI (m + 1)) (p := 7) (y := nI (m + 1)) (by unfold z_bd z_okS; decide) rfl rfl rfl rfl
  have oft := z_oft hcl (X' := x_up (x_up (x_up (x_up (x_up X 19 m (nI v1)) 20 m (nI v2)) 21 m (nI v3)) 22 m (nI v4)) 18 8 (nI (m + 1))) (s' := upd (upd (upd (upd (upd (upd (M 1) (5298 + 5 * m) (nI v1)) (5298 + 5 * m + 1) (nI v2)) (5298 + 5 * m + 2) (nI v3)) (5298 + 5 * m + 3) (nI v4)) (5298 + 5 * m + 4) (nI v4)) (7) (nI (m + 1))) (G' := z_gu (z_gu (z_gu (z_gu (z_gu G 19 m v1) 20 m v2) 21 m v3) 22 m v4) 18 8 (m + 1)) (fun k hk => by simp (disch := omega) only [z_upn]) (fun p hp => by simp (disch := omega) only [z_un]) (fun k i hk => hG k i (by omega) (by omega))
  refine ⟨_, _, _, z_gu (z_gu (z_gu (z_gu (z_gu G 19 m v1) 20 m v2) 21 m v3) 22 m v4) 18 8 (m + 1), H, Cd, Ch, rfl, rfl, ⟨?_, ?_, ?_⟩, ?_, ?_⟩
  · simp only [z_upr]
    refine z_cr_sub cf (fun k i hki => ?_)
    unfold z_ok at hki
    rw [n0, hG 2 3 (by omega) (by omega), hG 6 9 (by omega) (by omega), hG 18 9 (by omega) (by omega), hG 27 3 (by omega) (by omega)] at hki
    rcases z_okS_g (F := m) hki (Nat.le_refl _) (by omega) (Nat.le_refl _) (Nat.le_refl _) with h | h | h | h | h
    · left; left; left; left; left
      unfold z_ok
      rw [hmm]
      exact h
    · omega
    · have e : i = m := by omega
      subst e
      rcases (show k = 19 ∨ k = 20 ∨ k = 21 ∨ k = 22 by omega) with rfl | rfl | rfl | rfl <;> simp
    · omega
    · omega
  · obtain ⟨g1, g2, g3, g4, g5, g6, g7⟩ := hi
    unfold z_I z_IS z_IM z_IL z_IO
    unfold z_IM at g3
    unfold z_IL at g4
    unfold z_IO at g7
    simp (disch := omega) only [hG, n0]
    refine ⟨by omega, g2, g3, g4, fun j hj => ?_, fun j hj => ?_, g7⟩
    · unfold z_IF
      by_cases e : j = m
      · subst e
        rw [n19, n20, n21, n22]
        omega
      · have q := g5 j (by omega)
        unfold z_IF at q
        simp (disch := omega) only [hG]
        exact q
    · have q := g6 j hj
      unfold z_IA at q ⊢
      simp (disch := omega) only [hG, n0]
      rw [hmm] at q
      omega
  · simp only [z_upr]
    exact oft
  · exact z_rs_fr hrs (fun k hk => by simp (disch := omega) only [z_upn]) (fun k hk => by simp (disch := omega) only [z_upn])
  · exact z_wy_fr hwy (by simp (disch := omega) only [z_upn]) (by simp (disch := omega) only [z_upn]) (hG 27 3 (by omega) (by omega)) (fun i => ⟨hG 28 i (by omega) (by omega), hG 29 i (by omega) (by omega), hG 30 i (by omega) (by omega)⟩)
set_option maxHeartbeats 4000000 in
theorem e_ask {NC : Nat} {X M : x_M} {G H : z_G} {Cd Ch : Nat → Nat → List Int32} (R : z_R NC X M G H Cd Ch) (a1 a2 a3 : Int32) : z_E NC (f_X11_ask X a1 a2 a3) (f_X12_ask M a1 a2 a3) := by
  obtain ⟨hcl, hrs, hwy⟩ := id R
  obtain ⟨hc, hi, ho, hf, ht⟩ := id hcl
  have hS := hi.1
  unfold z_IS at hS
  have hm := z_g18b hc
  have hT := z_g1 hc
  have hme := z_g2 hc
  have hF := z_g18a hc
  unfold f_X11_ask f_X12_ask f_X11_ask_25 f_X12_ask_25 f_X6_newAsk f_X11_isMember f_X12_isMember f_X11_isFlight f_X12_isFlight
  simp (disch := omega) only [z_gf, z_rd, hT, hme, hF, z_in, z_wi, z_bn, z_ite, z_bnid, z_czi]
  by_cases h1 : a1 < nI 0 ∨ nI (G 2 3) - nI 1 < a1
  · simp only [if_pos h1]
    exact z_same R
  simp only [if_neg h1]
  by_cases h2 : a2 < nI 0 ∨ nI (G 18 8) - nI 1 < a2
  · simp only [if_pos h2]
    exact z_same R
  simp only [if_neg h2]
  by_cases h3 : a3 < nI 0 ∨ nI 3 < a3
  · simp only [if_pos h3]
    exact z_same R
  simp only [if_neg h3]
  obtain ⟨v1, k1, rfl⟩ := z_natm h1 (by omega)
  obtain ⟨v2, k2, rfl⟩ := z_natm h2 (by omega)
  obtain ⟨v3, -, k3, rfl⟩ := z_nat h3 (by decide) (by decide)
  have hd := z_g19 hc k2
  have hfl := hi.2.2.2.2.1 v2 k2
  unfold z_IF at hfl
  clear h1 h2 h3
  generalize hmm : G 18 9 = m at *
  simp (disch := omega) only [z_add, z_mul, z_gf, z_rd, hm, hd, hT, z_lt, z_eq]
  by_cases h4 : G 1 8 < G 19 v2
  · rw [if_pos h4, if_pos h4]
    by_cases h5 : m = 30
    · rw [if_neg (by omega), if_pos h5]
      exact z_same R
    rw [if_pos (by omega), if_neg h5]
    simp (disch := omega) only [z_add, z_mul, z_wr, z_upn, hm, z_pf, z_upr, z_us, z_un, z_rd, z_sub]
    have hG : ∀ k i, ¬ (k = 18 ∧ i = 9) → ¬ (23 ≤ k ∧ k ≤ 26 ∧ i = m) → z_gu (z_gu (z_gu (z_gu (z_gu G 23 m v1) 24 m v2) 25 m v3) 26 m 0) 18 9 (m + 1) k i = G k i := by
      intro k i q1 q2
      rw [z_gun (by omega), z_gun (by omega), z_gun (by omega), z_gun (by omega), z_gun (by omega)]
    have n0 : z_gu (z_gu (z_gu (z_gu (z_gu G 23 m v1) 24 m v2) 25 m v3) 26 m 0) 18 9 (m + 1) 18 9 = m + 1 := z_gus
    have n23 : z_gu (z_gu (z_gu (z_gu (z_gu G 23 m v1) 24 m v2) 25 m v3) 26 m 0) 18 9 (m + 1) 23 m = v1 := by rw [z_gun (by omega), z_gun (by omega), z_gun (by omega), z_gun (by omega), z_gus]
    have n24 : z_gu (z_gu (z_gu (z_gu (z_gu G 23 m v1) 24 m v2) 25 m v3) 26 m 0) 18 9 (m + 1) 24 m = v2 := by rw [z_gun (by omega), z_gun (by omega), z_gun (by omega), z_gus]
    have n25 : z_gu (z_gu (z_gu (z_gu (z_gu G 23 m v1) 24 m v2) 25 m v3) 26 m 0) 18 9 (m + 1) 25 m = v3 := by rw [z_gun (by omega), z_gun (by omega), z_gus]
    have n26 : z_gu (z_gu (z_gu (z_gu (z_gu G 23 m v1) 24 m v2) 25 m v3) 26 m 0) 18 9 (m + 1) 26 m = 0 := by rw [z_gun (by omega), z_gus]
    have hc0 := hc
    have c0 := z_cr_up hc0 23 m v1 (r := 23) (x := (nI v1)) (p := 5338 + 5 * m) (y := (nI v1)) (z_bA (by decide) (by decide) (by omega)) rfl rfl (by first | rfl | (simp only [z_pos]; omega)) rfl
    have c1 := z_cr_up c0 24 m v2 (r := 24) (x := (nI v2)) (p := 5338 + 5 * m + 1) (y := (nI v2)) (z_bA (by decide) (by decide) (by omega)) rfl rfl (by first | rfl | (simp only [z_pos]; omega)) rfl
    have c2 := z_cr_up c1 25 m v3 (r := 25) (x := (nI v3)) (p := 5338 + 5 * m + 2) (y := (nI v3)) (z_bA (by decide) (by decide) (by omega)) rfl rfl (by first | rfl | (simp only [z_pos]; omega)) rfl
    have c2 := z_cr_jk c2 (p := 5338 + 5 * m + 3) (y := (nI 0)) (fun k i hb => by have j1 := (z_junk hb).1 m; have j2 := (z_junk hb).2 m; clear hG; omega)
    have c3 := z_cr_up c2 26 m 0 (r := 26) (x := (-1000000005)) (p := 5338 + 5 * m + 4) (y := (-1)) (z_bA (by decide) (by decide) (by omega)) rfl rfl (by first | rfl | (simp only [z_pos]; omega)) rfl
    have cf := z_cr_up c3 18 9 (m + 1) (r := 18) (x := nI (m + 1)) (p := 8) (y := nI (m + 1)) (by unfold z_bd z_okS; decide) rfl rfl rfl rfl
    have oft := z_ot hcl (X' := x_up (x_up (x_up (x_up (x_up X 23 m (nI v1)) 24 m (nI v2)) 25 m (nI v3)) 26 m (-1000000005)) 18 9 (nI (m + 1))) (s' := upd (upd (upd (upd (upd (upd (M 1) (5338 + 5 * m) (nI v1)) (5338 + 5 * m + 1) (nI v2)) (5338 + 5 * m + 2) (nI v3)) (5338 + 5 * m + 3) (nI 0)) (5338 + 5 * m + 4) (-1)) (8) (nI (m + 1))) (G' := z_gu (z_gu (z_gu (z_gu (z_gu G 23 m v1) 24 m v2) 25 m v3) 26 m 0) 18 9 (m + 1)) (fun k hk => by simp (disch := omega) only [z_upn]) (fun p hp => by simp (disch := omega) only [z_un]) (fun k i hk => hG k i (by omega) (by omega))
    refine ⟨_, _, _, z_gu (z_gu (z_gu (z_gu (z_gu G 23 m v1) 24 m v2) 25 m v3) 26 m 0) 18 9 (m + 1), H, Cd, Ch, rfl, rfl, ⟨?_, ?_, ?_, ?_, ?_⟩, ?_, ?_⟩
    · simp only [z_upr]
      refine z_cr_sub cf (fun k i hki => ?_)
      unfold z_ok at hki
      rw [n0, hG 2 3 (by omega) (by omega), hG 6 9 (by omega) (by omega), hG 18 8 (by omega) (by omega), hG 27 3 (by omega) (by omega)] at hki
      rcases z_okS_g (A := m) hki (Nat.le_refl _) (Nat.le_refl _) (by omega) (Nat.le_refl _) with h | h | h | h | h
      · left; left; left; left; left
        unfold z_ok
        rw [hmm]
        exact h
      · omega
      · omega
      · have e : i = m := by omega
        subst e
        rcases (show k = 23 ∨ k = 24 ∨ k = 25 ∨ k = 26 by omega) with rfl | rfl | rfl | rfl <;> simp
      · omega
    · obtain ⟨g1, g2, g3, g4, g5, g6, g7⟩ := hi
      unfold z_I z_IS z_IM z_IL z_IF z_IO
      unfold z_IM at g3
      unfold z_IL at g4
      unfold z_IF at g5
      unfold z_IO at g7
      simp (disch := omega) only [hG, n0]
      refine ⟨by omega, g2, g3, g4, g5, fun j hj => ?_, g7⟩
      unfold z_IA
      by_cases e : j = m
      · subst e
        rw [n23, n24, n25, n26, hG 2 3 (by omega) (by omega), hG 18 8 (by omega) (by omega)]
        omega
      · have q := g6 j (by omega)
        unfold z_IA at q
        simp (disch := omega) only [hG]
        exact q
    · exact oft.1
    · intro i hi'
      rw [n0] at hi'
      simp only [z_upr]
      by_cases e : i = m
      · subst e
        rw [n26]
        simp (disch := omega) only [z_un]
        rw [show 5341 + 5 * i = 5338 + 5 * i + 3 by omega, z_us]
        rfl
      · rw [hG 26 i (by omega) (by omega)]
        simp (disch := omega) only [z_un]
        exact hf i (by omega)
    · simp only [z_upr]
      exact oft.2
    · exact z_rs_fr hrs (fun k hk => by simp (disch := omega) only [z_upn]) (fun k hk => by simp (disch := omega) only [z_upn])
    · exact z_wy_fr hwy (by simp (disch := omega) only [z_upn]) (by simp (disch := omega) only [z_upn]) (hG 27 3 (by omega) (by omega)) (fun i => ⟨hG 28 i (by omega) (by omega), hG 29 i (by omega) (by omega), hG 30 i (by omega) (by omega)⟩)
  · rw [if_neg h4, if_neg h4]
    exact z_same R
theorem z_fg {NC : Nat} {X M : x_M} {G H : z_G} {Cd Ch : Nat → Nat → List Int32} (R : z_R NC X M G H Cd Ch) : z_R NC (x_up X 78 1 (-1)) M G H Cd Ch := by
  obtain ⟨hcl, hrs, hwy⟩ := R
  refine ⟨z_cl_fr hcl (fun k hk => z_upn (by omega)) (fun _ _ => rfl), z_rs_fr2 hrs (fun k hk => z_upn (by omega)) rfl (by rw [z_upn (by omega)]) rfl (z_sh_fr hrs.2.1 (z_upn (by omega)) (z_upn (by omega)) rfl rfl) (z_wt_fr hrs.2.2.1 (by rw [z_upn (by omega)]) (z_upn (by omega)) rfl rfl) (z_tp_fr hrs.2.2.2.1 (by rw [z_upn (by omega)]) (z_upn (by omega)) rfl rfl), Or.inl (by rw [z_upr, z_us])⟩
set_option maxHeartbeats 4000000 in
theorem e_offer {NC : Nat} {X M : x_M} {G H : z_G} {Cd Ch : Nat → Nat → List Int32} (R : z_R NC X M G H Cd Ch) (a1 a2 a3 : Int32) : z_E NC (f_X11_offer X a1 a2 a3) (f_X12_offer M a1 a2 a3) := by
  have R0 := R
  unfold f_X11_offer f_X12_offer f_X11_offer_32 f_X12_offer_32 f_X10_forget f_X5_add
  simp only [z_in, z_wi, z_bn, z_ite, z_bnid, z_pf]
  by_cases h1 : a1 < nI 1 ∨ nI 9999 < a1
  · simp only [if_pos h1]
    exact z_same R
  simp only [if_neg h1]
  by_cases h2 : a2 < nI 1 ∨ nI 999 < a2
  · simp only [if_pos h2]
    exact z_same R
  simp only [if_neg h2]
  by_cases h3 : a3 < nI 1 ∨ nI 9 < a3
  · simp only [if_pos h3]
    exact z_same R
  simp only [if_neg h3]
  obtain ⟨v1, j1, k1, rfl⟩ := z_nat h1 (by decide) (by decide)
  obtain ⟨v2, j2, k2, rfl⟩ := z_nat h2 (by decide) (by decide)
  obtain ⟨v3, j3, k3, rfl⟩ := z_nat h3 (by decide) (by decide)
  clear h1 h2 h3
  have R := z_fg R0
  have hw78 : (x_up X 78 1 (-1)) 78 1 = -1 := by rw [z_upr, z_us]
  generalize x_up X 78 1 (-1) = X at *
  obtain ⟨hcl, hrs, hwy⟩ := id R
  obtain ⟨hc, hi, ho, hf, ht⟩ := id hcl
  have hS := hi.1
  unfold z_IS at hS
  have hm := z_g27 hc
  generalize hmm : G 27 3 = m at *
  simp (disch := omega) only [z_gf, z_rd, hm, z_lt, z_eq]
  by_cases h5 : m = 8
  · rw [if_neg (by omega), if_pos h5]
    exact z_same R
  rw [if_pos (by omega), if_neg h5]
  simp (disch := omega) only [z_add, z_mul, z_wr, z_upn, hm, z_pf, z_upr, z_us, z_un, z_rd, z_sub]
  have hG : ∀ k i, ¬ (k = 27 ∧ i = 3) → ¬ (28 ≤ k ∧ k ≤ 30 ∧ i = m) → z_gu (z_gu (z_gu (z_gu G 28 m v1) 29 m v2) 30 m v3) 27 3 (m + 1) k i = G k i := by
    intro k i q1 q2
    rw [z_gun (by omega), z_gun (by omega), z_gun (by omega), z_gun (by omega)]
  have n0 : z_gu (z_gu (z_gu (z_gu G 28 m v1) 29 m v2) 30 m v3) 27 3 (m + 1) 27 3 = m + 1 := z_gus
  have n28 : z_gu (z_gu (z_gu (z_gu G 28 m v1) 29 m v2) 30 m v3) 27 3 (m + 1) 28 m = v1 := by rw [z_gun (by omega), z_gun (by omega), z_gun (by omega), z_gus]
  have n29 : z_gu (z_gu (z_gu (z_gu G 28 m v1) 29 m v2) 30 m v3) 27 3 (m + 1) 29 m = v2 := by rw [z_gun (by omega), z_gun (by omega), z_gus]
  have n30 : z_gu (z_gu (z_gu (z_gu G 28 m v1) 29 m v2) 30 m v3) 27 3 (m + 1) 30 m = v3 := by rw [z_gun (by omega), z_gus]
  have hc0 := hc
  have c0 := z_cr_up hc0 28 m v1 (r := 28) (x := (nI v1)) (p := 5488 + 3 * m) (y := (nI v1)) (z_bO (by decide) (by decide) (by omega)) rfl rfl (by first | rfl | (simp only [z_pos]; omega)) rfl
  have c1 := z_cr_up c0 29 m v2 (r := 29) (x := (nI v2)) (p := 5488 + 3 * m + 1) (y := (nI v2)) (z_bO (by decide) (by decide) (by omega)) rfl rfl (by first | rfl | (simp only [z_pos]; omega)) rfl
  have c2 := z_cr_up c1 30 m v3 (r := 30) (x := (nI v3)) (p := 5488 + 3 * m + 2) (y := (nI v3)) (z_bO (by decide) (by decide) (by omega)) rfl rfl (by first | rfl | (simp only [z_pos]; omega)) rfl
  have cf := z_cr_up c2 27 3 (m + 1) (r := 27) (x := nI (m + 1)) (p := 9) (y := nI (m + 1)) (by unfold z_bd z_okS; decide) rfl rfl rfl rfl
  have oft := z_oft hcl (X' := x_up (x_up (x_up (x_up X 28 m (nI v1)) 29 m (nI v2)) 30 m (nI v3)) 27 3 (nI (m + 1))) (s' := upd (upd (upd (upd (M 1) (5488 + 3 * m) (nI v1)) (5488 + 3 * m + 1) (nI v2)) (5488 + 3 * m + 2) (nI v3)) (9) (nI (m + 1))) (G' := z_gu (z_gu (z_gu (z_gu G 28 m v1) 29 m v2) 30 m v3) 27 3 (m + 1)) (fun k hk => by simp (disch := omega) only [z_upn]) (fun p hp => by simp (disch := omega) only [z_un]) (fun k i hk => hG k i (by omega) (by omega))
  refine ⟨_, _, _, z_gu (z_gu (z_gu (z_gu G 28 m v1) 29 m v2) 30 m v3) 27 3 (m + 1), H, Cd, Ch, rfl, rfl, ⟨?_, ?_, ?_⟩, ?_, ?_⟩
  · simp only [z_upr]
    refine z_cr_sub cf (fun k i hki => ?_)
    unfold z_ok at hki
    rw [n0, hG 2 3 (by omega) (by omega), hG 6 9 (by omega) (by omega), hG 18 8 (by omega) (by omega), hG 18 9 (by omega) (by omega)] at hki
    rcases z_okS_g (O := m) hki (Nat.le_refl _) (Nat.le_refl _) (Nat.le_refl _) (by omega) with h | h | h | h | h
    · left; left; left; left
      unfold z_ok
      rw [hmm]
      exact h
    · omega
    · omega
    · omega
    · have e : i = m := by omega
      subst e
      rcases (show k = 28 ∨ k = 29 ∨ k = 30 by omega) with rfl | rfl | rfl <;> simp
  · obtain ⟨g1, g2, g3, g4, g5, g6, g7⟩ := hi
    unfold z_I z_IS z_IM z_IL z_IF z_IA
    unfold z_IM at g3
    unfold z_IL at g4
    unfold z_IF at g5
    unfold z_IA at g6
    simp (disch := omega) only [hG, n0]
    refine ⟨by omega, g2, g3, g4, g5, g6, fun j hj => ?_⟩
    unfold z_IO
    by_cases e : j = m
    · subst e
      rw [n28, n29, n30]
      omega
    · have q := g7 j (by omega)
      unfold z_IO at q
      simp (disch := omega) only [hG]
      exact q
  · simp only [z_upr]
    exact oft
  · exact z_rs_fr hrs (fun k hk => by simp (disch := omega) only [z_upn]) (fun k hk => by simp (disch := omega) only [z_upn])
  · exact Or.inl (by simp (disch := omega) only [z_upn]; exact hw78)
theorem e_clear {NC : Nat} {X M : x_M} {G H : z_G} {Cd Ch : Nat → Nat → List Int32} (R : z_R NC X M G H Cd Ch) : z_E NC (f_X11_clear X) (f_X12_clear M) := by
  obtain ⟨hcl, hrs, hwy⟩ := id R
  obtain ⟨hc, hi, ho, hf, ht⟩ := id hcl
  have hS := hi.1
  unfold z_IS at hS
  have hm := z_g27 hc
  unfold f_X11_clear f_X12_clear f_X10_forget
  simp (disch := omega) only [z_gf, z_rd, hm, z_wr, z_pf, z_bn]
  have hG : ∀ k i, ¬ (k = 27 ∧ i = 3) → z_gu G 27 3 0 k i = G k i := fun k i h => z_gun (by omega)
  have n0 : z_gu G 27 3 0 27 3 = 0 := z_gus
  have cf := z_cr_up hc 27 3 0 (r := 27) (x := nI 0) (p := 9) (y := nI 0) (by unfold z_bd z_okS; decide) rfl rfl rfl rfl
  have cf := z_cr_fr cf (X' := x_up (x_up X 27 3 (nI 0)) 78 1 (-1)) (fun k i hb => by unfold z_bd z_okS at hb; rw [z_upn (by omega)]) (fun p _ _ => rfl)
  have oft := z_oft hcl (X' := x_up (x_up X 27 3 (nI 0)) 78 1 (-1)) (s' := upd (M 1) 9 (nI 0)) (G' := z_gu G 27 3 0) (fun k hk => by simp (disch := omega) only [z_upn]) (fun p hp => by simp (disch := omega) only [z_un]) (fun k i hk => hG k i (by omega))
  refine ⟨_, _, _, z_gu G 27 3 0, H, Cd, Ch, rfl, rfl, ⟨?_, ?_, ?_⟩, ?_, Or.inl (by rw [z_upr, z_us])⟩
  · simp only [z_upr]
    refine z_cr_sub cf (fun k i hki => Or.inl ?_)
    unfold z_ok at hki ⊢
    rw [n0, hG 2 3 (by omega), hG 6 9 (by omega), hG 18 8 (by omega), hG 18 9 (by omega)] at hki
    unfold z_okS at hki ⊢
    rcases hki with h | h | h | h | h | h | h | h | h | h | h | h | h
    · exact Or.inl h
    · exact Or.inr (Or.inl h)
    · exact Or.inr (Or.inr (Or.inl h))
    · exact Or.inr (Or.inr (Or.inr (Or.inl h)))
    · exact Or.inr (Or.inr (Or.inr (Or.inr (Or.inl h))))
    · exact Or.inr (Or.inr (Or.inr (Or.inr (Or.inr (Or.inl h)))))
    · exact Or.inr (Or.inr (Or.inr (Or.inr (Or.inr (Or.inr (Or.inl h))))))
    · exact Or.inr (Or.inr (Or.inr (Or.inr (Or.inr (Or.inr (Or.inr (Or.inl h)))))))
    · exact Or.inr (Or.inr (Or.inr (Or.inr (Or.inr (Or.inr (Or.inr (Or.inr (Or.inl h))))))))
    · exact Or.inr (Or.inr (Or.inr (Or.inr (Or.inr (Or.inr (Or.inr (Or.inr (Or.inr (Or.inl h)))))))))
    · omega
    · exact Or.inr (Or.inr (Or.inr (Or.inr (Or.inr (Or.inr (Or.inr (Or.inr (Or.inr (Or.inr (Or.inr (Or.inl h)))))))))))
    · exact Or.inr (Or.inr (Or.inr (Or.inr (Or.inr (Or.inr (Or.inr (Or.inr (Or.inr (Or.inr (Or.inr (Or.inr h)))))))))))
  · obtain ⟨g1, g2, g3, g4, g5, g6, g7⟩ := hi
    unfold z_I z_IS z_IM z_IL z_IF z_IA
    unfold z_IM at g3
    unfold z_IL at g4
    unfold z_IF at g5
    unfold z_IA at g6
    simp (disch := omega) only [hG, n0]
    exact ⟨by omega, g2, g3, g4, g5, g6, fun j hj => by omega⟩
  · simp only [z_upr]
    exact oft
  · exact z_rs_fr2 hrs (fun k hk => by simp (disch := omega) only [z_upn]) (z_upn (by omega)) (by simp (disch := omega) only [z_upn]) (by rw [z_upn (by omega)]) (z_sh_fr hrs.2.1 (by simp (disch := omega) only [z_upn]) (by simp (disch := omega) only [z_upn]) (z_upn (by omega)) (z_upn (by omega))) (z_wt_fr hrs.2.2.1 (by simp (disch := omega) only [z_upn]) (by simp (disch := omega) only [z_upn]) (by rw [z_upn (by omega)]) (z_upn (by omega))) (z_tp_fr hrs.2.2.2.1 (by simp (disch := omega) only [z_upn]) (by simp (disch := omega) only [z_upn]) (by rw [z_upn (by omega)]) (z_upn (by omega)))
