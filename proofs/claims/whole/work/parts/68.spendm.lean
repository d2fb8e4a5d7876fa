/-! ===== SPEND, GIFT, BACK: the reference ===== -/
theorem z_sp207 {NC : Nat} {X M : x_M} {G S : z_G} {P : z_PP} {Cd : Nat → Nat → List Int32} (h : z_K NC X M G Cd) (hL : z_LM (G 6 9) M S P) (hB : z_lB (G 2 3) S) {l : Nat} (hl : l < G 6 9) (hk : G 7 l = 1) (hth : G 12 l ≤ z_thr G S (G 9 l) 1 (G 8 l)) : ∃ M', f_X12_happens_207 M (nI l) (nI (50 + 10 * l)) (nI (G 12 l)) (nI (G 8 l)) (nI (G 9 l)) (nI (G 12 l)) (nI 1) = some ((), M') ∧ z_LM (G 6 9) M' (z_hSS G S l) (z_hSP G S P l) ∧ z_lm M M' := by
  have hL100 : G 6 9 ≤ 100 := h.1.2.1.1.2.2.1
  have hm10 : G 2 3 ≤ 10 := h.1.2.1.1.2.1
  have hday : G 1 8 ≤ 1200 := h.1.2.1.1.1
  have I := h.1.2.1.2.2.2.1 l hl
  unfold z_IL at I
  obtain ⟨I7, I8, I9, I10, -, I12a, I12, I14, I13, -, I1, -⟩ := I
  have I1 := I1 hk
  obtain ⟨M1, a1, a2, a3⟩ := z_takeM h hL.1 hB I8 (show 1 ≤ 1 by omega) (show G 9 l ≤ 1200 by omega) (show G 12 l ≤ 100000 by omega) hth
  have kp := (z_tkl_k (G := G) (day := G 9 l) (pl := 1) (m := G 8 l) (z_oL S) S (G 12 l) 0).1
  have g7 : M1 1 (50 + 10 * l) = nI (G 7 l) := by
    rw [a3 1 (by omega)]
    exact (z_g7 h.1.1 hl).2
  have g13 : M1 1 (50 + 10 * l + 6) = nI (G 13 l) := by
    rw [a3 1 (by omega), show 50 + 10 * l + 6 = 56 + 10 * l by omega]
    exact (z_g13 h.1.1 hl).2
  have hc : ¬ z_thr G S (G 9 l) 1 (G 8 l) < G 12 l := by omega
  unfold f_X12_happens_207 f_X12_happens_261 z_hSS z_hSP
  rw [if_neg hc, if_neg hc, a1, z_bn, z_rd (by omega) (by omega), g7, hk, if_neg (by decide), z_add, z_rd (by omega) (by omega), g13, z_rd (by omega) (by omega), a3 13 (by omega), (hL.2.2.1 _ (by omega)).2, z_wr (by omega) (by omega), z_wr (by omega) (by omega)]
  refine ⟨_, rfl, ⟨?_, fun i hi => ?_, fun i hi => ?_, fun i hi => ?_⟩, fun k k0 hk => ?_, fun c hc => ?_⟩
  · exact z_lM_4 (z_lM_fr a2 (by rw [z_upn (by omega), z_upn (by omega)]) (by rw [z_upn (by omega), z_upn (by omega)]) (by rw [z_upn (by omega), z_upn (by omega)]) (by rw [z_upn (by omega), z_upn (by omega)])) (by omega)
  · rw [z_upn (by omega), z_upn (by omega), a3 11 (by omega), z_pun (by omega)]
    exact hL.2.1 i hi
  · rw [z_upn (by omega), z_upn (by omega), z_upn (by omega), z_upr, a3 12 (by omega), z_pun (by omega)]
    refine ⟨(hL.2.2.1 i hi).1, ?_⟩
    by_cases e : i = G 13 l
    · rw [e, z_us, z_pus]
    · rw [z_un e, a3 13 (by omega), z_pun (by omega)]
      exact (hL.2.2.1 i hi).2
  · have e5 : (z_tkS G S (G 9 l) 1 (G 8 l) (G 12 l)).1 5 i = S 5 i := kp 5 i (by omega)
    have e4 : (z_tkS G S (G 9 l) 1 (G 8 l) (G 12 l)).1 4 i = S 4 i := kp 4 i (by omega)
    rw [z_upr, z_upn (by omega), z_upn (by omega), z_upn (by omega), a3 16 (by omega), z_gun (k' := 5) (by omega), e5]
    refine ⟨?_, (hL.2.2.2 i hi).2⟩
    by_cases e : i = l
    · rw [e, z_us, z_gus]
    · rw [z_un e, z_gun (by omega), a3 14 (by omega), e4]
      exact (hL.2.2.2 i hi).1
  · rw [z_upn (by omega), z_upn (by omega), a3 k (by omega)]
  · rw [z_upn (by omega), z_upn (by omega), a3 0 (by omega)]
theorem z_gi207 {NC : Nat} {X M : x_M} {G S : z_G} {P : z_PP} {Cd : Nat → Nat → List Int32} (h : z_K NC X M G Cd) (hL : z_LM (G 6 9) M S P) (hB : z_lB (G 2 3) S) (hn : S 0 0 < 100) {l : Nat} (hl : l < G 6 9) (hk : G 7 l = 2) (hth : G 12 l ≤ z_thr G S (G 9 l) 0 (G 8 l)) : ∃ M', f_X12_happens_207 M (nI l) (nI (50 + 10 * l)) (nI (G 12 l)) (nI (G 8 l)) (nI (G 9 l)) (nI (G 12 l)) (nI 0) = some ((), M') ∧ z_LM (G 6 9) M' (z_hGS G S l) P ∧ z_lm M M' := by
  have hL100 : G 6 9 ≤ 100 := h.1.2.1.1.2.2.1
  have hm10 : G 2 3 ≤ 10 := h.1.2.1.1.2.1
  have hday : G 1 8 ≤ 1200 := h.1.2.1.1.1
  have I := h.1.2.1.2.2.2.1 l hl
  unfold z_IL at I
  obtain ⟨I7, I8, I9, I10, -, I12a, I12, I14, I13, -, -, I2, -⟩ := I
  have I2 := I2 hk
  obtain ⟨M1, a1, a2, a3⟩ := z_takeM h hL.1 hB I8 (show 0 ≤ 1 by omega) (show G 9 l ≤ 1200 by omega) (show G 12 l ≤ 100000 by omega) hth
  obtain ⟨la, la1, la2⟩ := z_takeF (G := G) (day := G 9 l) (pl := 0) (m := G 8 l) (left := G 12 l) hB (by omega) hth
  have kp := (z_tkl_k (G := G) (day := G 9 l) (pl := 0) (m := G 8 l) (z_oL S) S (G 12 l) 0).1
  have g7 : M1 1 (50 + 10 * l) = nI (G 7 l) := by
    rw [a3 1 (by omega)]
    exact (z_g7 h.1.1 hl).2
  have g13 : M1 1 (50 + 10 * l + 6) = nI (G 13 l) := by
    rw [a3 1 (by omega), show 50 + 10 * l + 6 = 56 + 10 * l by omega]
    exact (z_g13 h.1.1 hl).2
  have hc : ¬ z_thr G S (G 9 l) 0 (G 8 l) < G 12 l := by omega
  have e0 : (z_tkS G S (G 9 l) 0 (G 8 l) (G 12 l)).1 0 0 = S 0 0 := kp 0 0 (by omega)
  obtain ⟨M2, b1, b2, b3, b4⟩ := z_cm_M (m := G 13 l) (mi := G 12 l) (la := la) a2 (by omega)
  unfold f_X12_happens_207 f_X12_happens_261 z_hGS
  rw [if_neg hc, a1, z_bn, z_rd (by omega) (by omega), g7, hk, if_pos rfl, z_add, z_rd (by omega) (by omega), g13, la2, z_eO_s, b1, z_bn, z_wr (by omega) (by omega), show la + 1 - 1 = la by omega]
  refine ⟨_, rfl, ⟨?_, fun i hi => ?_, fun i hi => ?_, fun i hi => ?_⟩, fun k k0 hk => ?_, fun c hc => ?_⟩
  · exact z_lM_4 (z_lM_fr b2 (by rw [z_upn (by omega)]) (by rw [z_upn (by omega)]) (by rw [z_upn (by omega)]) (by rw [z_upn (by omega)])) (by omega)
  · rw [z_upn (by omega), b3 11 (by omega) (by omega) (by omega) (by omega), a3 11 (by omega)]
    exact hL.2.1 i hi
  · rw [z_upn (by omega), z_upn (by omega), b3 12 (by omega) (by omega) (by omega) (by omega), a3 12 (by omega), b3 13 (by omega) (by omega) (by omega) (by omega), a3 13 (by omega)]
    exact hL.2.2.1 i hi
  · have e5 : (z_tkS G S (G 9 l) 0 (G 8 l) (G 12 l)).1 5 i = S 5 i := kp 5 i (by omega)
    have e4 : (z_tkS G S (G 9 l) 0 (G 8 l) (G 12 l)).1 4 i = S 4 i := kp 4 i (by omega)
    rw [z_upr, z_upn (by omega), b3 16 (by omega) (by omega) (by omega) (by omega), a3 16 (by omega), z_gun (k' := 5) (by omega), z_cm_o (by omega) (by omega), e5]
    refine ⟨?_, (hL.2.2.2 i hi).2⟩
    by_cases e : i = l
    · rw [e, z_us, z_gus]
    · rw [z_un e, z_gun (by omega), z_cm_o (by omega) (by omega), b3 14 (by omega) (by omega) (by omega) (by omega), a3 14 (by omega), e4]
      exact (hL.2.2.2 i hi).1
  · rw [z_upn (by omega), b3 k (by omega) (by omega) (by omega) (by omega), a3 k (by omega)]
  · rw [z_upn (by omega), b4 c hc, a3 0 (by omega)]
def z_hapS (G : z_G) (Cd : Nat → Nat → List Int32) (S : z_G) (P : z_PP) (l : Nat) : z_G := if G 7 l = 0 then z_hFS G Cd S P l else if G 7 l = 1 then z_hSS G S l else if G 7 l = 2 then z_hGS G S l else z_hBS G S l
def z_hapP (G : z_G) (Cd : Nat → Nat → List Int32) (S : z_G) (P : z_PP) (l : Nat) : z_PP := if G 7 l = 0 then z_hFP G Cd P l else if G 7 l = 1 then z_hSP G S P l else if G 7 l = 2 then P else z_hBP G S P l
theorem z_lgc {a b : Nat} (ha : a < 2147483648) (hb : b < 2147483648) : (lg_cmp (lN a) ((nI b).toInt64) < 0) = (a < b) := by
  rw [nI_l (by omega)]
  exact propext (Iff.trans (lg_cmp_lt _ _) (lN_lt (by omega) (by omega)))
theorem z_hpM {NC : Nat} {X M : x_M} {G S : z_G} {P : z_PP} {Cd : Nat → Nat → List Int32} (h : z_K NC X M G Cd) (hL : z_LM (G 6 9) M S P) (hB : z_lB (G 2 3) S) (hn : S 0 0 < 100) {l : Nat} (hl : l < G 6 9) (hsp : G 7 l = 3 → S 4 (G 13 l) = 0 ∨ S 4 (G 13 l) = G 12 (G 13 l)) (h5 : ∀ i, S 5 i ≤ 1) : ∃ M', f_X12_happens M (nI l) = some ((), M') ∧ z_LM (G 6 9) M' (z_hapS G Cd S P l) (z_hapP G Cd S P l) ∧ z_lm M M' := by
  have hL100 : G 6 9 ≤ 100 := h.1.2.1.1.2.2.1
  have hm10 : G 2 3 ≤ 10 := h.1.2.1.1.2.1
  have hday : G 1 8 ≤ 1200 := h.1.2.1.1.1
  have hgr : G 31 1 ≤ 999 := by
    have := h.1.2.1.1
    unfold z_IS at this
    omega
  have I := h.1.2.1.2.2.2.1 l hl
  unfold z_IL at I
  obtain ⟨I7, I8, I9, I10, -, I12a, I12, I14, I13, -, -, -, I3⟩ := I
  have g7 := (z_g7 h.1.1 hl).2
  have g8 := (z_g8 h.1.1 hl).2
  have g9 := (z_g9 h.1.1 hl).2
  have g12 := (z_g12 h.1.1 hl).2
  have g13 := (z_g13 h.1.1 hl).2
  unfold f_X12_happens z_hapS z_hapP
  simp only [z_mul, z_add, show 50 + 10 * l + 1 = 51 + 10 * l by omega, show 50 + 10 * l + 2 = 52 + 10 * l by omega, show 50 + 10 * l + 5 = 55 + 10 * l by omega, show 50 + 10 * l + 6 = 56 + 10 * l by omega]
  rw [z_rd (by omega) (by omega), g8, z_rd (by omega) (by omega), g9, z_rd (by omega) (by omega), g12, z_rd (by omega) (by omega), g7]
  by_cases k0 : G 7 l = 0
  · obtain ⟨M', a1, a2, a3⟩ := z_flM h hL hB hn hl k0
    rw [if_pos (by rw [k0]; decide), a1, z_bn, if_pos k0, if_pos k0]
    exact ⟨M', rfl, a2, a3⟩
  · rw [if_neg (by rw [z_eq0 (by omega)]; exact k0), if_neg k0, if_neg k0, z_rd (by omega) (by omega), g7]
    by_cases k3 : G 7 l = 3
    · obtain ⟨J1, J2, J3, J4, J5⟩ := I3 k3
      have I' := h.1.2.1.2.2.2.1 (G 13 l) (by omega)
      unfold z_IL at I'
      have J6 := I'.2.2.2.2.2.2.2.2.2.2.1 J2
      have hs := hsp k3
      have h5' := h5 (G 13 l)
      rw [if_pos (by rw [k3]), if_neg (show ¬ G 7 l = 1 by omega), if_neg (show ¬ G 7 l = 2 by omega), if_neg (show ¬ G 7 l = 1 by omega), if_neg (show ¬ G 7 l = 2 by omega), z_rd (by omega) (by omega), g13, z_rd (by omega) (by omega), (hL.2.2.2 _ (by omega)).1]
      unfold z_hBS z_hBP
      by_cases c1 : S 4 (G 13 l) = 0
      · rw [if_pos (by rw [c1]; decide), if_pos (Or.inl c1), if_pos (Or.inl c1)]
        exact ⟨M, rfl, hL, z_lm_r⟩
      · rw [if_neg (by rw [z_eq0 (by omega)]; exact c1), z_rd (by omega) (by omega), (hL.2.2.2 _ (by omega)).2]
        by_cases c2 : S 5 (G 13 l) = 0
        · have hno : ¬ (S 4 (G 13 l) = 0 ∨ S 5 (G 13 l) ≠ 0) := by omega
          have hl5 : z_lM (x_up M 16 (G 13 l) (nI 1)) (z_gu S 5 (G 13 l) 1) := z_lM_4 (z_lM_fr hL.1 (by rw [z_upn (by omega)]) (z_upn (by omega)) (z_upn (by omega)) (z_upn (by omega))) (by omega)
          obtain ⟨M2, b1, b2, b3, b4⟩ := z_cm_M (m := G 8 l) (mi := G 12 l) (la := G 9 l + G 31 1) hl5 (by rw [z_gun (by omega)]; exact hn)
          have u1 : (x_up M 16 (G 13 l) (nI 1)) 1 = M 1 := z_upn (by omega)
          have g31 := (z_g31 h.1.1 (show 1 < 3 by omega)).2
          have s13 := (z_g13 h.1.1 (show G 13 l < G 6 9 by omega)).2
          rw [if_pos (by rw [c2]; decide), if_neg hno, if_neg hno, show vp_nar .boolean (nI 1) = nI 1 by decide, z_wr (by omega) (by omega), z_rd (by omega) (by omega), u1, show M 1 2 = nI (G 31 1) from g31, z_add, b1, z_bn, z_mul, z_add, z_add, z_rd (by omega) (by omega), b3 1 (by omega) (by omega) (by omega) (by omega), u1, show 50 + 10 * G 13 l + 6 = 56 + 10 * G 13 l by omega, s13, z_rd (by omega) (by omega), b3 13 (by omega) (by omega) (by omega) (by omega), z_upn (by omega), (hL.2.2.1 _ (by omega)).2, z_wr (by omega) (by omega), z_wr (by omega) (by omega)]
          refine ⟨_, rfl, ⟨?_, fun i hi => ?_, fun i hi => ?_, fun i hi => ?_⟩, fun k k0 hk => ?_, fun c hc => ?_⟩
          · exact z_lM_4 (z_lM_fr b2 (by rw [z_upn (by omega), z_upn (by omega)]) (by rw [z_upn (by omega), z_upn (by omega)]) (by rw [z_upn (by omega), z_upn (by omega)]) (by rw [z_upn (by omega), z_upn (by omega)])) (by omega)
          · rw [z_upn (by omega), z_upn (by omega), b3 11 (by omega) (by omega) (by omega) (by omega), z_upn (by omega), z_pun (by omega)]
            exact hL.2.1 i hi
          · rw [z_upn (by omega), z_upn (by omega), z_upn (by omega), z_upr, b3 12 (by omega) (by omega) (by omega) (by omega), z_upn (by omega), z_pun (by omega)]
            refine ⟨(hL.2.2.1 i hi).1, ?_⟩
            by_cases e : i = G 13 (G 13 l)
            · rw [e, z_us, z_pus]
            · rw [z_un e, b3 13 (by omega) (by omega) (by omega) (by omega), z_upn (by omega), z_pun (by omega)]
              exact (hL.2.2.1 i hi).2
          · rw [z_upr, z_upn (by omega), z_upn (by omega), z_upn (by omega), b3 16 (by omega) (by omega) (by omega) (by omega), z_upr, b3 14 (by omega) (by omega) (by omega) (by omega), z_upn (by omega)]
            refine ⟨?_, ?_⟩
            · by_cases e : i = l
              · rw [e, z_us, z_gus]
              · rw [z_un e, z_gun (by omega), z_cm_o (by omega) (by omega), z_gun (by omega)]
                exact (hL.2.2.2 i hi).1
            · rw [z_gun (by omega), z_cm_o (by omega) (by omega)]
              by_cases e : i = G 13 l
              · rw [e, z_us, z_gus]
              · rw [z_un e, z_gun (by omega)]
                exact (hL.2.2.2 i hi).2
          · rw [z_upn (by omega), z_upn (by omega), b3 k (by omega) (by omega) (by omega) (by omega), z_upn (by omega)]
          · rw [z_upn (by omega), z_upn (by omega), b4 c hc, z_upn (by omega)]
        · rw [if_neg (by rw [z_eq0 (by omega)]; exact c2), if_pos (Or.inr c2), if_pos (Or.inr c2)]
          exact ⟨M, rfl, hL, z_lm_r⟩
    · rw [if_neg (by rw [z_eq (by omega) (by omega)]; exact k3), z_rd (by omega) (by omega), g7]
      unfold f_X12_happens_176
      by_cases k1 : G 7 l = 1
      · have hth := z_thr_b (G := G) (day := G 9 l) (pl := 1) (m := G 8 l) hB
        rw [if_pos (by rw [k1]), if_pos k1, if_pos k1, z_therM h hL.1 hB I8 (by omega) (by omega), z_bn]
        simp (disch := omega) only [z_lgc]
        by_cases c : z_thr G S (G 9 l) 1 (G 8 l) < G 12 l
        · unfold z_hSS z_hSP
          rw [if_pos c, if_pos c, if_pos c]
          exact ⟨M, rfl, hL, z_lm_r⟩
        · rw [if_neg c, z_rd (by omega) (by omega), g7, if_pos (by rw [k1])]
          exact z_sp207 h hL hB hl k1 (by omega)
      · have k2 : G 7 l = 2 := by omega
        have hth := z_thr_b (G := G) (day := G 9 l) (pl := 0) (m := G 8 l) hB
        rw [if_neg (by rw [z_eq (by omega) (by omega)]; exact k1), if_neg k1, if_neg k1, if_pos k2, if_pos k2, z_therM h hL.1 hB I8 (by omega) (by omega), z_bn]
        simp (disch := omega) only [z_lgc]
        by_cases c : z_thr G S (G 9 l) 0 (G 8 l) < G 12 l
        · unfold z_hGS
          rw [if_pos c, if_pos c]
          exact ⟨M, rfl, hL, z_lm_r⟩
        · rw [if_neg c, z_rd (by omega) (by omega), g7, if_neg (by rw [z_eq (by omega) (by omega)]; exact k1)]
          exact z_gi207 h hL hB hn hl k2 (by omega)
