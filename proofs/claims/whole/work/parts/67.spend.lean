/-! ===== SPEND, GIFT, BACK: the class ===== -/
def z_hSS (G S : z_G) (l : Nat) : z_G := if z_thr G S (G 9 l) 1 (G 8 l) < G 12 l then S else z_gu (z_tkS G S (G 9 l) 1 (G 8 l) (G 12 l)).1 4 l (G 12 l)
def z_hSP (G S : z_G) (P : z_PP) (l : Nat) : z_PP := if z_thr G S (G 9 l) 1 (G 8 l) < G 12 l then P else z_pu P 2 (G 13 l) (P 2 (G 13 l) + nI (G 12 l))
def z_hGS (G S : z_G) (l : Nat) : z_G := if z_thr G S (G 9 l) 0 (G 8 l) < G 12 l then S else z_gu (z_cm (z_tkS G S (G 9 l) 0 (G 8 l) (G 12 l)).1 (G 13 l) (G 12 l) ((z_tkS G S (G 9 l) 0 (G 8 l) (G 12 l)).2 - 1)) 4 l (G 12 l)
def z_hBS (G S : z_G) (l : Nat) : z_G := if S 4 (G 13 l) = 0 ∨ S 5 (G 13 l) ≠ 0 then S else z_gu (z_cm (z_gu S 5 (G 13 l) 1) (G 8 l) (G 12 l) (G 9 l + G 31 1)) 4 l (G 12 l)
def z_hBP (G S : z_G) (P : z_PP) (l : Nat) : z_PP := if S 4 (G 13 l) = 0 ∨ S 5 (G 13 l) ≠ 0 then P else z_pu P 2 (G 13 (G 13 l)) (P 2 (G 13 (G 13 l)) - nI (G 12 l))
theorem z_LX_0 {X : x_M} {S : z_G} {P : z_PP} {l : Nat} (h : z_LX X S P) (hl : l < 100) (h0 : S 4 l = 0) : z_LX (x_up X 76 l (nI (S 4 l))) S P := by
  obtain ⟨h1, h2, h3, h4⟩ := h
  refine ⟨z_lX_fr h1 (by rw [z_upn (by omega)]) (z_upn (by omega)) (z_upn (by omega)) (z_upn (by omega)), by rw [z_upn (by omega)]; exact h2, by rw [z_upn (by omega), z_upn (by omega)]; exact h3, fun i hi => ?_⟩
  rw [z_upr, z_upn (by omega)]
  by_cases e : i = l
  · subst e
    rw [z_us]
    exact ⟨rfl, (h4 i hi).2⟩
  · rw [z_un e]
    exact h4 i hi
theorem z_spX {NC : Nat} {X M : x_M} {G S : z_G} {P : z_PP} {Cd : Nat → Nat → List Int32} (h : z_K NC X M G Cd) (hL : z_LX X S P) (hB : z_lB (G 2 3) S) {l : Nat} (hl : l < G 6 9) (hk : G 7 l = 1) (h0 : S 4 l = 0) : ∃ X', f_X2_bringSpend_67_1 X (nI l) = some (nI (z_hSS G S l 4 l), X') ∧ z_LX (x_up X' 76 l (nI (z_hSS G S l 4 l))) (z_hSS G S l) (z_hSP G S P l) ∧ z_lx X X' := by
  have hL100 : G 6 9 ≤ 100 := h.1.2.1.1.2.2.1
  have hm10 : G 2 3 ≤ 10 := h.1.2.1.1.2.1
  have hday : G 1 8 ≤ 1200 := h.1.2.1.1.1
  have I := h.1.2.1.2.2.2.1 l hl
  unfold z_IL at I
  obtain ⟨I7, I8, I9, I10, -, I12a, I12, I14, I13, -, I1, -⟩ := I
  have I1 := I1 hk
  have g8 := (z_g8 h.1.1 hl).1
  have g9 := (z_g9 h.1.1 hl).1
  have g12 := (z_g12 h.1.1 hl).1
  have g13 := (z_g13 h.1.1 hl).1
  have hth := z_thr_b (G := G) (day := G 9 l) (pl := 1) (m := G 8 l) hB
  unfold f_X2_bringSpend_67_1 z_hSS z_hSP
  rw [z_rd (by omega) (by omega), z_rd (by omega) (by omega), z_rd (by omega) (by omega), g8, g9, g12, z_ther h hL.1 hB I8 (by omega) (by omega), z_bn]
  by_cases c : z_thr G S (G 9 l) 1 (G 8 l) < G 12 l
  · rw [if_neg (by rw [z_le (by omega) (by omega)]; omega), if_pos c, if_pos c]
    refine ⟨X, by rw [h0], z_LX_0 hL (by omega) h0, z_lx_r⟩
  · rw [if_pos (by rw [z_le (by omega) (by omega)]; omega), if_neg c, if_neg c]
    obtain ⟨X1, a1, a2, a3⟩ := z_takeX h hL.1 hB I8 (show 1 ≤ 1 by omega) (show G 9 l ≤ 1200 by omega) (show G 12 l ≤ 100000 by omega)
    have kp := (z_tkl_k (G := G) (day := G 9 l) (pl := 1) (m := G 8 l) (z_oL S) S (G 12 l) 0).1
    rw [a1, z_bn, z_rd (by omega) (by omega), a3 13 (by omega), g13, z_rd (by omega) (by omega), a3 75 (by omega), (hL.2.2.1 _ (by omega)).2, z_wr (by omega) (by omega), z_gus]
    refine ⟨_, rfl, ⟨?_, fun i hi => ?_, fun i hi => ?_, fun i hi => ?_⟩, fun k hk => ?_⟩
    · exact z_lX_4 (z_lX_fr a2 (by rw [z_upn (by omega), z_upn (by omega)]) (by rw [z_upn (by omega), z_upn (by omega)]) (by rw [z_upn (by omega), z_upn (by omega)]) (by rw [z_upn (by omega), z_upn (by omega)])) (by omega)
    · rw [z_upn (by omega), z_upn (by omega), a3 73 (by omega), z_pun (by omega)]
      exact hL.2.1 i hi
    · rw [z_upn (by omega), z_upn (by omega), z_upn (by omega), z_upr, a3 74 (by omega), z_pun (by omega)]
      refine ⟨(hL.2.2.1 i hi).1, ?_⟩
      by_cases e : i = G 13 l
      · subst e
        rw [z_us, z_pus]
      · rw [z_un e, a3 75 (by omega), z_pun (by omega)]
        exact (hL.2.2.1 i hi).2
    · rw [z_upr, z_upn (by omega), z_upn (by omega), z_upn (by omega), a3 77 (by omega), z_gun (k' := 5) (by omega)]
      have e5 : (z_tkS G S (G 9 l) 1 (G 8 l) (G 12 l)).1 5 i = S 5 i := kp 5 i (by omega)
      have e4 : (z_tkS G S (G 9 l) 1 (G 8 l) (G 12 l)).1 4 i = S 4 i := kp 4 i (by omega)
      rw [e5]
      refine ⟨?_, (hL.2.2.2 i hi).2⟩
      by_cases e : i = l
      · subst e
        rw [z_us, z_gus]
      · rw [z_un e, z_gun (by omega), a3 76 (by omega), e4]
        exact (hL.2.2.2 i hi).1
    · rw [z_upn (by omega), a3 k (by omega)]
theorem z_giX {NC : Nat} {X M : x_M} {G S : z_G} {P : z_PP} {Cd : Nat → Nat → List Int32} (h : z_K NC X M G Cd) (hL : z_LX X S P) (hB : z_lB (G 2 3) S) (hn : S 0 0 < 100) {l : Nat} (hl : l < G 6 9) (hk : G 7 l = 2) (h0 : S 4 l = 0) : ∃ X', f_X2_bringGift_67_1 X (nI l) = some (nI (z_hGS G S l 4 l), X') ∧ z_LX (x_up X' 76 l (nI (z_hGS G S l 4 l))) (z_hGS G S l) P ∧ z_lx X X' := by
  have hL100 : G 6 9 ≤ 100 := h.1.2.1.1.2.2.1
  have hm10 : G 2 3 ≤ 10 := h.1.2.1.1.2.1
  have hday : G 1 8 ≤ 1200 := h.1.2.1.1.1
  have I := h.1.2.1.2.2.2.1 l hl
  unfold z_IL at I
  obtain ⟨I7, I8, I9, I10, -, I12a, I12, I14, I13, -, -, I2, -⟩ := I
  have I2 := I2 hk
  have g8 := (z_g8 h.1.1 hl).1
  have g9 := (z_g9 h.1.1 hl).1
  have g12 := (z_g12 h.1.1 hl).1
  have g13 := (z_g13 h.1.1 hl).1
  have hth := z_thr_b (G := G) (day := G 9 l) (pl := 0) (m := G 8 l) hB
  unfold f_X2_bringGift_67_1 z_hGS
  rw [z_rd (by omega) (by omega), z_rd (by omega) (by omega), z_rd (by omega) (by omega), g8, g9, g12, z_ther h hL.1 hB I8 (by omega) (by omega), z_bn]
  by_cases c : z_thr G S (G 9 l) 0 (G 8 l) < G 12 l
  · rw [if_neg (by rw [z_le (by omega) (by omega)]; omega), if_pos c]
    refine ⟨X, by rw [h0], z_LX_0 hL (by omega) h0, z_lx_r⟩
  · rw [if_pos (by rw [z_le (by omega) (by omega)]; omega), if_neg c]
    obtain ⟨X1, a1, a2, a3⟩ := z_takeX h hL.1 hB I8 (show 0 ≤ 1 by omega) (show G 9 l ≤ 1200 by omega) (show G 12 l ≤ 100000 by omega)
    obtain ⟨la, la1, la2⟩ := z_takeF (G := G) (day := G 9 l) (pl := 0) (m := G 8 l) (left := G 12 l) hB (by omega) (by omega)
    have kp := (z_tkl_k (G := G) (day := G 9 l) (pl := 0) (m := G 8 l) (z_oL S) S (G 12 l) 0).1
    have hB1 := z_takeB (G := G) (day := G 9 l) (pl := 0) (m := G 8 l) (left := G 12 l) hB
    have en : z_eN (la + 1) = nI la := by
      unfold z_eN
      rw [if_neg (by omega)]
      rfl
    have e0 : (z_tkS G S (G 9 l) 0 (G 8 l) (G 12 l)).1 0 0 = S 0 0 := kp 0 0 (by omega)
    obtain ⟨X2, b1, b2, b3, b4⟩ := z_come (m := G 13 l) (mi := G 12 l) (la := la) a2 hB1 hm10 (by omega) (by omega) la1
    rw [a1, z_bn, z_rd (by omega) (by omega), a3 13 (by omega), g13, la2, en, b1, z_bn, show la + 1 - 1 = la by omega, z_gus]
    refine ⟨_, rfl, ⟨?_, fun i hi => ?_, fun i hi => ?_, fun i hi => ?_⟩, fun k hk => ?_⟩
    · exact z_lX_4 (z_lX_fr b2 (by rw [z_upn (by omega)]) (by rw [z_upn (by omega)]) (by rw [z_upn (by omega)]) (by rw [z_upn (by omega)])) (by omega)
    · rw [z_upn (by omega), b3 73 (by omega) (by omega) (by omega) (by omega), a3 73 (by omega)]
      exact hL.2.1 i hi
    · rw [z_upn (by omega), z_upn (by omega), b3 74 (by omega) (by omega) (by omega) (by omega), a3 74 (by omega), b3 75 (by omega) (by omega) (by omega) (by omega), a3 75 (by omega)]
      exact hL.2.2.1 i hi
    · rw [z_upr, z_upn (by omega), b3 77 (by omega) (by omega) (by omega) (by omega), a3 77 (by omega), z_gun (k' := 5) (by omega), z_cm_o (by omega) (by omega)]
      have e5 : (z_tkS G S (G 9 l) 0 (G 8 l) (G 12 l)).1 5 i = S 5 i := kp 5 i (by omega)
      have e4 : (z_tkS G S (G 9 l) 0 (G 8 l) (G 12 l)).1 4 i = S 4 i := kp 4 i (by omega)
      rw [e5]
      refine ⟨?_, (hL.2.2.2 i hi).2⟩
      by_cases e : i = l
      · subst e
        rw [z_us, z_gus]
      · rw [z_un e, z_gun (by omega), z_cm_o (by omega) (by omega), b3 76 (by omega) (by omega) (by omega) (by omega), a3 76 (by omega), e4]
        exact (hL.2.2.2 i hi).1
    · rw [b3 k (by omega) (by omega) (by omega) (by omega), a3 k (by omega)]
theorem z_baX {NC : Nat} {X M : x_M} {G S : z_G} {P : z_PP} {Cd : Nat → Nat → List Int32} (h : z_K NC X M G Cd) (hL : z_LX X S P) (hB : z_lB (G 2 3) S) (hn : S 0 0 < 100) {l : Nat} (hl : l < G 6 9) (hk : G 7 l = 3) (h0 : S 4 l = 0) (hsp : S 4 (G 13 l) = 0 ∨ S 4 (G 13 l) = G 12 (G 13 l)) (h5 : S 5 (G 13 l) ≤ 1) : ∃ X', f_X2_bringBack_67_1 X (nI l) = some (nI (z_hBS G S l 4 l), X') ∧ z_LX (x_up X' 76 l (nI (z_hBS G S l 4 l))) (z_hBS G S l) (z_hBP G S P l) ∧ z_lx X X' := by
  have hL100 : G 6 9 ≤ 100 := h.1.2.1.1.2.2.1
  have hm10 : G 2 3 ≤ 10 := h.1.2.1.1.2.1
  have hday : G 1 8 ≤ 1200 := h.1.2.1.1.1
  have hgr : G 31 1 ≤ 999 := by
    have := h.1.2.1.1
    unfold z_IS at this
    omega
  have I := h.1.2.1.2.2.2.1 l hl
  unfold z_IL at I
  obtain ⟨I7, I8, I9, I10, -, I12a, I12, I14, I13, -, -, -, I3⟩ := I
  obtain ⟨J1, J2, J3, J4, J5⟩ := I3 hk
  have I' := h.1.2.1.2.2.2.1 (G 13 l) (by omega)
  unfold z_IL at I'
  have J6 := I'.2.2.2.2.2.2.2.2.2.2.1 J2
  have g13 := (z_g13 h.1.1 hl).1
  have g9 := (z_g9 h.1.1 hl).1
  have s8 := (z_g8 h.1.1 (show G 13 l < G 6 9 by omega)).1
  have s13 := (z_g13 h.1.1 (show G 13 l < G 6 9 by omega)).1
  have g31 := (z_g31 h.1.1 (show 1 < 3 by omega)).1
  unfold f_X2_bringBack_67_1 f_X2_bringBack_67_1_37 z_hBS z_hBP
  rw [z_rd (by omega) (by omega), g13, z_rd (by omega) (by omega), (hL.2.2.2 _ (by omega)).1]
  by_cases c1 : S 4 (G 13 l) = 0
  · rw [if_pos (by rw [c1]; decide), if_pos (Or.inl c1), if_pos (Or.inl c1)]
    exact ⟨X, by rw [h0], z_LX_0 hL (by omega) h0, z_lx_r⟩
  · have hs : S 4 (G 13 l) = G 12 l := by omega
    rw [if_neg (by rw [z_le0 (by omega)]; exact c1), z_rd (by omega) (by omega), (hL.2.2.2 _ (by omega)).2]
    by_cases c2 : S 5 (G 13 l) = 0
    · have hno : ¬ (S 4 (G 13 l) = 0 ∨ S 5 (G 13 l) ≠ 0) := by omega
      have hB5 : z_lB (G 2 3) (z_gu S 5 (G 13 l) 1) := by
        unfold z_lB
        rw [z_gun (by omega)]
        refine ⟨hB.1, fun i hi => ?_⟩
        rw [z_gun (by omega), z_gun (by omega), z_gun (by omega)]
        exact hB.2 i hi
      have hl5 : z_lX (x_up X 77 (G 13 l) (nI 1)) (z_gu S 5 (G 13 l) 1) := z_lX_4 (z_lX_fr hL.1 (by rw [z_upn (by omega)]) (z_upn (by omega)) (z_upn (by omega)) (z_upn (by omega))) (by omega)
      obtain ⟨X2, b1, b2, b3, b4⟩ := z_come (m := G 8 l) (mi := G 12 l) (la := G 9 l + G 31 1) hl5 hB5 hm10 (by rw [z_gun (by omega)]; omega) (by omega) (by omega)
      have u8 : (x_up X 77 (G 13 l) (nI 1)) 8 = X 8 := z_upn (by omega)
      have u9 : (x_up X 77 (G 13 l) (nI 1)) 9 = X 9 := z_upn (by omega)
      have u31 : (x_up X 77 (G 13 l) (nI 1)) 31 = X 31 := z_upn (by omega)
      rw [if_pos (by rw [c2]; decide), if_neg hno, if_neg hno, z_wr (by omega) (by omega), z_rd (by omega) (by omega), u8, s8, z_rd (by omega) (by omega), u9, g9, z_rd (by omega) (by omega), u31, g31, z_add, ← J5, hs, b1, z_bn, z_rd (by omega) (by omega), b3 13 (by omega) (by omega) (by omega) (by omega), z_upn (by omega), s13, z_rd (by omega) (by omega), b3 75 (by omega) (by omega) (by omega) (by omega), z_upn (by omega), (hL.2.2.1 _ (by omega)).2, z_wr (by omega) (by omega), z_gus]
      refine ⟨_, rfl, ⟨?_, fun i hi => ?_, fun i hi => ?_, fun i hi => ?_⟩, fun k hk => ?_⟩
      · exact z_lX_4 (z_lX_fr b2 (by rw [z_upn (by omega), z_upn (by omega)]) (by rw [z_upn (by omega), z_upn (by omega)]) (by rw [z_upn (by omega), z_upn (by omega)]) (by rw [z_upn (by omega), z_upn (by omega)])) (by omega)
      · rw [z_upn (by omega), z_upn (by omega), b3 73 (by omega) (by omega) (by omega) (by omega), z_upn (by omega), z_pun (by omega)]
        exact hL.2.1 i hi
      · rw [z_upn (by omega), z_upn (by omega), z_upn (by omega), z_upr, b3 74 (by omega) (by omega) (by omega) (by omega), z_upn (by omega), z_pun (by omega)]
        refine ⟨(hL.2.2.1 i hi).1, ?_⟩
        by_cases e : i = G 13 (G 13 l)
        · rw [e, z_us, z_pus]
        · rw [z_un e, b3 75 (by omega) (by omega) (by omega) (by omega), z_upn (by omega), z_pun (by omega)]
          exact (hL.2.2.1 i hi).2
      · rw [z_upr, z_upn (by omega), z_upn (by omega), z_upn (by omega), b3 77 (by omega) (by omega) (by omega) (by omega), z_upr, b3 76 (by omega) (by omega) (by omega) (by omega), z_upn (by omega)]
        refine ⟨?_, ?_⟩
        · by_cases e : i = l
          · rw [e, z_us, z_gus]
          · rw [z_un e, z_gun (by omega), z_cm_o (by omega) (by omega), z_gun (by omega)]
            exact (hL.2.2.2 i hi).1
        · rw [z_gun (by omega), z_cm_o (by omega) (by omega)]
          by_cases e : i = G 13 l
          · rw [e, z_us, z_gus]
          · rw [z_un e, z_gun (by omega)]
            exact (hL.2.2.2 i hi).2
      · rw [z_upn (by omega), b3 k (by omega) (by omega) (by omega) (by omega), z_upn (by omega)]
    · rw [if_neg (by rw [z_eq0 (by omega)]; exact c2), if_pos (Or.inr c2), if_pos (Or.inr c2)]
      exact ⟨X, by rw [h0], z_LX_0 hL (by omega) h0, z_lx_r⟩
