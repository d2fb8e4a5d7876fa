/-! ===== counts, sheets, the tape ===== -/
theorem z_cntW {NC : Nat} {X M : x_M} {G H : z_G} {Cd Ch : Nat → Nat → List Int32} (R : z_R NC X M G H Cd Ch) : ∀ (d j c n n' : Nat), G 6 9 = j + d → c ≤ j → d < n → d < n' → ∃ r, f_X3_allWithdrawn_4 n X (nI c) (nI j) = some (r, X) ∧ f_X12_count_76 n' M (nI c) (nI j) = some (r, M) := by
  obtain ⟨hcl, hrs, hwy⟩ := id R
  obtain ⟨hc, hi, ho, hf, ht⟩ := id hcl
  have hS := hi.1
  unfold z_IS at hS
  have hm := z_g6 hc
  intro d
  induction d with
  | zero =>
    intro j c n n' hj hcj hn hn'
    obtain ⟨n, rfl⟩ : ∃ a, n = a + 1 := ⟨n - 1, by omega⟩
    obtain ⟨n', rfl⟩ : ∃ a, n' = a + 1 := ⟨n' - 1, by omega⟩
    rw [f_X3_allWithdrawn_4_s, f_X12_count_76_s]
    simp (disch := omega) only [z_gf, z_rd, hm, z_le]
    rw [if_pos (by omega), if_pos (by omega)]
    exact ⟨_, rfl, rfl⟩
  | succ d ih =>
    intro j c n n' hj hcj hn hn'
    obtain ⟨n, rfl⟩ : ∃ a, n = a + 1 := ⟨n - 1, by omega⟩
    obtain ⟨n', rfl⟩ : ∃ a, n' = a + 1 := ⟨n' - 1, by omega⟩
    have g := z_g11 hc (show j < G 6 9 by omega)
    have hl : G 11 j ≤ G 1 8 + 1 := (hi.2.2.2.1 j (by omega)).2.2.2.2.1
    rw [f_X3_allWithdrawn_4_s, f_X12_count_76_s]
    unfold f_X3_allWithdrawn_26 f_X12_count_110
    simp (disch := omega) only [z_gf, z_rd, hm, z_le, z_add, z_mul]
    simp only [if_neg (show ¬ G 6 9 ≤ j by omega)]
    rw [show 50 + 10 * j + 4 = 54 + 10 * j by omega, g.1, g.2]
    simp (disch := omega) only [z_eO_m1, z_eN_n5]
    by_cases h : G 11 j = 0
    · rw [if_pos h, if_pos h]
      exact ih (j + 1) c n n' (by omega) (by omega) (by omega) (by omega)
    · rw [if_neg h, if_neg h]
      exact ih (j + 1) (c + 1) n n' (by omega) (by omega) (by omega) (by omega)
theorem z_cntA {NC : Nat} {X M : x_M} {G H : z_G} {Cd Ch : Nat → Nat → List Int32} (R : z_R NC X M G H Cd Ch) : ∀ (d j c n n' : Nat), G 18 9 = j + d → c ≤ j → d < n → d < n' → ∃ r, f_X6_allWaiting_4 n X (nI c) (nI j) = some (r, X) ∧ f_X12_count_146 n' M (nI c) (nI j) = some (r, M) := by
  obtain ⟨hcl, hrs, hwy⟩ := id R
  obtain ⟨hc, hi, ho, hf, ht⟩ := id hcl
  have hS := hi.1
  unfold z_IS at hS
  have hm := z_g18b hc
  intro d
  induction d with
  | zero =>
    intro j c n n' hj hcj hn hn'
    obtain ⟨n, rfl⟩ : ∃ a, n = a + 1 := ⟨n - 1, by omega⟩
    obtain ⟨n', rfl⟩ : ∃ a, n' = a + 1 := ⟨n' - 1, by omega⟩
    rw [f_X6_allWaiting_4_s, f_X12_count_146_s]
    simp (disch := omega) only [z_gf, z_rd, hm, z_le]
    rw [if_pos (by omega), if_pos (by omega)]
    exact ⟨_, rfl, rfl⟩
  | succ d ih =>
    intro j c n n' hj hcj hn hn'
    obtain ⟨n, rfl⟩ : ∃ a, n = a + 1 := ⟨n - 1, by omega⟩
    obtain ⟨n', rfl⟩ : ∃ a, n' = a + 1 := ⟨n' - 1, by omega⟩
    have g := z_g26 hc (show j < G 18 9 by omega)
    have hl : G 26 j ≤ 100000 := (hi.2.2.2.2.2.1 j (by omega)).2.2.2
    rw [f_X6_allWaiting_4_s, f_X12_count_146_s]
    unfold f_X6_allWaiting_26 f_X12_count_180
    simp (disch := omega) only [z_gf, z_rd, hm, z_le, z_add, z_mul]
    simp only [if_neg (show ¬ G 18 9 ≤ j by omega)]
    rw [show 5338 + 5 * j + 3 = 5341 + 5 * j by omega, g.1, hf j (by omega)]
    simp (disch := omega) only [z_eN_n5]
    by_cases h : G 26 j = 0
    · rw [if_pos h, if_pos h, if_pos (by decide)]
      exact ih (j + 1) (c + 1) n n' (by omega) (by omega) (by omega) (by omega)
    · rw [if_neg h, if_neg h, if_neg (by decide)]
      exact ih (j + 1) c n n' (by omega) (by omega) (by omega) (by omega)
theorem e_count {NC : Nat} {X M : x_M} {G H : z_G} {Cd Ch : Nat → Nat → List Int32} (R : z_R NC X M G H Cd Ch) (a1 : Int32) : z_E NC (f_X11_count X a1) (f_X12_count M a1) := by
  obtain ⟨hcl, hrs, hwy⟩ := id R
  obtain ⟨hc, hi, ho, hf, ht⟩ := id hcl
  have hS := hi.1
  unfold z_IS at hS
  obtain ⟨-, -, ⟨w, hw, w1, w2, -⟩, ⟨n, hn, t1, t2, -⟩, -⟩ := id hrs
  unfold f_X11_count f_X12_count
  by_cases h0 : a1 = nI 0
  · simp only [if_pos h0]
    simp (disch := omega) only [z_gf, z_rd, z_g2 hc]
    exact z_same R
  simp only [if_neg h0]
  by_cases h1 : a1 = nI 1
  · simp only [if_pos h1]
    simp (disch := omega) only [z_gf, z_rd, z_g6 hc]
    exact z_same R
  simp only [if_neg h1]
  by_cases h2 : a1 = nI 2
  · simp only [if_pos h2]
    obtain ⟨r, e1, e2⟩ := z_cntW R (G 6 9) 0 0 x_FU x_FU (by omega) (by omega) (by unfold x_FU; omega) (by unfold x_FU; omega)
    unfold f_X3_allWithdrawn
    rw [e1, e2, z_bn]
    exact z_same R
  simp only [if_neg h2]
  by_cases h3 : a1 = nI 3
  · simp only [if_pos h3]
    simp (disch := omega) only [z_gf, z_rd, z_g16 hc]
    exact z_same R
  simp only [if_neg h3]
  by_cases h4 : a1 = nI 4
  · simp only [if_pos h4]
    simp (disch := omega) only [z_gf, z_rd, z_g18a hc]
    exact z_same R
  simp only [if_neg h4]
  by_cases h5 : a1 = nI 5
  · simp only [if_pos h5]
    simp (disch := omega) only [z_gf, z_rd, z_g18b hc]
    exact z_same R
  simp only [if_neg h5]
  by_cases h6 : a1 = nI 6
  · simp only [if_pos h6]
    obtain ⟨r, e1, e2⟩ := z_cntA R (G 18 9) 0 0 x_FU x_FU (by omega) (by omega) (by unfold x_FU; omega) (by unfold x_FU; omega)
    unfold f_X6_allWaiting
    rw [e1, e2, z_bn]
    exact z_same R
  simp only [if_neg h6]
  by_cases h7 : a1 = nI 7
  · simp only [if_pos h7]
    simp (disch := omega) only [z_gf, z_rd, z_g27 hc]
    exact z_same R
  simp only [if_neg h7]
  by_cases h8 : a1 = nI 8
  · simp only [if_pos h8]
    simp (disch := omega) only [z_gf, w1, w2]
    exact z_same R
  simp only [if_neg h8]
  by_cases h9 : a1 = nI 9
  · simp only [if_pos h9]
    simp (disch := omega) only [z_gf, t1, t2]
    exact z_same R
  simp only [if_neg h9]
  by_cases h10 : a1 = nI 10
  · simp only [if_pos h10]
    simp (disch := omega) only [z_gf, z_rd, z_g1 hc]
    exact z_same R
  simp only [if_neg h10]
  exact z_same R
theorem z_layL {NC s many : Nat} {H : z_G} {Cd Ch : Nat → Nat → List Int32} (hs : s < 2) (hm : many ≤ 16) : ∀ (d i n n' : Nat) (X M : x_M) (G : z_G), many = i + d → z_R NC X M G H Cd Ch → many ≤ G 2 3 → (∀ j, j < many → X 86 (16 * s + j) = M 21 (16 * s + j)) → d < n → d < n' → z_E NC (f_X11_lay_45 n X (nI s) (nI many) (nI i)) (f_X12_lay_43 n' M (nI s) (nI many) (nI i)) := by
  intro d
  induction d with
  | zero =>
    intro i n n' X M G hi R hG hv hn hn'
    obtain ⟨n, rfl⟩ : ∃ a, n = a + 1 := ⟨n - 1, by omega⟩
    obtain ⟨n', rfl⟩ : ∃ a, n' = a + 1 := ⟨n' - 1, by omega⟩
    rw [f_X11_lay_45_s, f_X12_lay_43_s]
    simp (disch := omega) only [z_le]
    rw [if_pos (by omega), if_pos (by omega)]
    exact z_same R
  | succ d ih =>
    intro i n n' X M G hi R hG hv hn hn'
    obtain ⟨n, rfl⟩ : ∃ a, n = a + 1 := ⟨n - 1, by omega⟩
    obtain ⟨n', rfl⟩ : ∃ a, n' = a + 1 := ⟨n' - 1, by omega⟩
    have hI := R.1.2.1
    have hS := hI.1
    unfold z_IS at hS
    rw [f_X11_lay_45_s, f_X12_lay_43_s]
    unfold f_X11_lay_92 f_X12_lay_91
    simp (disch := omega) only [z_le, z_mul, z_add, z_rd, z_wi, z_in, z_bn, z_ite]
    simp only [if_neg (show ¬ many ≤ i by omega)]
    rw [show s * 16 + i = 16 * s + i by omega, hv i (by omega)]
    have step : ∀ v : Nat, v ≤ 4095 → z_E NC (x_wr 10 X 4 (nI i) (nI v) (fun M => f_X11_lay_45 n M (nI s) (nI many) (nI (i + 1)))) (x_wr 5512 M 1 (nI (20 + 3 * i + 1)) (nI v) (fun M => f_X12_lay_43 n' M (nI s) (nI many) (nI (i + 1)))) := by
      intro v hv'
      rw [z_wr (by omega) (by omega), z_wr (by omega) (by omega)]
      have R' := z_up1 R 4 i v (x := nI v) (p := 20 + 3 * i + 1) (y := nI v) (by unfold z_ok; exact Or.inr (Or.inr (Or.inl ⟨by omega, by omega, by omega⟩))) (by omega) (z_I_mk hI (by omega)) rfl (by simp only [z_pos]; omega) rfl
      refine ih (i + 1) n n' _ _ _ (by omega) R' (by rw [z_gun (by omega)]; exact hG) (fun j hj => ?_) (by omega) (by omega)
      rw [z_upn (by omega), z_upn (by omega)]
      exact hv j hj
    by_cases h : M 21 (16 * s + i) < nI 0 ∨ nI 4095 < M 21 (16 * s + i)
    · simp only [if_pos h]
      exact step 0 (by omega)
    · simp only [if_neg h]
      obtain ⟨v, -, hv', e⟩ := z_nat h (by decide) (by decide)
      rw [e]
      exact step v hv'
theorem e_lay {NC : Nat} {X M : x_M} {G H : z_G} {Cd Ch : Nat → Nat → List Int32} (R : z_R NC X M G H Cd Ch) (a1 : Int32) : z_E NC (f_X11_lay X a1) (f_X12_lay M a1) := by
  obtain ⟨hcl, hrs, hwy⟩ := id R
  obtain ⟨hc, hi, ho, hf, ht⟩ := id hcl
  have hS := hi.1
  unfold z_IS at hS
  obtain ⟨hk, ⟨s1, s2⟩, hwt, htp, hpl⟩ := id hrs
  have hm := z_g2 hc
  unfold f_X11_lay f_X12_lay f_X11_isSheet f_X12_less
  simp only [z_in, z_wi, z_bn, z_czi, z_ite]
  by_cases h1 : a1 < nI 0 ∨ nI 1 < a1
  · simp only [if_pos h1]
    exact z_same R
  simp only [if_neg h1]
  obtain ⟨k, -, hk1, rfl⟩ := z_nat h1 (by decide) (by decide)
  obtain ⟨q1, q2⟩ := s2 k (by omega)
  simp (disch := omega) only [z_rd, q1, z_gf, hm]
  rcases q2 with q2 | ⟨n, hn, q2, q3⟩
  · rw [q2, if_pos rfl, if_pos rfl]
    exact z_same R
  · rw [q2]
    simp (disch := omega) only [z_nm1, if_false, z_lt, z_le]
    by_cases h : G 2 3 < n
    · rw [if_pos h, if_pos (by omega), z_bn]
      exact z_layL (by omega) (by omega) (G 2 3) 0 _ _ X M G (by omega) R (Nat.le_refl _) (fun j hj => q3 j (by omega)) (by unfold x_FU; omega) (by unfold x_FU; omega)
    · rw [if_neg h]
      by_cases h2 : G 2 3 ≤ n
      · rw [if_pos h2, z_bn, show n = G 2 3 by omega]
        exact z_layL (by omega) (by omega) (G 2 3) 0 _ _ X M G (by omega) R (Nat.le_refl _) (fun j hj => q3 j (by omega)) (by unfold x_FU; omega) (by unfold x_FU; omega)
      · rw [if_neg h2, z_bn]
        exact z_layL (by omega) (by omega) n 0 _ _ X M G (by omega) R (by omega) (fun j hj => q3 j hj) (by unfold x_FU; omega) (by unfold x_FU; omega)
theorem z_shX {s : Nat} {a2 : Int32} (hs : s < 2) : ∀ (d j n : Nat) (X : x_M), 16 = j + d → d < n → ∃ X', f_X11_sheet_33 n X (nI s) a2 (nI j) = some (a2, X') ∧ (∀ k, k ≠ 86 → X' k = X k) ∧ ∀ i, X' 86 i = if 16 * s + j ≤ i ∧ i < 16 * s + 16 then nI 0 else X 86 i := by
  intro d
  induction d with
  | zero =>
    intro j n X hj hn
    obtain ⟨n, rfl⟩ : ∃ a, n = a + 1 := ⟨n - 1, by omega⟩
    rw [f_X11_sheet_33_s]
    simp (disch := omega) only [z_le]
    rw [if_pos (by omega)]
    exact ⟨X, rfl, fun _ _ => rfl, fun i => by rw [if_neg (by omega)]⟩
  | succ d ih =>
    intro j n X hj hn
    obtain ⟨n, rfl⟩ : ∃ a, n = a + 1 := ⟨n - 1, by omega⟩
    rw [f_X11_sheet_33_s]
    simp (disch := omega) only [z_le, z_mul, z_add, z_wr]
    rw [if_neg (by omega)]
    obtain ⟨X', e1, e2, e3⟩ := ih (j + 1) n (x_up X 86 (s * 16 + j) (vp_nar .short (nI 0))) (by omega) (by omega)
    refine ⟨X', e1, fun k hk => by rw [e2 k hk, z_upn hk], fun i => ?_⟩
    rw [e3 i, z_upr]
    by_cases h : i = 16 * s + j
    · subst h
      rw [if_neg (by omega), if_pos (by omega), show s * 16 + j = 16 * s + j by omega, z_us]
      decide
    · by_cases h2 : 16 * s + (j + 1) ≤ i ∧ i < 16 * s + 16
      · rw [if_pos h2, if_pos (by omega)]
      · rw [if_neg h2, if_neg (by omega), z_un (by omega)]
theorem z_shM {s m : Nat} (hs : s < 2) (hm : m ≤ 16) : ∀ (d j n : Nat) (M : x_M), m = j + d → d < n → ∃ M', f_X12_sheet_35 n M (nI s) (nI m) (nI j) = some (nI m, M') ∧ (∀ k, k ≠ 21 → M' k = M k) ∧ ∀ i, M' 21 i = if 16 * s + j ≤ i ∧ i < 16 * s + m then nI 0 else M 21 i := by
  intro d
  induction d with
  | zero =>
    intro j n M hj hn
    obtain ⟨n, rfl⟩ : ∃ a, n = a + 1 := ⟨n - 1, by omega⟩
    rw [f_X12_sheet_35_s]
    simp (disch := omega) only [z_le]
    rw [if_pos (by omega)]
    exact ⟨M, rfl, fun _ _ => rfl, fun i => by rw [if_neg (by omega)]⟩
  | succ d ih =>
    intro j n M hj hn
    obtain ⟨n, rfl⟩ : ∃ a, n = a + 1 := ⟨n - 1, by omega⟩
    rw [f_X12_sheet_35_s]
    simp (disch := omega) only [z_le, z_mul, z_add, z_wr]
    rw [if_neg (by omega)]
    obtain ⟨M', e1, e2, e3⟩ := ih (j + 1) n (x_up M 21 (16 * s + j) (nI 0)) (by omega) (by omega)
    refine ⟨M', e1, fun k hk => by rw [e2 k hk, z_upn hk], fun i => ?_⟩
    rw [e3 i, z_upr]
    by_cases h : i = 16 * s + j
    · subst h
      rw [if_neg (by omega), if_pos (by omega), z_us]
    · by_cases h2 : 16 * s + (j + 1) ≤ i ∧ i < 16 * s + m
      · rw [if_pos h2, if_pos (by omega)]
      · rw [if_neg h2, if_neg (by omega), z_un h]
theorem e_sheet {NC : Nat} {X M : x_M} {G H : z_G} {Cd Ch : Nat → Nat → List Int32} (R : z_R NC X M G H Cd Ch) (a1 a2 : Int32) : z_E NC (f_X11_sheet X a1 a2) (f_X12_sheet M a1 a2) := by
  obtain ⟨hcl, hrs, hwy⟩ := id R
  obtain ⟨hc, hi, ho, hf, ht⟩ := id hcl
  have hS := hi.1
  unfold z_IS at hS
  obtain ⟨hk, ⟨s1, s2⟩, hwt, htp, hpl⟩ := id hrs
  unfold f_X11_sheet f_X12_sheet f_X11_sheet_13 f_X12_sheet_15 f_X11_isSheet
  simp only [z_in, z_wi, z_bn, z_czi, z_ite]
  by_cases h1 : a1 < nI 0 ∨ nI 1 < a1
  · simp only [if_pos h1]
    exact z_same R
  simp only [if_neg h1]
  obtain ⟨k, -, hk1, rfl⟩ := z_nat h1 (by decide) (by decide)
  by_cases h2 : a2 ≤ nI 16
  · simp only [if_pos h2]
    by_cases h3 : 0 ≤ a2
    · simp only [if_pos h3]
      obtain ⟨n, hn, rfl⟩ := nI_of (x := a2) (fun h => by rw [Int32.lt_iff_toInt_lt] at h; rw [Int32.le_iff_toInt_le] at h3; omega)
      have hn : n < 2147483648 := hn
      rw [z_le hn (by decide)] at h2
      simp (disch := omega) only [z_wr]
      obtain ⟨X', x1, x2, x3⟩ := z_shX (s := k) (a2 := nI n) (by omega) 16 0 x_FU (x_up X 87 k (nI n)) (by omega) (by unfold x_FU; omega)
      obtain ⟨M', m1, m2, m3⟩ := z_shM (s := k) (m := n) (by omega) (by omega) n 0 x_FU (x_up M 22 k (nI n)) (by omega) (by unfold x_FU; omega)
      have yX : ∀ q, q ≠ 86 → q ≠ 87 → X' q = X q := fun q q1 q2 => by rw [x2 q q1, z_upn q2]
      have yM : ∀ q, q ≠ 21 → q ≠ 22 → M' q = M q := fun q q1 q2 => by rw [m2 q q1, z_upn q2]
      refine ⟨_, X', M', G, H, Cd, Ch, x1, m1, z_live R (fun q hq => yX q (by omega) (by omega)) (yM 1 (by omega) (by omega)) (z_rs_fr2 hrs (fun q hq => yX q (by omega) (by omega)) (yM 2 (by omega) (by omega)) (by rw [yX 0 (by omega) (by omega)]) (by rw [yM 0 (by omega) (by omega)]) ⟨fun i hi' => ?_, fun i hi' => ?_⟩ (z_wt_fr hwt (by rw [yX 0 (by omega) (by omega)]) (yX 84 (by omega) (by omega)) (by rw [yM 0 (by omega) (by omega)]) (yM 20 (by omega) (by omega))) (z_tp_fr htp (by rw [yX 80 (by omega) (by omega)]) (yX 81 (by omega) (by omega)) (by rw [yM 0 (by omega) (by omega)]) (yM 3 (by omega) (by omega))))⟩
      · rw [x3 i, z_upn (by omega)]
        split
        · decide
        · exact s1 i hi'
      · rw [x2 87 (by omega), m2 22 (by omega), z_upr, z_upr]
        by_cases e : i = k
        · subst e
          rw [z_us, z_us]
          refine ⟨rfl, Or.inr ⟨n, h2, rfl, fun j hj => ?_⟩⟩
          rw [x3, m3, if_pos (by omega), if_pos (by omega)]
        · rw [z_un e, z_un e]
          obtain ⟨p1, p2⟩ := s2 i hi'
          refine ⟨p1, p2.imp (fun h => h) (fun ⟨n', g1, g2, g3⟩ => ⟨n', g1, g2, fun j' hj' => ?_⟩)⟩
          rw [x3, m3, if_neg (by omega), if_neg (by omega), z_upn (by omega), z_upn (by omega)]
          exact g3 j' hj'
    · simp only [if_neg h3]
      exact z_same R
  · simp only [if_neg h2]
    exact z_same R
