/-! ===== brought, owes ===== -/
theorem z_R_l {NC : Nat} {X M X' M' : x_M} {G H : z_G} {Cd Ch : Nat → Nat → List Int32} (R : z_R NC X M G H Cd Ch) (hX : z_lx X X') (hM : z_lw M M') : z_R NC X' M' G H Cd Ch := by
  obtain ⟨hcl, hrs, hwy⟩ := R
  refine ⟨?_, ?_, z_wy_fr hwy (hX 78 (by omega)) (hX 79 (by omega)) rfl (fun _ => ⟨rfl, rfl, rfl⟩)⟩
  · rw [hM.1 1 (by omega) (by omega)]
    exact z_cl_fr hcl (fun k hk => hX k (by omega)) (fun _ _ => rfl)
  · exact z_rs_fr2 hrs (fun k hk => hX k (by omega)) (hM.1 2 (by omega) (by omega)) (by rw [hX 0 (by omega)]) (hM.2 2 (by omega)) (z_sh_fr hrs.2.1 (hX 86 (by omega)) (hX 87 (by omega)) (hM.1 21 (by omega) (by omega)) (hM.1 22 (by omega) (by omega))) (z_wt_fr hrs.2.2.1 (by rw [hX 0 (by omega)]) (hX 84 (by omega)) (hM.2 35 (by omega)) (hM.1 20 (by omega) (by omega))) (z_tp_fr hrs.2.2.2.1 (by rw [hX 80 (by omega)]) (hX 81 (by omega)) (hM.2 4 (by omega)) (hM.1 3 (by omega) (by omega)))
theorem z_R_K {NC : Nat} {X M : x_M} {G H : z_G} {Cd Ch : Nat → Nat → List Int32} (R : z_R NC X M G H Cd Ch) : z_K NC X M G Cd := ⟨R.1, R.2.1.2.2.2.2⟩
theorem e_brought {NC : Nat} {X M : x_M} {G H : z_G} {Cd Ch : Nat → Nat → List Int32} (R : z_R NC X M G H Cd Ch) (a1 a2 a3 : Int32) : z_E NC (f_X11_brought NC X a1 a2 a3) (f_X12_brought M a1 a2 a3) := by
  obtain ⟨hcl, hrs, hwy⟩ := id R
  obtain ⟨hc, hi, ho, hf, ht⟩ := id hcl
  have hS := hi.1
  unfold z_IS at hS
  have K := z_R_K R
  have hm := z_g6 hc
  unfold f_X11_brought f_X12_brought f_X11_brought_22 f_X12_brought_22 f_X11_brought_56 f_X12_brought_52 f_X11_isLine f_X12_isLine f_X11_isDay f_X12_isDay
  simp (disch := omega) only [z_gf, z_rd, hm, z_in, z_wi, z_bn, z_czi, z_ite]
  by_cases h1 : a1 < nI 0 ∨ nI (G 6 9) - nI 1 < a1
  · simp only [if_pos h1]
    exact z_same R
  simp only [if_neg h1]
  by_cases h2 : a2 < nI 0 ∨ nI 1200 < a2
  · simp only [if_pos h2]
    exact z_same R
  simp only [if_neg h2]
  by_cases h3 : a3 < nI 0 ∨ nI 1200 < a3
  · simp only [if_pos h3]
    exact z_same R
  simp only [if_neg h3]
  obtain ⟨l, hl, rfl⟩ := z_natm h1 (by omega)
  obtain ⟨day, -, hd, rfl⟩ := z_nat h2 (by decide) (by decide)
  obtain ⟨known, -, hk, rfl⟩ := z_nat h3 (by decide) (by decide)
  have I := hi.2.2.2.1 l hl
  unfold z_IL at I
  rw [z_knX K hl hk, z_knM K hl hk, z_bn, z_bn]
  by_cases c : z_kn G known l = true
  · rw [if_pos c, if_neg z_n10, if_neg z_n10, z_mul, z_add, z_add, z_rd (by omega) (by omega), z_rd (by omega) (by omega), show 50 + 10 * l + 2 = 52 + 10 * l by omega, (z_g9 hc hl).1, (z_g9 hc hl).2]
    by_cases c2 : G 9 l ≤ day
    · rw [if_pos (by rw [z_le (by omega) (by omega)]; exact c2), if_pos (by rw [z_le (by omega) (by omega)]; exact c2)]
      obtain ⟨X', b1, b2, b3⟩ := z_goX K hd hk
      obtain ⟨M', d1, d2, d3⟩ := z_goM K hd hk
      rw [b1, d1, z_bn, z_bn, z_rd (by omega) (by omega), z_rd (by omega) (by omega), (b2.2.2.2 l (by omega)).1, (d2.2.2.2 l hl).1]
      exact z_same (z_R_l R b3 d3)
    · rw [if_neg (by rw [z_le (by omega) (by omega)]; exact c2), if_neg (by rw [z_le (by omega) (by omega)]; exact c2)]
      exact z_same R
  · rw [if_neg c, if_pos z_n00, if_pos z_n00]
    exact z_same R
theorem e_owes {NC : Nat} {X M : x_M} {G H : z_G} {Cd Ch : Nat → Nat → List Int32} (R : z_R NC X M G H Cd Ch) (a1 a2 a3 : Int32) : z_E NC (f_X11_owes NC X a1 a2 a3) (f_X12_owes M a1 a2 a3) := by
  obtain ⟨hcl, hrs, hwy⟩ := id R
  obtain ⟨hc, hi, ho, hf, ht⟩ := id hcl
  have hS := hi.1
  unfold z_IS at hS
  have K := z_R_K R
  unfold f_X11_owes f_X12_owes f_X11_owes_23 f_X12_owes_23 f_X11_isDay f_X12_isDay
  simp (disch := omega) only [z_in, z_wi, z_bn, z_czi, z_ite]
  by_cases h1 : a1 < nI 1 ∨ nI 3 < a1
  · simp only [if_pos h1]
    exact z_same R
  simp only [if_neg h1]
  by_cases h2 : a2 < nI 0 ∨ nI 1200 < a2
  · simp only [if_pos h2]
    exact z_same R
  simp only [if_neg h2]
  by_cases h3 : a3 < nI 0 ∨ nI 1200 < a3
  · simp only [if_pos h3]
    exact z_same R
  simp only [if_neg h3]
  obtain ⟨p, hp1, hp, rfl⟩ := z_nat h1 (by decide) (by decide)
  obtain ⟨day, -, hd, rfl⟩ := z_nat h2 (by decide) (by decide)
  obtain ⟨known, -, hk, rfl⟩ := z_nat h3 (by decide) (by decide)
  obtain ⟨X', b1, b2, b3⟩ := z_goX K hd hk
  obtain ⟨M', d1, d2, d3⟩ := z_goM K hd hk
  have R' := z_R_l R b3 d3
  have q32 := z_g32 R'.1.1 (show 1 ≤ p ∧ p < 4 by omega)
  have q33 := z_g33 R'.1.1 (show 1 ≤ p ∧ p < 4 by omega)
  rw [b1, d1, z_bn, z_bn]
  simp (disch := omega) only [z_rd, z_mul, z_add, z_sub]
  rw [show 10 + 2 * p - 2 = 8 + 2 * p by omega, show 10 + 2 * p - 1 = 9 + 2 * p by omega, q32.1, q32.2, q33.1, q33.2, (b2.2.2.1 p (by omega)).1, (b2.2.2.1 p (by omega)).2, (d2.2.2.1 p (by omega)).1, (d2.2.2.1 p (by omega)).2]
  unfold x_dl
  rw [if_neg (by decide), if_neg (by decide), if_neg (by decide), if_neg (by decide)]
  exact z_same R'
