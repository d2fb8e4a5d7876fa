/-! ===== cells of the live club ===== -/
theorem z_g1 {X : x_M} {s : Nat → Int32} {G : z_G} (h : z_cr (z_ok G) X 0 s G) : X 1 8 = nI (G 1 8) ∧ s 0 = nI (G 1 8) := (h 1 8 (by unfold z_ok z_okS; omega)).2
theorem z_g2 {X : x_M} {s : Nat → Int32} {G : z_G} (h : z_cr (z_ok G) X 0 s G) : X 2 3 = nI (G 2 3) ∧ s 4 = nI (G 2 3) := (h 2 3 (by unfold z_ok z_okS; omega)).2
theorem z_g6 {X : x_M} {s : Nat → Int32} {G : z_G} (h : z_cr (z_ok G) X 0 s G) : X 6 9 = nI (G 6 9) ∧ s 5 = nI (G 6 9) := (h 6 9 (by unfold z_ok z_okS; omega)).2
theorem z_g16 {X : x_M} {s : Nat → Int32} {G : z_G} (h : z_cr (z_ok G) X 0 s G) : X 16 2 = nI (G 16 2) ∧ s 6 = nI (G 16 2) := (h 16 2 (by unfold z_ok z_okS; omega)).2
theorem z_g18a {X : x_M} {s : Nat → Int32} {G : z_G} (h : z_cr (z_ok G) X 0 s G) : X 18 8 = nI (G 18 8) ∧ s 7 = nI (G 18 8) := (h 18 8 (by unfold z_ok z_okS; omega)).2
theorem z_g18b {X : x_M} {s : Nat → Int32} {G : z_G} (h : z_cr (z_ok G) X 0 s G) : X 18 9 = nI (G 18 9) ∧ s 8 = nI (G 18 9) := (h 18 9 (by unfold z_ok z_okS; omega)).2
theorem z_g27 {X : x_M} {s : Nat → Int32} {G : z_G} (h : z_cr (z_ok G) X 0 s G) : X 27 3 = nI (G 27 3) ∧ s 9 = nI (G 27 3) := (h 27 3 (by unfold z_ok z_okS; omega)).2
theorem z_g3 {X : x_M} {s : Nat → Int32} {G : z_G} (h : z_cr (z_ok G) X 0 s G) {i : Nat} (hi : i < G 2 3) : X 3 i = nI (G 3 i) ∧ s (20 + 3 * i) = nI (G 3 i) := (h 3 i (by unfold z_ok z_okS; omega)).2
theorem z_g4 {X : x_M} {s : Nat → Int32} {G : z_G} (h : z_cr (z_ok G) X 0 s G) {i : Nat} (hi : i < G 2 3) : X 4 i = nI (G 4 i) ∧ s (21 + 3 * i) = nI (G 4 i) := (h 4 i (by unfold z_ok z_okS; omega)).2
theorem z_g5 {X : x_M} {s : Nat → Int32} {G : z_G} (h : z_cr (z_ok G) X 0 s G) {i : Nat} (hi : i < G 2 3) : X 5 i = z_eN (G 5 i) ∧ s (22 + 3 * i) = z_eO (G 5 i) := (h 5 i (by unfold z_ok z_okS; omega)).2
theorem z_g7 {X : x_M} {s : Nat → Int32} {G : z_G} (h : z_cr (z_ok G) X 0 s G) {i : Nat} (hi : i < G 6 9) : X 7 i = nI (G 7 i) ∧ s (50 + 10 * i) = nI (G 7 i) := (h 7 i (by unfold z_ok z_okS; omega)).2
theorem z_g8 {X : x_M} {s : Nat → Int32} {G : z_G} (h : z_cr (z_ok G) X 0 s G) {i : Nat} (hi : i < G 6 9) : X 8 i = nI (G 8 i) ∧ s (51 + 10 * i) = nI (G 8 i) := (h 8 i (by unfold z_ok z_okS; omega)).2
theorem z_g9 {X : x_M} {s : Nat → Int32} {G : z_G} (h : z_cr (z_ok G) X 0 s G) {i : Nat} (hi : i < G 6 9) : X 9 i = nI (G 9 i) ∧ s (52 + 10 * i) = nI (G 9 i) := (h 9 i (by unfold z_ok z_okS; omega)).2
theorem z_g10 {X : x_M} {s : Nat → Int32} {G : z_G} (h : z_cr (z_ok G) X 0 s G) {i : Nat} (hi : i < G 6 9) : X 10 i = nI (G 10 i) ∧ s (53 + 10 * i) = nI (G 10 i) := (h 10 i (by unfold z_ok z_okS; omega)).2
theorem z_g11 {X : x_M} {s : Nat → Int32} {G : z_G} (h : z_cr (z_ok G) X 0 s G) {i : Nat} (hi : i < G 6 9) : X 11 i = z_eN (G 11 i) ∧ s (54 + 10 * i) = z_eO (G 11 i) := (h 11 i (by unfold z_ok z_okS; omega)).2
theorem z_g12 {X : x_M} {s : Nat → Int32} {G : z_G} (h : z_cr (z_ok G) X 0 s G) {i : Nat} (hi : i < G 6 9) : X 12 i = nI (G 12 i) ∧ s (55 + 10 * i) = nI (G 12 i) := (h 12 i (by unfold z_ok z_okS; omega)).2
theorem z_g13 {X : x_M} {s : Nat → Int32} {G : z_G} (h : z_cr (z_ok G) X 0 s G) {i : Nat} (hi : i < G 6 9) : X 13 i = nI (G 13 i) ∧ s (56 + 10 * i) = nI (G 13 i) := (h 13 i (by unfold z_ok z_okS; omega)).2
theorem z_g14 {X : x_M} {s : Nat → Int32} {G : z_G} (h : z_cr (z_ok G) X 0 s G) {i : Nat} (hi : i < G 6 9) : X 14 i = nI (G 14 i) ∧ s (57 + 10 * i) = nI (G 14 i) := (h 14 i (by unfold z_ok z_okS; omega)).2
theorem z_g19 {X : x_M} {s : Nat → Int32} {G : z_G} (h : z_cr (z_ok G) X 0 s G) {i : Nat} (hi : i < G 18 8) : X 19 i = nI (G 19 i) ∧ s (5298 + 5 * i) = nI (G 19 i) := (h 19 i (by unfold z_ok z_okS; omega)).2
theorem z_g20 {X : x_M} {s : Nat → Int32} {G : z_G} (h : z_cr (z_ok G) X 0 s G) {i : Nat} (hi : i < G 18 8) : X 20 i = nI (G 20 i) ∧ s (5299 + 5 * i) = nI (G 20 i) := (h 20 i (by unfold z_ok z_okS; omega)).2
theorem z_g21 {X : x_M} {s : Nat → Int32} {G : z_G} (h : z_cr (z_ok G) X 0 s G) {i : Nat} (hi : i < G 18 8) : X 21 i = nI (G 21 i) ∧ s (5300 + 5 * i) = nI (G 21 i) := (h 21 i (by unfold z_ok z_okS; omega)).2
theorem z_g22 {X : x_M} {s : Nat → Int32} {G : z_G} (h : z_cr (z_ok G) X 0 s G) {i : Nat} (hi : i < G 18 8) : X 22 i = nI (G 22 i) ∧ s (5302 + 5 * i) = nI (G 22 i) := (h 22 i (by unfold z_ok z_okS; omega)).2
theorem z_g23 {X : x_M} {s : Nat → Int32} {G : z_G} (h : z_cr (z_ok G) X 0 s G) {i : Nat} (hi : i < G 18 9) : X 23 i = nI (G 23 i) ∧ s (5338 + 5 * i) = nI (G 23 i) := (h 23 i (by unfold z_ok z_okS; omega)).2
theorem z_g24 {X : x_M} {s : Nat → Int32} {G : z_G} (h : z_cr (z_ok G) X 0 s G) {i : Nat} (hi : i < G 18 9) : X 24 i = nI (G 24 i) ∧ s (5339 + 5 * i) = nI (G 24 i) := (h 24 i (by unfold z_ok z_okS; omega)).2
theorem z_g25 {X : x_M} {s : Nat → Int32} {G : z_G} (h : z_cr (z_ok G) X 0 s G) {i : Nat} (hi : i < G 18 9) : X 25 i = nI (G 25 i) ∧ s (5340 + 5 * i) = nI (G 25 i) := (h 25 i (by unfold z_ok z_okS; omega)).2
theorem z_g26 {X : x_M} {s : Nat → Int32} {G : z_G} (h : z_cr (z_ok G) X 0 s G) {i : Nat} (hi : i < G 18 9) : X 26 i = z_eN (G 26 i) ∧ s (5342 + 5 * i) = z_eO (G 26 i) := (h 26 i (by unfold z_ok z_okS; omega)).2
theorem z_g28 {X : x_M} {s : Nat → Int32} {G : z_G} (h : z_cr (z_ok G) X 0 s G) {i : Nat} (hi : i < G 27 3) : X 28 i = nI (G 28 i) ∧ s (5488 + 3 * i) = nI (G 28 i) := (h 28 i (by unfold z_ok z_okS; omega)).2
theorem z_g29 {X : x_M} {s : Nat → Int32} {G : z_G} (h : z_cr (z_ok G) X 0 s G) {i : Nat} (hi : i < G 27 3) : X 29 i = nI (G 29 i) ∧ s (5489 + 3 * i) = nI (G 29 i) := (h 29 i (by unfold z_ok z_okS; omega)).2
theorem z_g30 {X : x_M} {s : Nat → Int32} {G : z_G} (h : z_cr (z_ok G) X 0 s G) {i : Nat} (hi : i < G 27 3) : X 30 i = nI (G 30 i) ∧ s (5490 + 3 * i) = nI (G 30 i) := (h 30 i (by unfold z_ok z_okS; omega)).2
theorem z_g31 {X : x_M} {s : Nat → Int32} {G : z_G} (h : z_cr (z_ok G) X 0 s G) {i : Nat} (hi : i < 3) : X 31 i = nI (G 31 i) ∧ s (1 + i) = nI (G 31 i) := (h 31 i (by unfold z_ok z_okS; omega)).2
theorem z_g32 {X : x_M} {s : Nat → Int32} {G : z_G} (h : z_cr (z_ok G) X 0 s G) {i : Nat} (hi : 1 ≤ i ∧ i < 4) : X 32 i = nI (G 32 i) ∧ s (8 + 2 * i) = nI (G 32 i) := (h 32 i (by unfold z_ok z_okS; omega)).2
theorem z_g33 {X : x_M} {s : Nat → Int32} {G : z_G} (h : z_cr (z_ok G) X 0 s G) {i : Nat} (hi : 1 ≤ i ∧ i < 4) : X 33 i = nI (G 33 i) ∧ s (9 + 2 * i) = nI (G 33 i) := (h 33 i (by unfold z_ok z_okS; omega)).2
theorem z_orN {M : x_M} {v : Nat} (h : v < 1000000) : f_X12_orNone M (z_eO v) = some (z_eN v, M) := by
  unfold f_X12_orNone z_eO z_eN
  by_cases h0 : v = 0
  · simp [h0]
  · simp (disch := omega) only [if_neg h0, z_nm1, if_false]
theorem z_ok_up {G : z_G} {k i v : Nat} (hn : k ≠ 2 ∧ k ≠ 6 ∧ k ≠ 18 ∧ k ≠ 27) : z_ok (z_gu G k i v) = z_ok G := by
  unfold z_ok
  simp (disch := omega) only [z_gun]
/-- one value of the live club becomes another -/
theorem z_cl_up {NC : Nat} {X : x_M} {s : Nat → Int32} {G : z_G} {Cd : Nat → Nat → List Int32} (h : z_cl NC X 0 s G Cd) (k i v : Nat) {p : Nat} {x y : Int32} (hk : z_ok G k i) (hn : k ≠ 2 ∧ k ≠ 6 ∧ k ≠ 9 ∧ k ≠ 16 ∧ k ≠ 18 ∧ k ≠ 26 ∧ k ≠ 27) (hI : z_I (z_gu G k i v)) (hx : x = z_eX k v) (hp : p = z_pos k i) (hy : y = z_eM k v) : z_cl NC (x_up X k i x) 0 (upd s p y) (z_gu G k i v) Cd := by
  obtain ⟨h1, h2, h3, h4, h5⟩ := h
  have hb := (h1 k i hk).1
  have hlt := z_pos_lt hb
  have hk33 : k ≤ 33 ∧ k ≠ 15 ∧ k ≠ 17 := by unfold z_bd z_okS at hb; omega
  refine ⟨?_, hI, ?_, ?_, ?_⟩
  · rw [z_ok_up (by omega)]
    refine z_cr_sub (z_cr_up h1 k i v hb rfl hx hp hy) (fun k' i' h' => Or.inl h')
  · intro j hj
    rw [z_gun (by omega)] at hj
    rw [z_upn (by omega)]
    have e1 : (z_gu G k i v) 9 = G 9 := by
      funext j
      rw [z_gun (by omega)]
    rw [e1, z_gun (by omega)]
    exact h3 j hj
  · intro j hj
    rw [z_gun (by omega)] at hj
    have h6 : G 18 9 ≤ 30 := h2.1.2.2.2.2.2.1
    rw [z_gun (by omega), z_un]
    · exact h4 j hj
    · intro e2
      have e3 := z_inv_pos hb
      rw [← hp, ← e2] at e3
      have e4 : z_inv (5341 + 5 * j) = (22 + 4, j) ∨ (z_inv (5341 + 5 * j)).1 = 26 ∨ z_inv (5341 + 5 * j) = (23 + 3, j) := by
        unfold z_inv
        rw [if_neg (by omega), if_neg (by omega), if_neg (by omega), if_neg (by omega), if_neg (by omega), if_neg (by omega), if_neg (by omega), if_neg (by omega), if_neg (by omega), if_neg (by omega), if_neg (by omega), if_neg (by omega), if_pos (by omega), if_neg (by omega)]
        right; left
        show 23 + (5341 + 5 * j - 5338) % 5 = 26
        omega
      rw [e3] at e4
      rcases e4 with e4 | e4 | e4
      · have := (Prod.mk.inj e4).1
        omega
      · have e5 : k = 26 := e4
        omega
      · have := (Prod.mk.inj e4).1
        omega
  · refine z_ter_fr h5 (fun k' hk' => z_upn (by omega)) (fun p' h6 h7 => z_un (by omega)) (z_gun (by omega)) (fun i' => z_gun (by omega)) h2.1.2.2.2.1 (z_ter_len h5)
theorem z_wy_fr {X X' : x_M} {G G' : z_G} (h : z_wy X G) (h1 : X' 78 = X 78) (h2 : X' 79 = X 79) (h3 : G' 27 3 = G 27 3) (h4 : ∀ i, G' 28 i = G 28 i ∧ G' 29 i = G 29 i ∧ G' 30 i = G 30 i) : z_wy X' G' := by
  have e : ∀ d, zw_F G' d = zw_F G d := by
    intro d
    induction d with
    | zero => rfl
    | succ d ih =>
      funext n
      simp only [zw_F, zw_W, ih, (h4 _).1, (h4 _).2.1, (h4 _).2.2]
  unfold z_wy at h ⊢
  rw [h1, h2, h3]
  simp only [e]
  exact h
theorem z_I_mk {G : z_G} {k i v : Nat} (h : z_I G) (hk : (k = 3 ∧ v ≤ 3) ∨ (k = 4 ∧ v ≤ 4095) ∨ (k = 5 ∧ v ≤ 3)) : z_I (z_gu G k i v) := by
  have e : ∀ k' i', (k' ≠ 3 ∧ k' ≠ 4 ∧ k' ≠ 5) → z_gu G k i v k' i' = G k' i' := fun k' i' h' => z_gun (by omega)
  obtain ⟨h1, h2, h3, h4, h5, h6, h7⟩ := h
  unfold z_I z_IS z_IL z_IF z_IA z_IO
  unfold z_IS at h1
  unfold z_IL at h4
  unfold z_IF at h5
  unfold z_IA at h6
  unfold z_IO at h7
  simp (disch := omega) only [e]
  refine ⟨h1, h2, fun j hj => ?_, h4, h5, h6, h7⟩
  obtain ⟨g1, g2, g3⟩ := h3 j hj
  unfold z_IM z_gu
  refine ⟨?_, ?_, ?_⟩ <;> split <;> omega
/-- one value of the live club becomes another, of both sides -/
theorem z_up1 {NC : Nat} {X M : x_M} {G H : z_G} {Cd Ch : Nat → Nat → List Int32} (R : z_R NC X M G H Cd Ch) (k i v : Nat) {p : Nat} {x y : Int32} (hk : z_ok G k i) (hn : k ≠ 2 ∧ k ≠ 6 ∧ k ≠ 9 ∧ k ≠ 16 ∧ k ≠ 18 ∧ k ≠ 26 ∧ (k < 27 ∨ 30 < k)) (hI : z_I (z_gu G k i v)) (hx : x = z_eX k v) (hp : p = z_pos k i) (hy : y = z_eM k v) : z_R NC (x_up X k i x) (x_up M 1 p y) (z_gu G k i v) H Cd Ch := by
  obtain ⟨hcl, hrs, hwy⟩ := R
  have hb := (hcl.1 k i hk).1
  have hk33 : 1 ≤ k ∧ k ≤ 33 := by unfold z_bd z_okS at hb; omega
  refine ⟨?_, z_rs_fr hrs (fun k' hk' => z_upn (by omega)) (fun k' hk' => z_upn hk'), z_wy_fr hwy (z_upn (by omega)) (z_upn (by omega)) (z_gun (by omega)) (fun i => ⟨z_gun (by omega), z_gun (by omega), z_gun (by omega)⟩)⟩
  rw [z_upr]
  exact z_cl_up hcl k i v hk (by omega) hI hx hp hy
theorem e_pool {NC : Nat} {X M : x_M} {G H : z_G} {Cd Ch : Nat → Nat → List Int32} (R : z_R NC X M G H Cd Ch) (a1 a2 : Int32) : z_E NC (f_X11_pool X a1 a2) (f_X12_pool M a1 a2) := by
  obtain ⟨hcl, hrs, hwy⟩ := id R
  obtain ⟨hc, hi, ho, hf, ht⟩ := id hcl
  have hS := hi.1
  unfold z_IS at hS
  have hm := z_g2 hc
  unfold f_X11_pool f_X12_pool f_X11_pool_23 f_X12_pool_23 f_X11_isMember f_X12_isMember
  simp (disch := omega) only [z_gf, z_rd, hm, z_in, z_wi, z_bn, z_czi, z_ite]
  by_cases h1 : a1 < nI 0 ∨ nI (G 2 3) - nI 1 < a1
  · simp only [if_pos h1]
    exact z_same R
  simp only [if_neg h1]
  obtain ⟨k, hk, rfl⟩ := z_natm h1 (by omega)
  have key : ∀ (v : Nat) (x y : Int32), v ≤ 3 → x = z_eN v → y = z_eO v → z_E NC (x_rd 10 (X 5) (nI k) (fun r37 => x_wr 10 X 5 (nI k) x (fun M => some (r37, M)))) (x_rd 5512 (M 1) (((nI 20) + ((nI 3) * (nI k))) + (nI 2)) (fun r40 => f_X12_pool_59 M r40 (((nI 20) + ((nI 3) * (nI k))) + (nI 2)) y)) := by
    intro v x y hv hx hy
    obtain ⟨g1, g2⟩ := z_g5 hc hk
    have g3 := (hi.2.2.1 k hk).2.2
    unfold f_X12_pool_59
    simp (disch := omega) only [z_add, z_mul, z_rd, z_wr]
    rw [show 20 + 3 * k + 2 = 22 + 3 * k by omega, g1, g2]
    simp (disch := omega) only [z_orN, z_bn]
    exact ⟨_, _, _, z_gu G 5 k v, H, Cd, Ch, rfl, rfl, z_up1 R 5 k v (by unfold z_ok z_okS; omega) (by omega) (z_I_mk hi (by omega)) hx rfl hy⟩
  by_cases h2 : a2 = -1000000005
  · subst h2
    simp only [if_true]
    unfold f_X11_pool_26 f_X12_pool_26
    simp only [if_true]
    exact key 0 _ _ (by decide) rfl rfl
  · simp only [if_neg h2]
    by_cases h3 : a2 < nI 0 ∨ nI 2 < a2
    · simp only [if_pos h3]
      exact z_same R
    simp only [if_neg h3]
    obtain ⟨v, -, hv, rfl⟩ := z_nat h3 (by decide) (by decide)
    unfold f_X11_pool_26 f_X12_pool_26
    simp only [if_neg h2]
    exact key (v + 1) _ _ (by omega) (by simp [z_eN]) (by simp [z_eO])
