/-! ===== calls that add a MEMBER, a FLIGHT, an ASK, an OFFER ===== -/
theorem z_junk {k i : Nat} (h : z_bd k i) : (∀ F, z_pos k i ≠ 5301 + 5 * F ∨ 8 ≤ F) ∧ ∀ A, z_pos k i ≠ 5341 + 5 * A ∨ 30 ≤ A := by
  have hk : k < 34 := by unfold z_bd z_okS at h; omega
  have key : ∀ k', k' = k → (∀ F, z_pos k i ≠ 5301 + 5 * F ∨ 8 ≤ F) ∧ ∀ A, z_pos k i ≠ 5341 + 5 * A ∨ 30 ≤ A := by
    intro k' e
    match k', e with
    | 0, e => subst e; unfold z_bd z_okS at h; omega
    | 1, e =>
      subst e
      simp only [z_pos]
      unfold z_bd z_okS at h
      exact ⟨fun F => by omega, fun A => by omega⟩
    | 2, e =>
      subst e
      simp only [z_pos]
      unfold z_bd z_okS at h
      exact ⟨fun F => by omega, fun A => by omega⟩
    | 3, e =>
      subst e
      simp only [z_pos]
      unfold z_bd z_okS at h
      exact ⟨fun F => by omega, fun A => by omega⟩
    | 4, e =>
      subst e
      simp only [z_pos]
      unfold z_bd z_okS at h
      exact ⟨fun F => by omega, fun A => by omega⟩
    | 5, e =>
      subst e
      simp only [z_pos]
      unfold z_bd z_okS at h
      exact ⟨fun F => by omega, fun A => by omega⟩
    | 6, e =>
      subst e
      simp only [z_pos]
      unfold z_bd z_okS at h
      exact ⟨fun F => by omega, fun A => by omega⟩
    | 7, e =>
      subst e
      simp only [z_pos]
      unfold z_bd z_okS at h
      exact ⟨fun F => by omega, fun A => by omega⟩
    | 8, e =>
      subst e
      simp only [z_pos]
      unfold z_bd z_okS at h
      exact ⟨fun F => by omega, fun A => by omega⟩
    | 9, e =>
      subst e
      simp only [z_pos]
      unfold z_bd z_okS at h
      exact ⟨fun F => by omega, fun A => by omega⟩
    | 10, e =>
      subst e
      simp only [z_pos]
      unfold z_bd z_okS at h
      exact ⟨fun F => by omega, fun A => by omega⟩
    | 11, e =>
      subst e
      simp only [z_pos]
      unfold z_bd z_okS at h
      exact ⟨fun F => by omega, fun A => by omega⟩
    | 12, e =>
      subst e
      simp only [z_pos]
      unfold z_bd z_okS at h
      exact ⟨fun F => by omega, fun A => by omega⟩
    | 13, e =>
      subst e
      simp only [z_pos]
      unfold z_bd z_okS at h
      exact ⟨fun F => by omega, fun A => by omega⟩
    | 14, e =>
      subst e
      simp only [z_pos]
      unfold z_bd z_okS at h
      exact ⟨fun F => by omega, fun A => by omega⟩
    | 15, e => subst e; unfold z_bd z_okS at h; omega
    | 16, e =>
      subst e
      simp only [z_pos]
      unfold z_bd z_okS at h
      exact ⟨fun F => by omega, fun A => by omega⟩
    | 17, e => subst e; unfold z_bd z_okS at h; omega
    | 18, e =>
      subst e
      simp only [z_pos]
      unfold z_bd z_okS at h
      exact ⟨fun F => by omega, fun A => by omega⟩
    | 19, e =>
      subst e
      simp only [z_pos]
      unfold z_bd z_okS at h
      exact ⟨fun F => by omega, fun A => by omega⟩
    | 20, e =>
      subst e
      simp only [z_pos]
      unfold z_bd z_okS at h
      exact ⟨fun F => by omega, fun A => by omega⟩
    | 21, e =>
      subst e
      simp only [z_pos]
      unfold z_bd z_okS at h
      exact ⟨fun F => by omega, fun A => by omega⟩
    | 22, e =>
      subst e
      simp only [z_pos]
      unfold z_bd z_okS at h
      exact ⟨fun F => by omega, fun A => by omega⟩
    | 23, e =>
      subst e
      simp only [z_pos]
      unfold z_bd z_okS at h
      exact ⟨fun F => by omega, fun A => by omega⟩
    | 24, e =>
      subst e
      simp only [z_pos]
      unfold z_bd z_okS at h
      exact ⟨fun F => by omega, fun A => by omega⟩
    | 25, e =>
      subst e
      simp only [z_pos]
      unfold z_bd z_okS at h
      exact ⟨fun F => by omega, fun A => by omega⟩
    | 26, e =>
      subst e
      simp only [z_pos]
      unfold z_bd z_okS at h
      exact ⟨fun F => by omega, fun A => by omega⟩
    | 27, e =>
      subst e
      simp only [z_pos]
      unfold z_bd z_okS at h
      exact ⟨fun F => by omega, fun A => by omega⟩
    | 28, e =>
      subst e
      simp only [z_pos]
      unfold z_bd z_okS at h
      exact ⟨fun F => by omega, fun A => by omega⟩
    | 29, e =>
      subst e
      simp only [z_pos]
      unfold z_bd z_okS at h
      exact ⟨fun F => by omega, fun A => by omega⟩
    | 30, e =>
      subst e
      simp only [z_pos]
      unfold z_bd z_okS at h
      exact ⟨fun F => by omega, fun A => by omega⟩
    | 31, e =>
      subst e
      simp only [z_pos]
      unfold z_bd z_okS at h
      exact ⟨fun F => by omega, fun A => by omega⟩
    | 32, e =>
      subst e
      simp only [z_pos]
      unfold z_bd z_okS at h
      exact ⟨fun F => by omega, fun A => by omega⟩
    | 33, e =>
      subst e
      simp only [z_pos]
      unfold z_bd z_okS at h
      exact ⟨fun F => by omega, fun A => by omega⟩
    | n + 34, e => omega
  exact key k rfl
theorem z_cr_jk {ok : Nat → Nat → Prop} {X : x_M} {o : Nat} {s : Nat → Int32} {G : z_G} (h : z_cr ok X o s G) {p : Nat} {y : Int32} (hp : ∀ k i, z_bd k i → z_pos k i ≠ p) : z_cr ok X o (upd s p y) G := fun k i h' => by
  obtain ⟨h1, h2, h3⟩ := h k i h'
  exact ⟨h1, h2, by rw [z_un (hp k i h1)]; exact h3⟩
theorem z_okS_g {m L F A O m' F' A' O' k i : Nat} (h : z_okS m' L F' A' O' k i) (hm : m ≤ m') (hF : F ≤ F') (hA : A ≤ A') (hO : O ≤ O') : z_okS m L F A O k i ∨ (3 ≤ k ∧ k ≤ 5 ∧ m ≤ i ∧ i < m') ∨ (19 ≤ k ∧ k ≤ 22 ∧ F ≤ i ∧ i < F') ∨ (23 ≤ k ∧ k ≤ 26 ∧ A ≤ i ∧ i < A') ∨ (28 ≤ k ∧ k ≤ 30 ∧ O ≤ i ∧ i < O') := by
  unfold z_okS at h ⊢
  rcases h with h | h | h | h | h | h | h | h | h | h | h | h | h
  · exact Or.inl (Or.inl h)
  · exact Or.inl (Or.inr (Or.inl h))
  · by_cases hi : i < m
    · exact Or.inl (Or.inr (Or.inr (Or.inl (by omega))))
    · exact Or.inr (Or.inl (by omega))
  · exact Or.inl (Or.inr (Or.inr (Or.inr (Or.inl h))))
  · exact Or.inl (Or.inr (Or.inr (Or.inr (Or.inr (Or.inl h)))))
  · exact Or.inl (Or.inr (Or.inr (Or.inr (Or.inr (Or.inr (Or.inl h))))))
  · exact Or.inl (Or.inr (Or.inr (Or.inr (Or.inr (Or.inr (Or.inr (Or.inl h)))))))
  · by_cases hi : i < F
    · exact Or.inl (Or.inr (Or.inr (Or.inr (Or.inr (Or.inr (Or.inr (Or.inr (Or.inl (by omega)))))))))
    · exact Or.inr (Or.inr (Or.inl (by omega)))
  · by_cases hi : i < A
    · exact Or.inl (Or.inr (Or.inr (Or.inr (Or.inr (Or.inr (Or.inr (Or.inr (Or.inr (Or.inl (by omega))))))))))
    · exact Or.inr (Or.inr (Or.inr (Or.inl (by omega))))
  · exact Or.inl (Or.inr (Or.inr (Or.inr (Or.inr (Or.inr (Or.inr (Or.inr (Or.inr (Or.inr (Or.inl h))))))))))
  · by_cases hi : i < O
    · exact Or.inl (Or.inr (Or.inr (Or.inr (Or.inr (Or.inr (Or.inr (Or.inr (Or.inr (Or.inr (Or.inr (Or.inl (by omega))))))))))))
    · exact Or.inr (Or.inr (Or.inr (Or.inr (by omega))))
  · exact Or.inl (Or.inr (Or.inr (Or.inr (Or.inr (Or.inr (Or.inr (Or.inr (Or.inr (Or.inr (Or.inr (Or.inr (Or.inl h))))))))))))
  · exact Or.inl (Or.inr (Or.inr (Or.inr (Or.inr (Or.inr (Or.inr (Or.inr (Or.inr (Or.inr (Or.inr (Or.inr (Or.inr h))))))))))))
theorem z_oft {NC : Nat} {X X' : x_M} {s s' : Nat → Int32} {G G' : z_G} {Cd : Nat → Nat → List Int32} (h : z_cl NC X 0 s G Cd) (hX : ∀ k, k = 15 ∨ k = 17 ∨ 88 ≤ k → X' k = X k) (hs : ∀ p, (1050 ≤ p ∧ p < 5298) ∨ (5338 ≤ p ∧ p < 5488) → s' p = s p) (hG : ∀ k i, (k = 6 ∧ i = 9) ∨ k = 9 ∨ k = 16 ∨ k = 34 ∨ k = 26 ∨ (k = 18 ∧ i = 9) → G' k i = G k i) : z_or X' 0 G' ∧ z_fl s' G' ∧ z_ter NC X' 0 s' G' Cd := by
  obtain ⟨h1, h2, h3, h4, h5⟩ := h
  have h6 : G 18 9 ≤ 30 := h2.1.2.2.2.2.2.1
  refine ⟨fun i hi => ?_, fun i hi => ?_, z_ter_fr h5 (fun k hk => hX k (by omega)) (fun p h1 h2 => hs p (Or.inl ⟨h1, h2⟩)) (hG 16 2 (by omega)) (fun i => hG 34 i (by omega)) h2.1.2.2.2.1 (z_ter_len h5)⟩
  · rw [hG 6 9 (by omega)] at hi ⊢
    have e : G' 9 = G 9 := by
      funext j
      exact hG 9 j (by omega)
    rw [e, hX 15 (by omega)]
    exact h3 i hi
  · rw [hG 18 9 (by omega)] at hi
    rw [hG 26 i (by omega), hs _ (Or.inr (by omega))]
    exact h4 i hi
theorem e_member {NC : Nat} {X M : x_M} {G H : z_G} {Cd Ch : Nat → Nat → List Int32} (R : z_R NC X M G H Cd Ch) (a1 a2 : Int32) : z_E NC (f_X11_member X a1 a2) (f_X12_member M a1 a2) := by
  obtain ⟨hcl, hrs, hwy⟩ := id R
  obtain ⟨hc, hi, ho, hf, ht⟩ := id hcl
  have hS := hi.1
  unfold z_IS at hS
  have hm := z_g2 hc
  unfold f_X11_member f_X12_member f_X11_member_20 f_X12_member_20 f_X4_enrol
  simp only [z_in, z_wi, z_bn, z_ite, z_bnid]
  by_cases h1 : a1 < nI 0 ∨ nI 3 < a1
  · simp only [if_pos h1]
    exact z_same R
  simp only [if_neg h1]
  by_cases h2 : a2 < nI 0 ∨ nI 4095 < a2
  · simp only [if_pos h2]
    exact z_same R
  simp only [if_neg h2]
  obtain ⟨v1, -, k1, rfl⟩ := z_nat h1 (by decide) (by decide)
  obtain ⟨v2, -, k2, rfl⟩ := z_nat h2 (by decide) (by decide)
  generalize hmm : G 2 3 = m at *
  simp (disch := omega) only [z_gf, z_rd, hm, z_lt, z_eq]
  by_cases h3 : m = 10
  · rw [if_neg (by omega), if_pos h3]
    exact z_same R
  rw [if_pos (by omega), if_neg h3]
  simp (disch := omega) only [z_add, z_mul, z_wr, z_upn, hm, z_pf, z_upr, z_us, z_un, z_rd, z_sub]
  have hG : ∀ k i, ¬ (k = 2 ∧ i = 3) → ¬ (3 ≤ k ∧ k ≤ 5 ∧ i = m) → z_gu (z_gu (z_gu (z_gu G 3 m v1) 4 m v2) 5 m 0) 2 3 (m + 1) k i = G k i := by
    intro k i q1 q2
    rw [z_gun (by omega), z_gun (by omega), z_gun (by omega), z_gun (by omega)]
  have n0 : z_gu (z_gu (z_gu (z_gu G 3 m v1) 4 m v2) 5 m 0) 2 3 (m + 1) 2 3 = m + 1 := z_gus
  have n3 : z_gu (z_gu (z_gu (z_gu G 3 m v1) 4 m v2) 5 m 0) 2 3 (m + 1) 3 m = v1 := by rw [z_gun (by omega), z_gun (by omega), z_gun (by omega), z_gus]
  have n4 : z_gu (z_gu (z_gu (z_gu G 3 m v1) 4 m v2) 5 m 0) 2 3 (m + 1) 4 m = v2 := by rw [z_gun (by omega), z_gun (by omega), z_gus]
  have n5 : z_gu (z_gu (z_gu (z_gu G 3 m v1) 4 m v2) 5 m 0) 2 3 (m + 1) 5 m = 0 := by rw [z_gun (by omega), z_gus]
  have c1 := z_cr_up hc 3 m v1 (r := 3) (x := nI v1) (p := 20 + 3 * m) (y := nI v1) (by unfold z_bd z_okS; omega) rfl rfl rfl rfl
  have c2 := z_cr_up c1 4 m v2 (r := 4) (x := nI v2) (p := 20 + 3 * m + 1) (y := nI v2) (by unfold z_bd z_okS; omega) rfl rfl (by simp only [z_pos]; omega) rfl
  have c3 := z_cr_up c2 5 m 0 (r := 5) (x := -1000000005) (p := 20 + 3 * m + 2) (y := -1) (by unfold z_bd z_okS; omega) rfl rfl (by simp only [z_pos]; omega) rfl
  have c4 := z_cr_up c3 2 3 (m + 1) (r := 2) (x := nI (m + 1)) (p := 4) (y := nI (m + 1)) (by unfold z_bd z_okS; omega) rfl rfl rfl rfl
  have oft := z_oft hcl (X' := x_up (x_up (x_up (x_up X 3 m (nI v1)) 4 m (nI v2)) 5 m (-1000000005)) 2 3 (nI (m + 1))) (s' := upd (upd (upd (upd (M 1) (20 + 3 * m) (nI v1)) (20 + 3 * m + 1) (nI v2)) (20 + 3 * m + 2) (-1)) 4 (nI (m + 1))) (G' := z_gu (z_gu (z_gu (z_gu G 3 m v1) 4 m v2) 5 m 0) 2 3 (m + 1)) (fun k hk => by simp (disch := omega) only [z_upn]) (fun p hp => by simp (disch := omega) only [z_un]) (fun k i hk => hG k i (by omega) (by omega))
  refine ⟨_, _, _, z_gu (z_gu (z_gu (z_gu G 3 m v1) 4 m v2) 5 m 0) 2 3 (m + 1), H, Cd, Ch, rfl, rfl, ⟨?_, ?_, ?_⟩, ?_, ?_⟩
  · simp only [z_upr]
    refine z_cr_sub c4 (fun k i hki => ?_)
    unfold z_ok at hki
    rw [n0, hG 6 9 (by omega) (by omega), hG 18 8 (by omega) (by omega), hG 18 9 (by omega) (by omega), hG 27 3 (by omega) (by omega)] at hki
    rcases z_okS_g (m := m) hki (by omega) (Nat.le_refl _) (Nat.le_refl _) (Nat.le_refl _) with h | h | h | h | h
    · left; left; left; left
      unfold z_ok
      rw [hmm]
      exact h
    · have e : i = m := by omega
      subst e
      rcases (show k = 3 ∨ k = 4 ∨ k = 5 by omega) with rfl | rfl | rfl <;> simp
    · omega
    · omega
    · omega
  · obtain ⟨g1, g2, g3, g4, g5, g6, g7⟩ := hi
    unfold z_I z_IS z_IF z_IO
    unfold z_IF at g5
    unfold z_IO at g7
    simp (disch := omega) only [hG, n0]
    refine ⟨by omega, g2, fun j hj => ?_, fun j hj => ?_, g5, fun j hj => ?_, g7⟩
    · unfold z_IM
      by_cases e : j = m
      · subst e
        rw [n3, n4, n5]
        omega
      · rw [hG 3 j (by omega) (by omega), hG 4 j (by omega) (by omega), hG 5 j (by omega) (by omega)]
        exact g3 j (by omega)
    · have q := g4 j hj
      unfold z_IL at q ⊢
      simp (disch := omega) only [hG, n0]
      rw [hmm] at q
      omega
    · have q := g6 j hj
      unfold z_IA at q ⊢
      simp (disch := omega) only [hG, n0]
      rw [hmm] at q
      omega
  · simp only [z_upr]
    exact oft
  · exact z_rs_fr hrs (fun k hk => by simp (disch := omega) only [z_upn]) (fun k hk => by simp (disch := omega) only [z_upn])
  · exact z_wy_fr hwy (by simp (disch := omega) only [z_upn]) (by simp (disch := omega) only [z_upn]) (hG 27 3 (by omega) (by omega)) (fun i => ⟨hG 28 i (by omega) (by omega), hG 29 i (by omega) (by omega), hG 30 i (by omega) (by omega)⟩)
