/-! ===== the PRICE of a seat ===== -/
def z_envP (G : z_G) (T a b : Nat) : Int32 := if b = 116 then nI T else if b = 107 then nI (G 3 (G 23 a)) else if b = 108 then nI (G 20 (G 24 a)) else if b = 102 then nI (G 25 a) else if b = 111 then nI (G 22 (G 24 a)) else nI (G 19 (G 24 a) - G 1 8)
def z_prc (G : z_G) (Cd : Nat → Nat → List Int32) (T a : Nat) : Nat := z_hd (z_ev (z_envP G T a) (z_cdv Cd (z_tm G (G 1 8)) 2) []) 0 99999
theorem z_prc_b {G : z_G} {Cd : Nat → Nat → List Int32} {T a : Nat} : z_prc G Cd T a ≤ 99999 := (z_hd_b (by omega)).2
theorem z_prc_0 {G : z_G} {Cd : Nat → Nat → List Int32} {T a : Nat} (h0 : z_tm G (G 1 8) = 0) (h : G 20 (G 24 a) ≤ 9999) : z_prc G Cd T a = G 20 (G 24 a) := by
  have e : z_ev (z_envP G T a) (z_cdv Cd (z_tm G (G 1 8)) 2) [] = nI (G 20 (G 24 a)) := by
    rw [h0]
    rfl
  unfold z_prc
  rw [e]
  exact z_hd_n (by omega) (by omega) (by omega)
theorem z_nm2 {b : Nat} (h : b ∈ z_nm 2) : b = 108 ∨ b = 102 ∨ b = 111 ∨ b = 100 ∨ b = 116 ∨ b = 107 := by
  have h : b ∈ [108, 102, 111, 100, 116, 107] := h
  simp only [List.mem_cons, List.not_mem_nil, or_false] at h
  omega
theorem z_prX {NC : Nat} {X M : x_M} {G : z_G} {Cd : Nat → Nat → List Int32} (h : z_K NC X M G Cd) {a T : Nat} (ha : a < G 18 9) (hd : G 1 8 ≤ G 19 (G 24 a)) : ∃ X', f_X2_priceOf_67_1 NC X (nI a) (nI T) = some (nI (z_prc G Cd T a), X') ∧ ∀ k, k ≠ 68 → k ≠ 69 → X' k = X k := by
  have hA : G 18 9 ≤ 30 := h.1.2.1.1.2.2.2.2.2.1
  have hF : G 18 8 ≤ 8 := h.1.2.1.1.2.2.2.2.1
  have hm10 : G 2 3 ≤ 10 := h.1.2.1.1.2.1
  have hday : G 1 8 ≤ 1200 := h.1.2.1.1.1
  have hN := h.2.2.1
  have I := h.1.2.1.2.2.2.2.2.1 a ha
  unfold z_IA at I
  obtain ⟨I1, I2, I3, I4⟩ := I
  have J := h.1.2.1.2.2.2.2.1 (G 24 a) I2
  unfold z_IF at J
  have g24 := (z_g24 h.1.1 ha).1
  have g25 := (z_g25 h.1.1 ha).1
  have g23 := (z_g23 h.1.1 ha).1
  have g20 := (z_g20 h.1.1 I2).1
  have g22 := (z_g22 h.1.1 I2).1
  have g19 := (z_g19 h.1.1 I2).1
  have g3 := (z_g3 h.1.1 I1).1
  have g1 := (z_g1 h.1.1).1
  have hv := z_tm_le (G := G) (day := G 1 8)
  have key : ∀ X2 : x_M, (∀ k, k ≠ 68 → X2 k = X k) → X2 68 2 = nI (G 20 (G 24 a)) → X2 68 3 = nI (G 25 a) → X2 68 8 = nI T → X2 68 9 = nI (G 3 (G 23 a)) → X2 68 6 = nI (G 22 (G 24 a)) → X2 68 7 = nI (G 19 (G 24 a) - G 1 8) → ∃ X', x_bn (f_X9_inForce NC X2 (nI (G 1 8))) (fun r107 M => x_bn (f_X1_workedOut NC M r107 (nI 2)) (fun r111 M => x_bn (f_X11_held M r111 (nI 0) (nI 99999)) (fun r117 M => some (r117, M)))) = some (nI (z_prc G Cd T a), X') ∧ ∀ k, k ≠ 68 → k ≠ 69 → X' k = X k := by
    intro X2 x0 x2 x3 x8 x9 x6 x7
    have K2 : z_K NC X2 M G Cd := z_K_fr h (fun k hk => x0 k (by omega)) rfl
    obtain ⟨r, k1, k2, k3, k4⟩ := z_tok_ok K2 hv
    obtain ⟨X3, c1, c2⟩ := z_wkX (X := X2) (w := 2) (env := z_envP G T a) k2 hN (by omega) k4 (z_cdv_wf K2 hv (by omega)) (fun b hb => by
      unfold z_envX z_envP
      rcases z_nm2 hb with rfl | rfl | rfl | rfl | rfl | rfl <;> simp +decide only [if_true, if_false] <;> assumption)
    rw [z_inX K2 hday, z_bn, k1, c1, z_bn, z_heX (by omega) (by omega), z_bn]
    exact ⟨X3, rfl, fun k h1 h2 => by rw [c2.1 k h1 h2, x0 k h1]⟩
  unfold f_X2_priceOf_67_1 f_X1_forTrip f_X1_forMember
  simp (disch := omega) only [z_rd, z_upn, z_pf, z_gf, z_bn, g24, g25, g23, g20, g22, g19, g3, g1, z_sub]
  refine key _ (fun k hk => ?_) ?_ ?_ ?_ ?_ ?_ ?_
  · simp (disch := omega) only [z_upn]
  · simp (disch := omega) only [z_upr, z_un, z_us]
  · simp (disch := omega) only [z_upr, z_un, z_us]
  · simp (disch := omega) only [z_upr, z_un, z_us]
  · simp (disch := omega) only [z_upr, z_un, z_us]
  · simp (disch := omega) only [z_upr, z_un, z_us]
  · simp (disch := omega) only [z_upr, z_un, z_us]
theorem z_prM {NC : Nat} {X M : x_M} {G : z_G} {Cd : Nat → Nat → List Int32} (h : z_K NC X M G Cd) {a T : Nat} (ha : a < G 18 9) (hd : G 1 8 ≤ G 19 (G 24 a)) (h17 : M 17 (G 23 a) = nI T) : ∃ M', f_X12_priceFor M (nI a) = some (nI (z_prc G Cd T a), M') ∧ ∀ k, k ≠ 6 → k ≠ 7 → M' k = M k := by
  have hA : G 18 9 ≤ 30 := h.1.2.1.1.2.2.2.2.2.1
  have hF : G 18 8 ≤ 8 := h.1.2.1.1.2.2.2.2.1
  have hm10 : G 2 3 ≤ 10 := h.1.2.1.1.2.1
  have hday : G 1 8 ≤ 1200 := h.1.2.1.1.1
  have h4 : G 16 2 ≤ 4 := h.1.2.1.1.2.2.2.1
  have I := h.1.2.1.2.2.2.2.2.1 a ha
  unfold z_IA at I
  obtain ⟨I1, I2, I3, I4⟩ := I
  have J := h.1.2.1.2.2.2.2.1 (G 24 a) I2
  unfold z_IF at J
  have g24 := (z_g24 h.1.1 ha).2
  have g25 := (z_g25 h.1.1 ha).2
  have g23 := (z_g23 h.1.1 ha).2
  have g20 := (z_g20 h.1.1 I2).2
  have g22 := (z_g22 h.1.1 I2).2
  have g19 := (z_g19 h.1.1 I2).2
  have g3 := (z_g3 h.1.1 I1).2
  have g1 := (z_g1 h.1.1).2
  have hv := z_tm_le (G := G) (day := G 1 8)
  unfold f_X12_priceFor
  simp only [z_mul, z_add]
  rw [z_rd (by omega) (by omega), show 5338 + 5 * a + 1 = 5339 + 5 * a by omega, g24, z_rd (by omega) (by omega), g1, z_inM h hday, z_bn]
  by_cases c0 : z_tm G (G 1 8) = 0
  · rw [c0, if_pos (show z_eO 0 = -1 by decide), z_mul, z_add, z_add, z_rd (by omega) (by omega), show 5298 + 5 * G 24 a + 1 = 5299 + 5 * G 24 a by omega, g20, z_prc_0 c0 (by omega)]
    exact ⟨M, rfl, fun _ _ _ => rfl⟩
  · have ev : z_eO (z_tm G (G 1 8)) = nI (z_tm G (G 1 8) - 1) := by
      unfold z_eO
      rw [if_neg c0]
    obtain ⟨-, -, w1, w2, -⟩ := h.1.2.2.2.2.2 (z_tm G (G 1 8) - 1) (by omega)
    have hlen := z_ter_len h.1.2.2.2.2 (z_tm G (G 1 8) - 1) (by omega)
    have ecd : ∀ w, z_cdv Cd (z_tm G (G 1 8)) w = Cd (z_tm G (G 1 8) - 1) w := fun w => by
      unfold z_cdv
      rw [if_neg c0]
    have key : ∀ M2 : x_M, (∀ k, k ≠ 7 → M2 k = M k) → M2 7 108 = nI (G 20 (G 24 a)) → M2 7 102 = nI (G 25 a) → M2 7 116 = nI T → M2 7 107 = nI (G 3 (G 23 a)) → M2 7 111 = nI (G 22 (G 24 a)) → M2 7 100 = nI (G 19 (G 24 a) - G 1 8) → ∃ M', x_bn (f_X12_worked M2 (nI (z_tm G (G 1 8) - 1)) (nI 2)) (fun r160 M => x_bn (f_X12_within M r160 (nI 0) (nI 99999)) (fun r166 M => some (r166, M))) = some (nI (z_prc G Cd T a), M') ∧ ∀ k, k ≠ 6 → k ≠ 7 → M' k = M k := by
      intro M2 x0 x2 x3 x8 x9 x6 x7
      have q2 : M2 1 = M 1 := x0 1 (by omega)
      obtain ⟨M3, c1, c2⟩ := z_wkM (M := M2) (env := z_envP G T a) (k := z_tm G (G 1 8) - 1) (w := 2) (by omega) (by omega) (hlen 2 (by omega)) (by rw [q2]; exact w1) (w2 2 (by omega)) (fun b hb => by
        unfold z_envP
        rcases z_nm2 hb with rfl | rfl | rfl | rfl | rfl | rfl <;> simp +decide only [if_true, if_false] <;> assumption)
      rw [← ecd] at c1
      rw [c1, z_bn, z_heM (by omega) (by omega), z_bn]
      exact ⟨M3, rfl, fun k h1 h2 => by rw [c2 k h1, x0 k h2]⟩
    rw [ev, if_neg (by rw [z_nm1 (by omega)]; exact id)]
    simp only [z_mul, z_add, show 5298 + 5 * G 24 a + 1 = 5299 + 5 * G 24 a by omega, show 5338 + 5 * a + 2 = 5340 + 5 * a by omega, show 5298 + 5 * G 24 a + 4 = 5302 + 5 * G 24 a by omega]
    simp (disch := omega) only [z_rd, z_wr, z_upn, g20, g25, g22, g19, g1, g23, h17, z_mul, z_add, g3, z_sub]
    refine key _ (fun k hk => ?_) ?_ ?_ ?_ ?_ ?_ ?_
    · simp (disch := omega) only [z_upn]
    · simp (disch := omega) only [z_upr, z_un, z_us]
    · simp (disch := omega) only [z_upr, z_un, z_us]
    · simp (disch := omega) only [z_upr, z_un, z_us]
    · simp (disch := omega) only [z_upr, z_un, z_us]
    · simp (disch := omega) only [z_upr, z_un, z_us]
    · simp (disch := omega) only [z_upr, z_un, z_us]
