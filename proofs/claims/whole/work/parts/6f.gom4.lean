/-! ===== the reference's stand: all of it ===== -/
theorem z_s28 {d k : Int32} : ∀ (e v fu : Nat) (M : x_M), 4 = v + e → e < fu → (∀ i, i < v → M 12 i = nI 0 ∧ M 13 i = nI 0) → ∃ M', f_X12_stand_28 fu M d k (nI v) = f_X12_stand_58 x_FU M' d k (nI 0) (nI 0) ∧ (∀ q, q ≠ 12 → q ≠ 13 → M' q = M q) ∧ ∀ i, i < 4 → M' 12 i = nI 0 ∧ M' 13 i = nI 0 := by
  intro e
  induction e with
  | zero =>
    intro v fu M hv hfu hM
    obtain ⟨fu, rfl⟩ : ∃ a, fu = a + 1 := ⟨fu - 1, by omega⟩
    rw [f_X12_stand_28_s, if_pos (by rw [z_le (by omega) (by omega)]; omega)]
    exact ⟨M, rfl, fun _ _ _ => rfl, fun i hi => hM i (by omega)⟩
  | succ e ih =>
    intro v fu M hv hfu hM
    obtain ⟨fu, rfl⟩ : ∃ a, fu = a + 1 := ⟨fu - 1, by omega⟩
    rw [f_X12_stand_28_s, if_neg (by rw [z_le (by omega) (by omega)]; omega), z_wr (by omega) (by omega), z_wr (by omega) (by omega), z_add]
    obtain ⟨M', a1, a2, a3⟩ := ih (v + 1) fu (x_up (x_up M 12 v (nI 0)) 13 v (nI 0)) (by omega) (by omega) (fun i hi => by
      rw [z_upn (by omega), z_upr, z_upr, z_upn (by omega)]
      by_cases e1 : i = v
      · rw [e1, z_us, z_us]
        exact ⟨rfl, rfl⟩
      · rw [z_un e1, z_un e1]
        exact hM i (by omega))
    exact ⟨M', a1, fun q h1 h2 => by rw [a2 q h1 h2, z_upn h2, z_upn h1], a3⟩
theorem z_s7 {d k : Int32} : ∀ (e v fu : Nat) (M : x_M), 40 = v + e → e < fu → (∀ i, i < v → M 11 i = nI 0) → ∃ M', f_X12_stand_7 fu M d k (nI v) = f_X12_stand_28 x_FU M' d k (nI 0) ∧ (∀ q, q ≠ 11 → M' q = M q) ∧ ∀ i, i < 40 → M' 11 i = nI 0 := by
  intro e
  induction e with
  | zero =>
    intro v fu M hv hfu hM
    obtain ⟨fu, rfl⟩ : ∃ a, fu = a + 1 := ⟨fu - 1, by omega⟩
    rw [f_X12_stand_7_s, if_pos (by rw [z_le (by omega) (by omega)]; omega)]
    exact ⟨M, rfl, fun _ _ => rfl, fun i hi => hM i (by omega)⟩
  | succ e ih =>
    intro v fu M hv hfu hM
    obtain ⟨fu, rfl⟩ : ∃ a, fu = a + 1 := ⟨fu - 1, by omega⟩
    rw [f_X12_stand_7_s, if_neg (by rw [z_le (by omega) (by omega)]; omega), z_wr (by omega) (by omega), z_add]
    obtain ⟨M', a1, a2, a3⟩ := ih (v + 1) fu (x_up M 11 v (nI 0)) (by omega) (by omega) (fun i hi => by
      rw [z_upr]
      by_cases e1 : i = v
      · rw [e1, z_us]
      · rw [z_un e1]
        exact hM i (by omega))
    exact ⟨M', a1, fun q h1 => by rw [a2 q h1, z_upn h1], a3⟩
def z_lw (M M' : x_M) : Prop := (∀ k, k ≠ 0 → (k < 6 ∨ 16 < k) → M' k = M k) ∧ ∀ c, c ≠ 24 → M' 0 c = M 0 c
theorem z_goM {NC : Nat} {X M : x_M} {G : z_G} {Cd : Nat → Nat → List Int32} (h : z_K NC X M G Cd) {day known : Nat} (hd : day ≤ 1200) (hk : known ≤ 1200) : ∃ M', f_X12_stand M (nI day) (nI known) = some ((), M') ∧ z_LM (G 6 9) M' (z_led G Cd day known).1 (z_led G Cd day known).2 ∧ z_lw M M' := by
  have hL100 : G 6 9 ≤ 100 := h.1.2.1.1.2.2.1
  unfold f_X12_stand
  rw [z_pf]
  obtain ⟨M1, a1, a2, a3⟩ := z_s7 (d := nI day) (k := nI known) 40 0 x_FU (x_up M 0 24 (nI 0)) (by omega) (by unfold x_FU; omega) (fun i hi => by omega)
  obtain ⟨M2, b1, b2, b3⟩ := z_s28 (d := nI day) (k := nI known) 4 0 x_FU M1 (by omega) (by unfold x_FU; omega) (fun i hi => by omega)
  have K2 : z_K NC X M2 G Cd := z_K_fr h (fun _ _ => rfl) (by rw [b2 1 (by omega) (by omega), a2 1 (by omega), z_upn (by omega)])
  obtain ⟨M3, c1, c2, c3, c4⟩ := z_s58 (day := day) (known := known) hd hk (G 6 9) 0 x_FU M2 K2 (by omega) (by unfold x_FU; omega) (fun j hj => absurd hj (Nat.not_lt_zero _)) (fun t ht => by omega)
  have c1' : f_X12_stand_58 x_FU M2 (nI day) (nI known) (nI 0) (nI 0) = f_X12_stand_208 x_FU M3 (nI (z_qf G day known (G 6 9)).length) (nI 0) := c1
  rw [a1, b1, c1']
  have f3 : ∀ k, k ≠ 0 → k ≠ 11 → k ≠ 12 → k ≠ 13 → k ≠ 14 → k ≠ 15 → k ≠ 16 → M3 k = M k := fun k k0 k1 k2 k3 k4 k5 k6 => by rw [c4 k k4 k5 k6, b2 k k2 k3, a2 k k1, z_upn k0]
  have f0 : M3 0 = (x_up M 0 24 (nI 0)) 0 := by rw [c4 0 (by omega) (by omega) (by omega), b2 0 (by omega) (by omega), a2 0 (by omega)]
  have L3 : z_LM (G 6 9) M3 z_S0 z_P0 := by
    refine ⟨⟨?_, fun j hj => absurd hj (Nat.not_lt_zero _)⟩, fun i hi => ?_, fun i hi => ?_, fun i hi => ?_⟩
    · rw [f0, z_upr, z_us]
      rfl
    · rw [c4 11 (by omega) (by omega) (by omega), b2 11 (by omega) (by omega), a3 i hi]
      rfl
    · rw [c4 12 (by omega) (by omega) (by omega), c4 13 (by omega) (by omega) (by omega), (b3 i hi).1, (b3 i hi).2]
      exact ⟨rfl, rfl⟩
    · rw [(c3 i hi).1, (c3 i hi).2]
      exact ⟨rfl, rfl⟩
  have hq := z_qf_len (G := G) (day := day) (known := known) (i := G 6 9)
  obtain ⟨M4, d1, d2, d3⟩ := z_s208 (n := (z_qf G day known (G 6 9)).length) (by omega) (z_qf G day known (G 6 9)) 0 0 x_FU z_S0 z_P0 M3 (z_K_fr h (fun _ _ => rfl) (f3 1 (by omega) (by omega) (by omega) (by omega) (by omega) (by omega) (by omega))) L3 z_iv0 (by omega) (fun t ht => by rw [Nat.zero_add]; exact c2 t ht) (by omega) (fun x hx => z_qf_mem hx) (by unfold x_FU; omega)
  refine ⟨M4, d1, d2, fun k k0 hk => ?_, fun c hc => ?_⟩
  · rw [d3.1 k k0 (by omega), f3 k k0 (by omega) (by omega) (by omega) (by omega) (by omega) (by omega)]
  · rw [d3.2 c hc, f0, z_upr, z_un hc]
