/-! ===== the class goes through all LINES ===== -/
theorem z_fi73 : ∀ (e v fu : Nat) (X : x_M), 40 = v + e → e < fu → ∃ X', f_J7_fill_53178_73_5 fu X (nI 0) (nI v) (nI 40) = some ((), X') ∧ (∀ k, k ≠ 73 → X' k = X k) ∧ ∀ i, v ≤ i → i < 40 → X' 73 i = nI 0 := by
  intro e
  induction e with
  | zero =>
    intro v fu X hv hfu
    obtain ⟨fu, rfl⟩ : ∃ a, fu = a + 1 := ⟨fu - 1, by omega⟩
    rw [f_J7_fill_53178_73_5_s, if_pos (by rw [z_le (by omega) (by omega)]; omega)]
    exact ⟨X, rfl, fun _ _ => rfl, fun i h1 h2 => by omega⟩
  | succ e ih =>
    intro v fu X hv hfu
    obtain ⟨fu, rfl⟩ : ∃ a, fu = a + 1 := ⟨fu - 1, by omega⟩
    rw [f_J7_fill_53178_73_5_s, if_neg (by rw [z_le (by omega) (by omega)]; omega), z_wr (by omega) (by omega), z_add]
    have low : ∀ (e v fu : Nat) (X X' : x_M), 40 = v + e → e < fu → f_J7_fill_53178_73_5 fu X (nI 0) (nI v) (nI 40) = some ((), X') → ∀ i, i < v → X' 73 i = X 73 i := by
      intro e
      induction e with
      | zero =>
        intro v fu X X' hv hfu hh i hi
        obtain ⟨fu, rfl⟩ : ∃ a, fu = a + 1 := ⟨fu - 1, by omega⟩
        rw [f_J7_fill_53178_73_5_s, if_pos (by rw [z_le (by omega) (by omega)]; omega)] at hh
        have hq : X = X' := congrArg Prod.snd (Option.some.inj hh)
        rw [hq]
      | succ e ih2 =>
        intro v fu X X' hv hfu hh i hi
        obtain ⟨fu, rfl⟩ : ∃ a, fu = a + 1 := ⟨fu - 1, by omega⟩
        rw [f_J7_fill_53178_73_5_s, if_neg (by rw [z_le (by omega) (by omega)]; omega), z_wr (by omega) (by omega), z_add] at hh
        rw [ih2 (v + 1) fu _ X' (by omega) (by omega) hh i (by omega), z_upr, z_un (by omega)]
    obtain ⟨X', a1, a2, a3⟩ := ih (v + 1) fu (x_up X 73 v (nI 0)) (by omega) (by omega)
    refine ⟨X', a1, fun k hk => by rw [a2 k hk, z_upn hk], fun i h1 h2 => ?_⟩
    by_cases e1 : i = v
    · rw [e1, low e (v + 1) fu _ X' (by omega) (by omega) a1 v (by omega), z_upr, z_us]
    · exact a3 i (by omega) h2
theorem z_fi74 : ∀ (e v fu : Nat) (X : x_M), 4 = v + e → e < fu → ∃ X', f_J7_fill_53178_74_5 fu X (nI 0) (nI v) (nI 4) = some ((), X') ∧ (∀ k, k ≠ 74 → X' k = X k) ∧ ∀ i, v ≤ i → i < 4 → X' 74 i = nI 0 := by
  intro e
  induction e with
  | zero =>
    intro v fu X hv hfu
    obtain ⟨fu, rfl⟩ : ∃ a, fu = a + 1 := ⟨fu - 1, by omega⟩
    rw [f_J7_fill_53178_74_5_s, if_pos (by rw [z_le (by omega) (by omega)]; omega)]
    exact ⟨X, rfl, fun _ _ => rfl, fun i h1 h2 => by omega⟩
  | succ e ih =>
    intro v fu X hv hfu
    obtain ⟨fu, rfl⟩ : ∃ a, fu = a + 1 := ⟨fu - 1, by omega⟩
    rw [f_J7_fill_53178_74_5_s, if_neg (by rw [z_le (by omega) (by omega)]; omega), z_wr (by omega) (by omega), z_add]
    have low : ∀ (e v fu : Nat) (X X' : x_M), 4 = v + e → e < fu → f_J7_fill_53178_74_5 fu X (nI 0) (nI v) (nI 4) = some ((), X') → ∀ i, i < v → X' 74 i = X 74 i := by
      intro e
      induction e with
      | zero =>
        intro v fu X X' hv hfu hh i hi
        obtain ⟨fu, rfl⟩ : ∃ a, fu = a + 1 := ⟨fu - 1, by omega⟩
        rw [f_J7_fill_53178_74_5_s, if_pos (by rw [z_le (by omega) (by omega)]; omega)] at hh
        have hq : X = X' := congrArg Prod.snd (Option.some.inj hh)
        rw [hq]
      | succ e ih2 =>
        intro v fu X X' hv hfu hh i hi
        obtain ⟨fu, rfl⟩ : ∃ a, fu = a + 1 := ⟨fu - 1, by omega⟩
        rw [f_J7_fill_53178_74_5_s, if_neg (by rw [z_le (by omega) (by omega)]; omega), z_wr (by omega) (by omega), z_add] at hh
        rw [ih2 (v + 1) fu _ X' (by omega) (by omega) hh i (by omega), z_upr, z_un (by omega)]
    obtain ⟨X', a1, a2, a3⟩ := ih (v + 1) fu (x_up X 74 v (nI 0)) (by omega) (by omega)
    refine ⟨X', a1, fun k hk => by rw [a2 k hk, z_upn hk], fun i h1 h2 => ?_⟩
    by_cases e1 : i = v
    · rw [e1, low e (v + 1) fu _ X' (by omega) (by omega) a1 v (by omega), z_upr, z_us]
    · exact a3 i (by omega) h2
theorem z_fi75 : ∀ (e v fu : Nat) (X : x_M), 4 = v + e → e < fu → ∃ X', f_J7_fill_53178_75_5 fu X (nI 0) (nI v) (nI 4) = some ((), X') ∧ (∀ k, k ≠ 75 → X' k = X k) ∧ ∀ i, v ≤ i → i < 4 → X' 75 i = nI 0 := by
  intro e
  induction e with
  | zero =>
    intro v fu X hv hfu
    obtain ⟨fu, rfl⟩ : ∃ a, fu = a + 1 := ⟨fu - 1, by omega⟩
    rw [f_J7_fill_53178_75_5_s, if_pos (by rw [z_le (by omega) (by omega)]; omega)]
    exact ⟨X, rfl, fun _ _ => rfl, fun i h1 h2 => by omega⟩
  | succ e ih =>
    intro v fu X hv hfu
    obtain ⟨fu, rfl⟩ : ∃ a, fu = a + 1 := ⟨fu - 1, by omega⟩
    rw [f_J7_fill_53178_75_5_s, if_neg (by rw [z_le (by omega) (by omega)]; omega), z_wr (by omega) (by omega), z_add]
    have low : ∀ (e v fu : Nat) (X X' : x_M), 4 = v + e → e < fu → f_J7_fill_53178_75_5 fu X (nI 0) (nI v) (nI 4) = some ((), X') → ∀ i, i < v → X' 75 i = X 75 i := by
      intro e
      induction e with
      | zero =>
        intro v fu X X' hv hfu hh i hi
        obtain ⟨fu, rfl⟩ : ∃ a, fu = a + 1 := ⟨fu - 1, by omega⟩
        rw [f_J7_fill_53178_75_5_s, if_pos (by rw [z_le (by omega) (by omega)]; omega)] at hh
        have hq : X = X' := congrArg Prod.snd (Option.some.inj hh)
        rw [hq]
      | succ e ih2 =>
        intro v fu X X' hv hfu hh i hi
        obtain ⟨fu, rfl⟩ : ∃ a, fu = a + 1 := ⟨fu - 1, by omega⟩
        rw [f_J7_fill_53178_75_5_s, if_neg (by rw [z_le (by omega) (by omega)]; omega), z_wr (by omega) (by omega), z_add] at hh
        rw [ih2 (v + 1) fu _ X' (by omega) (by omega) hh i (by omega), z_upr, z_un (by omega)]
    obtain ⟨X', a1, a2, a3⟩ := ih (v + 1) fu (x_up X 75 v (nI 0)) (by omega) (by omega)
    refine ⟨X', a1, fun k hk => by rw [a2 k hk, z_upn hk], fun i h1 h2 => ?_⟩
    by_cases e1 : i = v
    · rw [e1, low e (v + 1) fu _ X' (by omega) (by omega) a1 v (by omega), z_upr, z_us]
    · exact a3 i (by omega) h2
theorem z_fi76 : ∀ (e v fu : Nat) (X : x_M), 100 = v + e → e < fu → ∃ X', f_J7_fill_53178_76_5 fu X (nI 0) (nI v) (nI 100) = some ((), X') ∧ (∀ k, k ≠ 76 → X' k = X k) ∧ ∀ i, v ≤ i → i < 100 → X' 76 i = nI 0 := by
  intro e
  induction e with
  | zero =>
    intro v fu X hv hfu
    obtain ⟨fu, rfl⟩ : ∃ a, fu = a + 1 := ⟨fu - 1, by omega⟩
    rw [f_J7_fill_53178_76_5_s, if_pos (by rw [z_le (by omega) (by omega)]; omega)]
    exact ⟨X, rfl, fun _ _ => rfl, fun i h1 h2 => by omega⟩
  | succ e ih =>
    intro v fu X hv hfu
    obtain ⟨fu, rfl⟩ : ∃ a, fu = a + 1 := ⟨fu - 1, by omega⟩
    rw [f_J7_fill_53178_76_5_s, if_neg (by rw [z_le (by omega) (by omega)]; omega), z_wr (by omega) (by omega), z_add]
    have low : ∀ (e v fu : Nat) (X X' : x_M), 100 = v + e → e < fu → f_J7_fill_53178_76_5 fu X (nI 0) (nI v) (nI 100) = some ((), X') → ∀ i, i < v → X' 76 i = X 76 i := by
      intro e
      induction e with
      | zero =>
        intro v fu X X' hv hfu hh i hi
        obtain ⟨fu, rfl⟩ : ∃ a, fu = a + 1 := ⟨fu - 1, by omega⟩
        rw [f_J7_fill_53178_76_5_s, if_pos (by rw [z_le (by omega) (by omega)]; omega)] at hh
        have hq : X = X' := congrArg Prod.snd (Option.some.inj hh)
        rw [hq]
      | succ e ih2 =>
        intro v fu X X' hv hfu hh i hi
        obtain ⟨fu, rfl⟩ : ∃ a, fu = a + 1 := ⟨fu - 1, by omega⟩
        rw [f_J7_fill_53178_76_5_s, if_neg (by rw [z_le (by omega) (by omega)]; omega), z_wr (by omega) (by omega), z_add] at hh
        rw [ih2 (v + 1) fu _ X' (by omega) (by omega) hh i (by omega), z_upr, z_un (by omega)]
    obtain ⟨X', a1, a2, a3⟩ := ih (v + 1) fu (x_up X 76 v (nI 0)) (by omega) (by omega)
    refine ⟨X', a1, fun k hk => by rw [a2 k hk, z_upn hk], fun i h1 h2 => ?_⟩
    by_cases e1 : i = v
    · rw [e1, low e (v + 1) fu _ X' (by omega) (by omega) a1 v (by omega), z_upr, z_us]
    · exact a3 i (by omega) h2
theorem z_fi77 : ∀ (e v fu : Nat) (X : x_M), 100 = v + e → e < fu → ∃ X', f_J7_fill_53178_77_5 fu X (nI 0) (nI v) (nI 100) = some ((), X') ∧ (∀ k, k ≠ 77 → X' k = X k) ∧ ∀ i, v ≤ i → i < 100 → X' 77 i = nI 0 := by
  intro e
  induction e with
  | zero =>
    intro v fu X hv hfu
    obtain ⟨fu, rfl⟩ : ∃ a, fu = a + 1 := ⟨fu - 1, by omega⟩
    rw [f_J7_fill_53178_77_5_s, if_pos (by rw [z_le (by omega) (by omega)]; omega)]
    exact ⟨X, rfl, fun _ _ => rfl, fun i h1 h2 => by omega⟩
  | succ e ih =>
    intro v fu X hv hfu
    obtain ⟨fu, rfl⟩ : ∃ a, fu = a + 1 := ⟨fu - 1, by omega⟩
    rw [f_J7_fill_53178_77_5_s, if_neg (by rw [z_le (by omega) (by omega)]; omega), z_wr (by omega) (by omega), z_add]
    have low : ∀ (e v fu : Nat) (X X' : x_M), 100 = v + e → e < fu → f_J7_fill_53178_77_5 fu X (nI 0) (nI v) (nI 100) = some ((), X') → ∀ i, i < v → X' 77 i = X 77 i := by
      intro e
      induction e with
      | zero =>
        intro v fu X X' hv hfu hh i hi
        obtain ⟨fu, rfl⟩ : ∃ a, fu = a + 1 := ⟨fu - 1, by omega⟩
        rw [f_J7_fill_53178_77_5_s, if_pos (by rw [z_le (by omega) (by omega)]; omega)] at hh
        have hq : X = X' := congrArg Prod.snd (Option.some.inj hh)
        rw [hq]
      | succ e ih2 =>
        intro v fu X X' hv hfu hh i hi
        obtain ⟨fu, rfl⟩ : ∃ a, fu = a + 1 := ⟨fu - 1, by omega⟩
        rw [f_J7_fill_53178_77_5_s, if_neg (by rw [z_le (by omega) (by omega)]; omega), z_wr (by omega) (by omega), z_add] at hh
        rw [ih2 (v + 1) fu _ X' (by omega) (by omega) hh i (by omega), z_upr, z_un (by omega)]
    obtain ⟨X', a1, a2, a3⟩ := ih (v + 1) fu (x_up X 77 v (nI 0)) (by omega) (by omega)
    refine ⟨X', a1, fun k hk => by rw [a2 k hk, z_upn hk], fun i h1 h2 => ?_⟩
    by_cases e1 : i = v
    · rw [e1, low e (v + 1) fu _ X' (by omega) (by omega) a1 v (by omega), z_upr, z_us]
    · exact a3 i (by omega) h2
def z_S0 : z_G := fun _ _ => 0
def z_P0 : z_PP := fun _ _ => nI 0
def z_led (G : z_G) (Cd : Nat → Nat → List Int32) (day known : Nat) : z_G × z_PP := z_gof G Cd ((z_ord (G 9) (G 6 9)).filter (z_cd G day known)) z_S0 z_P0
theorem z_iv0 {G : z_G} : z_iv G z_S0 0 := ⟨⟨Nat.zero_le _, fun i hi => absurd hi (Nat.not_lt_zero _)⟩, Nat.le_refl _, fun _ => Nat.zero_le _, fun _ _ _ => Or.inl rfl⟩
theorem z_goX {NC : Nat} {X M : x_M} {G : z_G} {Cd : Nat → Nat → List Int32} (h : z_K NC X M G Cd) {day known : Nat} (hd : day ≤ 1200) (hk : known ≤ 1200) : ∃ X', f_X2_goThrough_67_1 NC X (nI day) (nI known) = some ((), X') ∧ z_LX X' (z_led G Cd day known).1 (z_led G Cd day known).2 ∧ z_lx X X' := by
  have hL100 : G 6 9 ≤ 100 := h.1.2.1.1.2.2.1
  unfold f_X2_goThrough_67_1 f_J7_fill_53178_73 f_J7_fill_53178_74 f_J7_fill_53178_75 f_J7_fill_53178_76 f_J7_fill_53178_77
  obtain ⟨X1, a1, a2, a3⟩ := z_fi73 40 0 x_FU (x_up X 67 9 (nI 0)) (by omega) (by unfold x_FU; omega)
  obtain ⟨X2, b1, b2, b3⟩ := z_fi74 4 0 x_FU X1 (by omega) (by unfold x_FU; omega)
  obtain ⟨X3, c1, c2, c3⟩ := z_fi75 4 0 x_FU X2 (by omega) (by unfold x_FU; omega)
  obtain ⟨X4, d1, d2, d3⟩ := z_fi76 100 0 x_FU X3 (by omega) (by unfold x_FU; omega)
  obtain ⟨X5, e1, e2, e3⟩ := z_fi77 100 0 x_FU X4 (by omega) (by unfold x_FU; omega)
  rw [z_pf, a1, z_bn, b1, z_bn, c1, z_bn, d1, z_bn, e1, z_bn]
  have f5 : z_lx X X5 := fun k hk => by rw [e2 k (by omega), d2 k (by omega), c2 k (by omega), b2 k (by omega), a2 k (by omega), z_upn (by omega)]
  have L5 : z_LX X5 z_S0 z_P0 := by
    refine ⟨⟨?_, fun j hj => absurd hj (Nat.not_lt_zero _)⟩, fun i hi => ?_, fun i hi => ⟨?_, ?_⟩, fun i hi => ⟨?_, ?_⟩⟩
    · rw [e2 67 (by omega), d2 67 (by omega), c2 67 (by omega), b2 67 (by omega), a2 67 (by omega), z_upr, z_us]
      rfl
    · rw [e2 73 (by omega), d2 73 (by omega), c2 73 (by omega), b2 73 (by omega), a3 i (by omega) hi]
      rfl
    · rw [e2 74 (by omega), d2 74 (by omega), c2 74 (by omega), b3 i (by omega) hi]
      rfl
    · rw [e2 75 (by omega), d2 75 (by omega), c3 i (by omega) hi]
      rfl
    · rw [e2 76 (by omega), d3 i (by omega) hi]
      rfl
    · rw [e3 i (by omega) hi]
      rfl
  have hl : (z_ord (G 9) (G 6 9)).length = G 6 9 := z_ord_len _
  obtain ⟨X6, g1, g2, g3⟩ := z_gX (M := M) (Cd := Cd) hd hk (z_ord (G 9) (G 6 9)) 0 0 x_FU z_S0 z_P0 X5 (z_lx_K h f5 z_lm_r) L5 z_iv0 (by omega) (fun t _ => by rw [Nat.zero_add]) (by omega) (z_ord_nd _) (fun x hx => ⟨(z_ord_mem _).mp hx, rfl⟩) (by unfold x_FU; omega)
  exact ⟨X6, g1, g2, z_lx_t f5 g3⟩
