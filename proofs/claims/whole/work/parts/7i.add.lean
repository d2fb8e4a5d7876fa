/-! ===== new TERMS ===== -/
theorem z_tk_e {NC r : Nat} (h : z_tk NC r) : z_tk (NC + 3) r := by
  unfold z_tk at *
  omega
theorem z_ter_e {NC o : Nat} {X X' : x_M} {s : Nat → Int32} {G : z_G} {Cd : Nat → Nat → List Int32} (h : z_ter NC X o s G Cd) (hX : ∀ k, k < NC → X' k = X k) (ho : 17 + o < NC) : z_ter (NC + 3) X' o s G Cd := by
  unfold z_ter at h ⊢
  rw [hX _ ho]
  refine ⟨fun i => ?_, fun i hi => ?_⟩
  · rcases h.1 i with q | ⟨r, q1, q2⟩
    · exact Or.inl q
    · exact Or.inr ⟨r, q1, z_tk_e q2⟩
  · obtain ⟨h1, h2, h3, h4, r, h5, h6, h7, h8⟩ := h.2 i hi
    have h6' := h6
    unfold z_tk at h6'
    exact ⟨h1, h2, h3, h4, r, h5, z_tk_e h6, by rw [hX _ (by omega)]; exact h7, z_code_fr h8 (hX _ (by omega)) (hX _ (by omega))⟩
theorem z_cl_e {NC o : Nat} {X X' : x_M} {s : Nat → Int32} {G : z_G} {Cd : Nat → Nat → List Int32} (h : z_cl NC X o s G Cd) (hX : ∀ k, k < NC → X' k = X k) (ho : 33 + o < NC) : z_cl (NC + 3) X' o s G Cd := by
  obtain ⟨h1, h2, h3, h4, h5⟩ := h
  refine ⟨z_cr_fr h1 (fun k i hb => ?_) (fun p hp _ => rfl), h2, fun i hi => ?_, h4, z_ter_e h5 hX (by omega)⟩
  · unfold z_bd z_okS at hb
    rw [hX _ (by omega)]
  · rw [hX _ (by omega)]
    exact h3 i hi
theorem z_R_e {NC : Nat} {X X' M : x_M} {G H : z_G} {Cd Ch : Nat → Nat → List Int32} (R : z_R NC X M G H Cd Ch) (hX : ∀ k, k < NC → X' k = X k) (hN : NC + 3 ≤ 100000) : z_R (NC + 3) X' M G H Cd Ch := by
  obtain ⟨hcl, ⟨⟨r1, r2⟩, r3, r4, r5, g1, g2, g3, g4, g5, g6⟩, hwy⟩ := R
  refine ⟨z_cl_e hcl hX (by omega), ⟨⟨by rw [hX 0 (by omega)]; exact r1, ?_⟩, z_sh_fr r3 (hX 86 (by omega)) (hX 87 (by omega)) rfl rfl, z_wt_fr r4 (by rw [hX 0 (by omega)]) (hX 84 (by omega)) rfl rfl, z_tp_fr r5 (by rw [hX 80 (by omega)]) (hX 81 (by omega)) rfl rfl, by omega, hN, by omega, by rw [hX 88 (by omega)]; exact g4, z_code_fr g5 (hX 89 (by omega)) (hX 90 (by omega)), fun i => ?_⟩, z_wy_fr hwy (hX 78 (by omega)) (hX 79 (by omega)) rfl (fun _ => ⟨rfl, rfl, rfl⟩)⟩
  · rcases r2 with r2 | ⟨r2, r7⟩
    · exact Or.inl r2
    · exact Or.inr ⟨r2, z_cl_e r7 hX (by omega)⟩
  · rw [hX 50 (by omega)]
    rcases g6 i with q | ⟨r, q1, q2⟩
    · exact Or.inl q
    · exact Or.inr ⟨r, q1, z_tk_e q2⟩
/-- the reference lays its words down -/
theorem z_t226 {b : Nat} (hb : b + 1062 ≤ 5512) {W : Nat → Int32} : ∀ (e k fu : Nat) (M : x_M), 1060 = k + e → e < fu → M 4 = W → (∀ i, i < k → M 1 (b + 2 + i) = W i) → ∃ M', f_X12_terms_226 fu M (nI b) (nI k) = x_rd 5512 (M' 1) (nI 6) (fun r262 => x_wr 5512 M' 1 (nI 6) (r262 + (nI 1)) (fun M => x_gf M 0 13 (fun r267 => some (r267, M)))) ∧ (∀ q, q ≠ 1 → M' q = M q) ∧ (∀ i, i < 1060 → M' 1 (b + 2 + i) = W i) ∧ ∀ p, ¬ (b + 2 ≤ p ∧ p < b + 1062) → M' 1 p = M 1 p := by
  intro e
  induction e with
  | zero =>
    intro k fu M hk hfu h4 h1
    obtain ⟨fu, rfl⟩ : ∃ a, fu = a + 1 := ⟨fu - 1, by omega⟩
    rw [f_X12_terms_226_s, if_pos (by rw [z_le (by omega) (by omega)]; omega)]
    exact ⟨M, rfl, fun _ _ => rfl, fun i hi => h1 i (by omega), fun _ _ => rfl⟩
  | succ e ih =>
    intro k fu M hk hfu h4 h1
    obtain ⟨fu, rfl⟩ : ∃ a, fu = a + 1 := ⟨fu - 1, by omega⟩
    rw [f_X12_terms_226_s, if_neg (by rw [z_le (by omega) (by omega)]; omega), z_rd (by omega) (by omega), z_add, z_add, z_wr (by omega) (by omega), z_add, h4]
    obtain ⟨M', a1, a2, a3, a4⟩ := ih (k + 1) fu (x_up M 1 (b + 2 + k) (W k)) (by omega) (by omega) (by rw [z_upn (by omega)]; exact h4) (fun i hi => by
      rw [z_upr]
      by_cases q : i = k
      · rw [q, z_us]
      · rw [z_un (by omega)]
        exact h1 i (by omega))
    exact ⟨M', a1, fun q hq => by rw [a2 q hq, z_upn hq], a3, fun p hp => by rw [a4 p hp, z_upr, z_un (by omega)]⟩
theorem z_R_add {NC : Nat} {X M M' : x_M} {G H : z_G} {Cd Ch : Nat → Nat → List Int32} {r day : Nat} {cd : Nat → List Int32} (R : z_R NC X M G H Cd Ch) (hT : G 16 2 < 4) (hd : day ≤ 1200) (hr : z_tk NC r) (hr1 : X (r - 1) 0 = nI day) (hr2 : z_code X r cd) (hwf : ∀ w, w < 4 → z_wf (z_nm w) (cd w) 0 1) (hq : ∀ q, q ≠ 1 → M' q = M q) (h6 : M' 1 6 = nI (G 16 2 + 1)) (h50 : M' 1 (1050 + 1062 * G 16 2) = nI day) (hwd : z_wds (M' 1) (1052 + 1062 * G 16 2) cd) (hp : ∀ p, p ≠ 6 → ¬ (1050 + 1062 * G 16 2 ≤ p ∧ p < 2112 + 1062 * G 16 2) → M' 1 p = M 1 p) : z_R NC (x_up (x_up X 17 (G 16 2) (nI r)) 16 2 (nI (G 16 2 + 1))) M' (z_gu (z_gu G 34 (G 16 2) day) 16 2 (G 16 2 + 1)) H (fun i => if i = G 16 2 then cd else Cd i) Ch := by
  obtain ⟨hcl, hrs, hwy⟩ := id R
  obtain ⟨hc, hi, ho, hf, ht⟩ := id hcl
  have hS := hi.1
  unfold z_IS at hS
  have hr' := hr
  unfold z_tk at hr'
  obtain ⟨T, hTd⟩ : ∃ T, T = G 16 2 := ⟨_, rfl⟩
  rw [← hTd] at hT h6 h50 hwd hp ⊢
  obtain ⟨Cd', hCd⟩ : ∃ f : Nat → Nat → List Int32, f = fun i => if i = T then cd else Cd i := ⟨_, rfl⟩
  have cdT : Cd' T = cd := by
    rw [hCd]
    exact if_pos rfl
  have cdN : ∀ i, i ≠ T → Cd' i = Cd i := fun i q => by
    rw [hCd]
    exact if_neg q
  rw [← hCd]
  have gn : ∀ k i, k ≠ 34 → ¬ (k = 16 ∧ i = 2) → z_gu (z_gu G 34 T day) 16 2 (T + 1) k i = G k i := fun k i h1 h2 => by rw [z_gun (by omega), z_gun (by omega)]
  have g16 : z_gu (z_gu G 34 T day) 16 2 (T + 1) 16 2 = T + 1 := z_gus
  have hXk : ∀ k, k ≠ 16 → k ≠ 17 → (x_up (x_up X 17 T (nI r)) 16 2 (nI (T + 1))) k = X k := fun k h1 h2 => by rw [z_upn h1, z_upn h2]
  refine ⟨⟨?_, ?_, ?_, ?_, ?_⟩, ?_, ?_⟩
  · have hbd : z_bd 16 2 := by unfold z_bd z_okS; decide
    have c1 := z_cr_up hc 16 2 (T + 1) (r := 16) (x := nI (T + 1)) (p := 6) (y := nI (T + 1)) hbd rfl rfl rfl rfl
    have c2 := z_cr_fr (X' := x_up (x_up X 17 T (nI r)) 16 2 (nI (T + 1))) (s' := M' 1) c1 (fun k i hb => by
      have hk : k ≠ 17 := by unfold z_bd z_okS at hb; omega
      show (x_up (x_up X 17 T (nI r)) 16 2 (nI (T + 1))) k i = (x_up X 16 2 (nI (T + 1))) k i
      by_cases e : k = 16
      · rw [e, z_upr, z_upr, z_upn (by omega)]
      · rw [z_upn e, z_upn e, z_upn hk]) (fun p h1 h2 => by
      by_cases e : p = 6
      · rw [e, z_us, h6]
      · rw [z_un e]
        exact hp p e (by omega))
    intro k i hk
    have hk34 : k ≠ 34 := by
      unfold z_ok z_okS at hk
      omega
    have eG : z_gu (z_gu G 34 T day) 16 2 (T + 1) k i = z_gu G 16 2 (T + 1) k i := by
      by_cases e : k = 16 ∧ i = 2
      · rw [e.1, e.2, z_gus, z_gus]
      · rw [z_gun (by omega), z_gun (by omega), z_gun (by omega)]
    rw [eG]
    refine c2 k i (Or.inl ?_)
    unfold z_ok at hk ⊢
    rw [gn 2 3 (by omega) (by omega), gn 6 9 (by omega) (by omega), gn 18 8 (by omega) (by omega), gn 18 9 (by omega) (by omega), gn 27 3 (by omega) (by omega)] at hk
    exact hk
  · obtain ⟨g1, g2, g3, g4, g5, g6, g7⟩ := hi
    unfold z_I z_IS z_IM z_IL z_IF z_IA z_IO
    unfold z_IM at g3
    unfold z_IL at g4
    unfold z_IF at g5
    unfold z_IA at g6
    unfold z_IO at g7
    simp (disch := omega) only [gn, g16]
    exact ⟨by omega, g2, g3, g4, g5, g6, g7⟩
  · intro i hi'
    rw [gn 6 9 (by omega) (by omega)] at hi'
    have e9 : (z_gu (z_gu G 34 T day) 16 2 (T + 1)) 9 = G 9 := by
      funext j
      exact gn 9 j (by omega) (by omega)
    rw [hXk _ (by omega) (by omega), e9, gn 6 9 (by omega) (by omega)]
    exact ho i hi'
  · intro i hi'
    rw [gn 18 9 (by omega) (by omega)] at hi'
    rw [gn 26 i (by omega) (by omega), hp _ (by omega) (by omega)]
    exact hf i hi'
  · refine ⟨fun i => ?_, fun i hi' => ?_⟩
    · rw [z_upn (by omega), Nat.add_zero, z_upr]
      by_cases e : i = T
      · rw [e, z_us]
        exact Or.inr ⟨r, rfl, hr⟩
      · rw [z_un e]
        exact ht.1 i
    · rw [g16] at hi'
      by_cases e : i = T
      · subst e
        rw [cdT, z_gun (by omega), z_gus]
        refine ⟨hd, h50, hwd, hwf, r, by rw [z_upn (by omega), Nat.add_zero, z_upr, z_us], hr, by rw [hXk _ (by omega) (by omega)]; exact hr1, z_code_fr hr2 (hXk _ (by omega) (by omega)) (hXk _ (by omega) (by omega))⟩
      · have hiT : i < G 16 2 := by omega
        obtain ⟨q1, q2, q3, q4, r', q5, q6, q7, q8⟩ := ht.2 i hiT
        have q6' := q6
        unfold z_tk at q6'
        have hlen := z_ter_len ht i hiT
        rw [cdN i e, z_gun (by omega), z_gun (by omega)]
        refine ⟨q1, by rw [hp _ (by omega) (by omega)]; exact q2, fun w hw => ?_, q4, r', by rw [z_upn (by omega), Nat.add_zero, z_upr, z_un e]; exact q5, q6, by rw [hXk _ (by omega) (by omega)]; exact q7, z_code_fr q8 (hXk _ (by omega) (by omega)) (hXk _ (by omega) (by omega))⟩
        obtain ⟨y1, y2⟩ := q3 w hw
        have hl := hlen w hw
        refine ⟨by rw [hp _ (by omega) (by omega)]; exact y1, fun j hj => ?_⟩
        rw [hp _ (by omega) (by omega), hp _ (by omega) (by omega)]
        exact y2 j hj
  · exact z_rs_fr hrs (fun k hk => hXk k (by omega) (by omega)) (fun k hk => hq k hk)
  · exact z_wy_fr hwy (hXk _ (by omega) (by omega)) (hXk _ (by omega) (by omega)) (gn 27 3 (by omega) (by omega)) (fun i => ⟨gn 28 i (by omega) (by omega), gn 29 i (by omega) (by omega), gn 30 i (by omega) (by omega)⟩)
/-- other cells may change while a text is read -/
theorem z_R_t {NC : Nat} {X M X' M' : x_M} {G H : z_G} {Cd Ch : Nat → Nat → List Int32} (R : z_R NC X M G H Cd Ch) (hX : ∀ k, k ≠ 80 → k ≠ 82 → k ≠ 83 → X' k = X k) (hM : ∀ k, k ≠ 0 → k ≠ 4 → k ≠ 5 → M' k = M k) (h02 : M' 0 2 = M 0 2) (h035 : M' 0 35 = M 0 35) (h3 : X' 80 3 = nI 0) (h4 : M' 0 4 = nI 0) : z_R NC X' M' G H Cd Ch := by
  obtain ⟨hcl, hrs, hwy⟩ := R
  refine ⟨?_, ?_, z_wy_fr hwy (hX 78 (by omega) (by omega) (by omega)) (hX 79 (by omega) (by omega) (by omega)) rfl (fun _ => ⟨rfl, rfl, rfl⟩)⟩
  · rw [hM 1 (by omega) (by omega) (by omega)]
    exact z_cl_fr hcl (fun k hk => hX k (by omega) (by omega) (by omega)) (fun _ _ => rfl)
  · exact z_rs_fr2 hrs (fun k hk => hX k (by omega) (by omega) (by omega)) (hM 2 (by omega) (by omega) (by omega)) (by rw [hX 0 (by omega) (by omega) (by omega)]) h02 (z_sh_fr hrs.2.1 (hX 86 (by omega) (by omega) (by omega)) (hX 87 (by omega) (by omega) (by omega)) (hM 21 (by omega) (by omega) (by omega)) (hM 22 (by omega) (by omega) (by omega))) (z_wt_fr hrs.2.2.1 (by rw [hX 0 (by omega) (by omega) (by omega)]) (hX 84 (by omega) (by omega) (by omega)) h035 (hM 20 (by omega) (by omega) (by omega))) ⟨0, by omega, h3, h4, fun i hi => by omega⟩
theorem z_dsub {N d t : Nat} (hN : N ≤ 999) (hd : d ≤ 1200) (ht : t ≤ 1200) : (nI N ≤ nI d - nI t) = (t + N ≤ d) := by
  refine propext ?_
  rw [Int32.le_iff_toInt_le, nI_toInt (by omega), pk_sub_toInt (by omega) (by omega)]
  omega
