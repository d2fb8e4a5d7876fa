/-! ===== one LINE happens: a FLY ===== -/
abbrev z_PP : Type := Nat → Nat → Int32
def z_pu (P : z_PP) (k i : Nat) (v : Int32) : z_PP := fun k' i' => if k' = k ∧ i' = i then v else P k' i'
theorem z_pus {P : z_PP} {k i : Nat} {v : Int32} : z_pu P k i v k i = v := by simp [z_pu]
theorem z_pun {P : z_PP} {k i k' i' : Nat} {v : Int32} (h : k' ≠ k ∨ i' ≠ i) : z_pu P k i v k' i' = P k' i' := by
  unfold z_pu
  rw [if_neg (by omega)]
def z_LX (X : x_M) (S : z_G) (P : z_PP) : Prop := z_lX X S ∧ (∀ i, i < 40 → X 73 i = P 0 i) ∧ (∀ i, i < 4 → X 74 i = P 1 i ∧ X 75 i = P 2 i) ∧ ∀ i, i < 100 → X 76 i = nI (S 4 i) ∧ X 77 i = nI (S 5 i)
def z_LM (L : Nat) (M : x_M) (S : z_G) (P : z_PP) : Prop := z_lM M S ∧ (∀ i, i < 40 → M 11 i = P 0 i) ∧ (∀ i, i < 4 → M 12 i = P 1 i ∧ M 13 i = P 2 i) ∧ ∀ i, i < L → M 14 i = nI (S 4 i) ∧ M 16 i = nI (S 5 i)
def z_lx (X X' : x_M) : Prop := ∀ k, k < 67 ∨ 77 < k → X' k = X k
def z_lm (M M' : x_M) : Prop := (∀ k, k ≠ 0 → (k < 6 ∨ k = 15 ∨ 16 < k) → M' k = M k) ∧ ∀ c, c ≠ 24 → M' 0 c = M 0 c
theorem z_lx_K {NC : Nat} {X X' M M' : x_M} {G : z_G} {Cd : Nat → Nat → List Int32} (h : z_K NC X M G Cd) (hX : z_lx X X') (hM : z_lm M M') : z_K NC X' M' G Cd := z_K_fr h (fun k hk => hX k (by omega)) (hM.1 1 (by omega) (by omega))
theorem z_lm_r {M : x_M} : z_lm M M := ⟨fun _ _ _ => rfl, fun _ _ => rfl⟩
theorem z_lx_r {X : x_M} : z_lx X X := fun _ _ => rfl
theorem z_lx_t {X X' X'' : x_M} (h : z_lx X X') (h' : z_lx X' X'') : z_lx X X'' := fun k hk => by rw [h' k hk, h k hk]
theorem z_lm_t {M M' M'' : x_M} (h : z_lm M M') (h' : z_lm M' M'') : z_lm M M'' := ⟨fun k h0 hk => by rw [h'.1 k h0 hk, h.1 k h0 hk], fun c hc => by rw [h'.2 c hc, h.2 c hc]⟩
def z_envF (G : z_G) (t l b : Nat) : Int32 := if b = 116 then nI t else if b = 107 then nI (G 3 (G 8 l)) else if b = 108 then nI (G 12 l) else if b = 102 then nI (G 13 l / 10) else if b = 112 then nI (G 13 l % 10) else nI (G 14 l)
def z_fm (G : z_G) (Cd : Nat → Nat → List Int32) (P : z_PP) (l : Nat) : Nat := z_hd (z_ev (z_envF G (z_tier G Cd (P 0) (G 8 l) (G 9 l)) l) (z_cdv Cd (z_tm G (G 9 l)) 0) []) 0 99999
def z_fe (G : z_G) (Cd : Nat → Nat → List Int32) (P : z_PP) (l : Nat) : Nat := if G 3 (G 8 l) = 1 then 9999 else z_hd (z_ev (z_envF G (z_tier G Cd (P 0) (G 8 l) (G 9 l)) l) (z_cdv Cd (z_tm G (G 9 l)) 1) []) 1 9999
theorem z_fm_b {G : z_G} {Cd : Nat → Nat → List Int32} {P : z_PP} {l : Nat} : z_fm G Cd P l ≤ 99999 := (z_hd_b (by omega)).2
theorem z_fe_b {G : z_G} {Cd : Nat → Nat → List Int32} {P : z_PP} {l : Nat} : z_fe G Cd P l ≤ 9999 := by
  unfold z_fe
  split
  · omega
  · exact (z_hd_b (by omega)).2
def z_hFS (G : z_G) (Cd : Nat → Nat → List Int32) (S : z_G) (P : z_PP) (l : Nat) : z_G := z_gu (z_cm S (G 8 l) (z_fm G Cd P l) (G 9 l + z_fe G Cd P l)) 4 l (z_fm G Cd P l)
def z_hFP (G : z_G) (Cd : Nat → Nat → List Int32) (P : z_PP) (l : Nat) : z_PP := z_pu (z_pu P 0 (4 * G 8 l + G 9 l / 360) (P 0 (4 * G 8 l + G 9 l / 360) + nI (z_fm G Cd P l))) 1 (G 13 l % 10) (P 1 (G 13 l % 10) + nI (z_fm G Cd P l))
theorem z_lX_4 {X : x_M} {S : z_G} {k i v : Nat} (h : z_lX X S) (hk : 4 ≤ k) : z_lX X (z_gu S k i v) := by
  have e : z_key (z_gu S k i v) = z_key S := by
    funext j
    unfold z_key
    rw [z_gun (by omega), z_gun (by omega)]
  have e2 : z_oL (z_gu S k i v) = z_oL S := by
    unfold z_oL
    rw [e, z_gun (by omega)]
  refine ⟨by rw [z_gun (by omega)]; exact h.1, fun j hj => ?_⟩
  rw [z_gun (by omega)] at hj
  rw [e2]
  unfold z_lat
  rw [z_gun (by omega), z_gun (by omega), z_gun (by omega)]
  exact h.2 j hj
theorem z_lM_4 {M : x_M} {S : z_G} {k i v : Nat} (h : z_lM M S) (hk : 4 ≤ k) : z_lM M (z_gu S k i v) := by
  refine ⟨by rw [z_gun (by omega)]; exact h.1, fun j hj => ?_⟩
  rw [z_gun (by omega)] at hj
  rw [z_gun (by omega), z_gun (by omega), z_gun (by omega)]
  exact h.2 j hj
theorem z_lX_fr {X X' : x_M} {S : z_G} (h : z_lX X S) (h0 : X' 67 9 = X 67 9) (h1 : X' 70 = X 70) (h2 : X' 71 = X 71) (h3 : X' 72 = X 72) : z_lX X' S := by
  unfold z_lX z_lat at h ⊢
  rw [h0, h1, h2, h3]
  exact h
theorem z_lM_fr {M M' : x_M} {S : z_G} (h : z_lM M S) (h0 : M' 0 24 = M 0 24) (h1 : M' 8 = M 8) (h2 : M' 9 = M 9) (h3 : M' 10 = M 10) : z_lM M' S := by
  unfold z_lM at h ⊢
  rw [h0, h1, h2, h3]
  exact h
theorem z_flX {NC : Nat} {X M : x_M} {G S : z_G} {P : z_PP} {Cd : Nat → Nat → List Int32} (h : z_K NC X M G Cd) (hL : z_LX X S P) (hB : z_lB (G 2 3) S) (hn : S 0 0 < 100) {l : Nat} (hl : l < G 6 9) (hk : G 7 l = 0) : ∃ X', f_X2_bringFly_67_1 NC X (nI l) = some (nI (z_fm G Cd P l), X') ∧ z_LX (x_up X' 76 l (nI (z_fm G Cd P l))) (z_hFS G Cd S P l) (z_hFP G Cd P l) ∧ z_lx X X' := by
  have hL100 : G 6 9 ≤ 100 := h.1.2.1.1.2.2.1
  have hm10 : G 2 3 ≤ 10 := h.1.2.1.1.2.1
  have hday : G 1 8 ≤ 1200 := h.1.2.1.1.1
  have hN := h.2.2.1
  have I := h.1.2.1.2.2.2.1 l hl
  unfold z_IL at I
  obtain ⟨I7, I8, I9, I10, -, I12a, I12, I14, I13, I0, -⟩ := I
  obtain ⟨-, I0b, I0c⟩ := I0 hk
  have I3 := (h.1.2.1.2.2.1 (G 8 l) I8).1
  have g8 := (z_g8 h.1.1 hl).1
  have g9 := (z_g9 h.1.1 hl).1
  have g13 := (z_g13 h.1.1 hl).1
  unfold f_X2_bringFly_67_1
  rw [z_rd (by omega) (by omega), z_rd (by omega) (by omega), z_rd (by omega) (by omega), g8, g9, g13]
  obtain ⟨X1, a1, a2⟩ := z_tiX h (pt := P 0) I8 (show G 9 l ≤ 1200 by omega) hL.2.1
  have K1 : z_K NC X1 M G Cd := z_K_fr h (fun k hk => a2 k (by omega) (by omega)) rfl
  have g3 := (z_g3 K1.1.1 I8).1
  have g12 := (z_g12 K1.1.1 hl).1
  have g14 := (z_g14 K1.1.1 hl).1
  have hv := z_tm_le (G := G) (day := G 9 l)
  obtain ⟨r, k1, k2, k3, k4⟩ := z_tok_ok K1 hv
  have hr : 88 < r ∧ r < 1000000 := by unfold z_tk at k2; omega
  have htb := z_tier_b (G := G) (Cd := Cd) (pt := P 0) (m := G 8 l) (day := G 9 l)
  have hmb := z_fm_b (G := G) (Cd := Cd) (P := P) (l := l)
  have heb := z_fe_b (G := G) (Cd := Cd) (P := P) (l := l)
  rw [a1, z_bn, z_inX K1 (by omega), z_bn, k1]
  have last : ∀ X3 : x_M, (∀ k, k ≠ 68 → k ≠ 69 → X3 k = X k) → ∃ X', f_X2_bringFly_67_1_169 NC X3 (nI (G 8 l)) (nI (G 9 l)) (nI (G 13 l)) (nI (z_fm G Cd P l)) (nI (z_fe G Cd P l)) = some (nI (z_fm G Cd P l), X') ∧ z_LX (x_up X' 76 l (nI (z_fm G Cd P l))) (z_hFS G Cd S P l) (z_hFP G Cd P l) ∧ z_lx X X' := by
    intro X3 h3
    have hl3 : z_lX X3 S := z_lX_fr hL.1 (by rw [h3 67 (by omega) (by omega)]) (h3 70 (by omega) (by omega)) (h3 71 (by omega) (by omega)) (h3 72 (by omega) (by omega))
    unfold f_X2_bringFly_67_1_169
    rw [z_add]
    obtain ⟨X4, b1, b2, b3, b4⟩ := z_come (m := G 8 l) (mi := z_fm G Cd P l) (la := G 9 l + z_fe G Cd P l) hl3 hB hm10 hn I8 (by omega)
    rw [b1, z_bn, z_dv (by omega) (by omega), z_div (by omega) (by omega) (by omega), z_mul, z_add, z_rd (by omega) (by omega), z_wr (by omega) (by omega), z_dv (by omega) (by omega), pk_rem (by omega) (by omega) (by omega), z_rd (by omega) (by omega), z_wr (by omega) (by omega), z_upn (by omega), show G 8 l * 4 + G 9 l / 360 = 4 * G 8 l + G 9 l / 360 by omega]
    have e73 : ∀ i, i < 40 → X4 73 i = P 0 i := fun i hi => by rw [b3 73 (by omega) (by omega) (by omega) (by omega), h3 73 (by omega) (by omega)]; exact hL.2.1 i hi
    have e74 : ∀ i, i < 4 → X4 74 i = P 1 i ∧ X4 75 i = P 2 i := fun i hi => by rw [b3 74 (by omega) (by omega) (by omega) (by omega), h3 74 (by omega) (by omega), b3 75 (by omega) (by omega) (by omega) (by omega), h3 75 (by omega) (by omega)]; exact hL.2.2.1 i hi
    have e76 : ∀ i, i < 100 → X4 76 i = nI (S 4 i) ∧ X4 77 i = nI (S 5 i) := fun i hi => by rw [b3 76 (by omega) (by omega) (by omega) (by omega), h3 76 (by omega) (by omega), b3 77 (by omega) (by omega) (by omega) (by omega), h3 77 (by omega) (by omega)]; exact hL.2.2.2 i hi
    rw [e73 _ (by omega), (e74 _ (by omega)).1]
    refine ⟨_, rfl, ⟨?_, fun i hi => ?_, fun i hi => ?_, fun i hi => ?_⟩, fun k hk => ?_⟩
    · unfold z_hFS
      refine z_lX_4 (z_lX_fr b2 ?_ ?_ ?_ ?_) (by omega)
      · rw [z_upn (by omega), z_upn (by omega), z_upn (by omega)]
      · rw [z_upn (by omega), z_upn (by omega), z_upn (by omega)]
      · rw [z_upn (by omega), z_upn (by omega), z_upn (by omega)]
      · rw [z_upn (by omega), z_upn (by omega), z_upn (by omega)]
    · unfold z_hFP
      rw [z_upn (by omega), z_upn (by omega), z_upr, z_pun (by omega)]
      by_cases e : i = 4 * G 8 l + G 9 l / 360
      · subst e
        rw [z_us, z_pus]
      · rw [z_un e, z_pun (by omega)]
        exact e73 i hi
    · unfold z_hFP
      rw [z_upn (by omega), z_upr, z_upn (by omega), z_upn (by omega), z_upn (by omega), z_upn (by omega)]
      refine ⟨?_, ?_⟩
      · by_cases e : i = G 13 l % 10
        · subst e
          rw [z_us, z_pus]
        · rw [z_un e, z_pun (by omega), z_pun (by omega)]
          exact (e74 i hi).1
      · rw [z_pun (by omega), z_pun (by omega)]
        exact (e74 i hi).2
    · unfold z_hFS
      rw [z_upr, z_upn (by omega), z_upn (by omega), z_upn (by omega), z_upn (by omega), z_upn (by omega)]
      refine ⟨?_, ?_⟩
      · by_cases e : i = l
        · subst e
          rw [z_us, z_gus]
        · rw [z_un e, z_gun (by omega), z_cm_o (by omega) (by omega)]
          exact (e76 i hi).1
      · rw [z_gun (by omega), z_cm_o (by omega) (by omega)]
        exact (e76 i hi).2
    · rw [z_upn (by omega), z_upn (by omega), b3 k (by omega) (by omega) (by omega) (by omega), h3 k (by omega) (by omega)]
  have key : ∀ X2 : x_M, (∀ k, k ≠ 68 → X2 k = X1 k) → X2 68 2 = nI (G 12 l) → X2 68 3 = nI (G 13 l / 10) → X2 68 8 = nI (z_tier G Cd (P 0) (G 8 l) (G 9 l)) → X2 68 9 = nI (G 3 (G 8 l)) → X2 68 4 = nI (G 13 l % 10) → X2 68 5 = nI (G 14 l) → ∃ X', x_bn (f_X1_workedOut NC X2 (nI r) (nI 0)) (fun r120 M => x_bn (f_X11_held M r120 (nI 0) (nI 99999)) (fun r126 M => if M 3 (G 8 l) = (nI 1) then f_X2_bringFly_67_1_169 NC M (nI (G 8 l)) (nI (G 9 l)) (nI (G 13 l)) r126 (nI 9999) else x_bn (f_X1_workedOut NC M (nI r) (nI 1)) (fun r157 M => x_bn (f_X11_held M r157 (nI 1) (nI 9999)) (fun r164 M => f_X2_bringFly_67_1_169 NC M (nI (G 8 l)) (nI (G 9 l)) (nI (G 13 l)) r126 r164)))) = some (nI (z_fm G Cd P l), X') ∧ z_LX (x_up X' 76 l (nI (z_fm G Cd P l))) (z_hFS G Cd S P l) (z_hFP G Cd P l) ∧ z_lx X X' := by
    intro X2 x0 x2 x3 x8 x9 x4 x5
    have henv : ∀ (Y : x_M), (∀ c, c ≠ 1 → Y 68 c = X2 68 c) → ∀ w b, w < 2 → b ∈ z_nm w → z_envX (Y 68) b = z_envF G (z_tier G Cd (P 0) (G 8 l) (G 9 l)) l b := by
      intro Y hY w b hw hb
      rw [z_envX_c hY]
      have hb' : b = 108 ∨ b = 102 ∨ b = 112 ∨ b = 99 ∨ b = 116 ∨ b = 107 := by
        rcases (show w = 0 ∨ w = 1 by omega) with rfl | rfl
        · have hb : b ∈ [108, 102, 112, 99, 116, 107] := hb
          simp only [List.mem_cons, List.not_mem_nil, or_false] at hb
          omega
        · have hb : b ∈ [116, 107] := hb
          simp only [List.mem_cons, List.not_mem_nil, or_false] at hb
          omega
      unfold z_envX z_envF
      rcases hb' with rfl | rfl | rfl | rfl | rfl | rfl <;> simp +decide only [if_true, if_false] <;> assumption
    have q2 : X2 r = X1 r := x0 r (by omega)
    have q3 : X2 (r + 1) = X1 (r + 1) := x0 (r + 1) (by omega)
    obtain ⟨X3, c1, c2⟩ := z_wkX (X := X2) (w := 0) k2 hN (by omega) (z_code_fr k4 q2 q3) (z_cdv_wf K1 hv (by omega)) (fun b hb => henv X2 (fun _ _ => rfl) 0 b (by omega) hb)
    have g3' : X3 3 (G 8 l) = nI (G 3 (G 8 l)) := by
      rw [c2.1 3 (by omega) (by omega), x0 3 (by omega)]
      exact g3
    have fr3 : ∀ k, k ≠ 68 → k ≠ 69 → X3 k = X k := fun k h1 h2 => by rw [c2.1 k h1 h2, x0 k h1, a2 k h1 h2]
    rw [c1, z_bn, z_heX (by omega) (by omega), z_bn, g3']
    by_cases cc : G 3 (G 8 l) = 1
    · have ee : z_fe G Cd P l = 9999 := by
        unfold z_fe
        rw [if_pos cc]
      have := last X3 fr3
      rw [ee] at this
      rw [if_pos (by rw [cc])]
      exact this
    · have ee : z_fe G Cd P l = z_hd (z_ev (z_envF G (z_tier G Cd (P 0) (G 8 l) (G 9 l)) l) (z_cdv Cd (z_tm G (G 9 l)) 1) []) 1 9999 := by
        unfold z_fe
        rw [if_neg cc]
      obtain ⟨X5, d1, d2⟩ := z_wkX (X := X3) (w := 1) k2 hN (by omega) (z_code_fr k4 (by rw [c2.1 r (by omega) (by omega), q2]) (by rw [c2.1 (r + 1) (by omega) (by omega), q3])) (z_cdv_wf K1 hv (by omega)) (fun b hb => henv X3 c2.2 1 b (by omega) hb)
      rw [if_neg (by rw [z_eq (by omega) (by omega)]; exact cc), d1, z_bn, z_heX (by omega) (by omega), z_bn, ← ee]
      exact last X5 (fun k h1 h2 => by rw [d2.1 k h1 h2, fr3 k h1 h2])
  have er : nI (G 13 l) - nI (G 13 l) / nI 10 * nI 10 = nI (G 13 l % 10) := pk_rem (by omega) (by omega) (by omega)
  unfold f_X1_forTrip f_X1_forMember
  simp only [er]
  simp (disch := omega) only [z_rd, z_upn, z_pf, z_bn, z_dv, g12, g14, g3, z_div]
  refine key _ (fun k hk => ?_) ?_ ?_ ?_ ?_ ?_ ?_
  · simp (disch := omega) only [z_upn]
  · simp (disch := omega) only [z_upr, z_un, z_us]
  · simp (disch := omega) only [z_upr, z_un, z_us]
  · simp (disch := omega) only [z_upr, z_un, z_us]
  · simp (disch := omega) only [z_upr, z_un, z_us]
  · simp (disch := omega) only [z_upr, z_un, z_us]
  · simp (disch := omega) only [z_upr, z_un, z_us]
