/-! ===== a FLY: the reference ===== -/
theorem z_hd_n {a lo hi : Nat} (h1 : lo ≤ a) (h2 : a ≤ hi) (h3 : a < 2147483648) : z_hd (nI a) lo hi = a := by
  unfold z_hd
  rw [nI_toInt h3]
  by_cases c1 : (a : Int) ≤ lo
  · rw [if_pos c1]
    omega
  · rw [if_neg c1]
    by_cases c2 : (hi : Int) ≤ a
    · rw [if_pos c2]
      omega
    · rw [if_neg c2]
      omega
theorem z_fm_0 {G : z_G} {Cd : Nat → Nat → List Int32} {P : z_PP} {l : Nat} (h0 : z_tm G (G 9 l) = 0) (h : G 12 l ≤ 9999) : z_fm G Cd P l = G 12 l := by
  unfold z_fm z_cdv
  rw [h0, if_pos rfl]
  have e : z_ev (z_envF G (z_tier G Cd (P 0) (G 8 l) (G 9 l)) l) (z_cdp 0) [] = nI (G 12 l) := by
    show z_ev _ [-108] [] = _
    rw [z_ev, z_ev]
    have e2 : z_e1 (z_envF G (z_tier G Cd (P 0) (G 8 l) (G 9 l)) l) (-108) [] = [nI (G 12 l)] := by
      unfold z_e1
      rw [if_neg (by decide), if_pos (by decide), show (-(-108 : Int32)).toNatClampNeg = 108 by decide]
      unfold z_envF
      simp +decide only [if_true, if_false]
    rw [e2]
    rfl
  rw [e, z_hd_n (by omega) (by omega) (by omega)]
theorem z_fe_0 {G : z_G} {Cd : Nat → Nat → List Int32} {P : z_PP} {l : Nat} (h0 : z_tm G (G 9 l) = 0) : z_fe G Cd P l = if G 3 (G 8 l) = 1 then 9999 else 720 := by
  unfold z_fe z_cdv
  rw [h0, if_pos rfl]
  have e : z_ev (z_envF G (z_tier G Cd (P 0) (G 8 l) (G 9 l)) l) (z_cdp 1) [] = nI 720 := by
    show z_ev _ [nI 720] [] = _
    rw [z_ev, z_ev]
    have e2 : z_e1 (z_envF G (z_tier G Cd (P 0) (G 8 l) (G 9 l)) l) (nI 720) [] = [nI 720] := by
      unfold z_e1
      rw [if_pos (by decide)]
    rw [e2]
    rfl
  rw [e, z_hd_n (by omega) (by omega) (by omega)]
theorem z_flM {NC : Nat} {X M : x_M} {G S : z_G} {P : z_PP} {Cd : Nat → Nat → List Int32} (h : z_K NC X M G Cd) (hL : z_LM (G 6 9) M S P) (hB : z_lB (G 2 3) S) (hn : S 0 0 < 100) {l : Nat} (hl : l < G 6 9) (hk : G 7 l = 0) : ∃ M', f_X12_flies M (nI l) = some ((), M') ∧ z_LM (G 6 9) M' (z_hFS G Cd S P l) (z_hFP G Cd P l) ∧ z_lm M M' := by
  have hL100 : G 6 9 ≤ 100 := h.1.2.1.1.2.2.1
  have hm10 : G 2 3 ≤ 10 := h.1.2.1.1.2.1
  have hday : G 1 8 ≤ 1200 := h.1.2.1.1.1
  have h4 : G 16 2 ≤ 4 := h.1.2.1.1.2.2.2.1
  have I := h.1.2.1.2.2.2.1 l hl
  unfold z_IL at I
  obtain ⟨I7, I8, I9, I10, -, I12a, I12, I14, I13, I0, -⟩ := I
  obtain ⟨I0a, I0b, I0c⟩ := I0 hk
  have I3 := (h.1.2.1.2.2.1 (G 8 l) I8).1
  have hmb := z_fm_b (G := G) (Cd := Cd) (P := P) (l := l)
  have heb := z_fe_b (G := G) (Cd := Cd) (P := P) (l := l)
  have htb := z_tier_b (G := G) (Cd := Cd) (pt := P 0) (m := G 8 l) (day := G 9 l)
  have last : ∀ (M3 : x_M) (v7 : Nat), (∀ k, k ≠ 6 → k ≠ 7 → M3 k = M k) → z_fe G Cd P l = (if G 3 (G 8 l) = 1 then 9999 else v7) → ∃ M', f_X12_flies_194 M3 (nI l) (nI (50 + 10 * l)) (nI (G 8 l)) (nI (G 3 (G 8 l))) (nI (z_fm G Cd P l)) (nI v7) = some ((), M') ∧ z_LM (G 6 9) M' (z_hFS G Cd S P l) (z_hFP G Cd P l) ∧ z_lm M M' := by
    intro M3 v7 h3 hfe
    have hl3 : z_lM M3 S := z_lM_fr hL.1 (by rw [h3 0 (by omega) (by omega)]) (h3 8 (by omega) (by omega)) (h3 9 (by omega) (by omega)) (h3 10 (by omega) (by omega))
    have e208 : f_X12_flies_194 M3 (nI l) (nI (50 + 10 * l)) (nI (G 8 l)) (nI (G 3 (G 8 l))) (nI (z_fm G Cd P l)) (nI v7) = f_X12_flies_208 M3 (nI l) (nI (50 + 10 * l)) (nI (G 8 l)) (nI (z_fm G Cd P l)) (nI (z_fe G Cd P l)) := by
      unfold f_X12_flies_194
      by_cases cc : G 3 (G 8 l) = 1
      · rw [if_pos (by rw [cc]), hfe, if_pos cc]
      · rw [if_neg (by rw [z_eq (by omega) (by omega)]; exact cc), hfe, if_neg cc]
    rw [e208]
    unfold f_X12_flies_208
    have m1 : M3 1 = M 1 := h3 1 (by omega) (by omega)
    have g9 : M3 1 (52 + 10 * l) = nI (G 9 l) := by
      rw [m1]
      exact (z_g9 h.1.1 hl).2
    have g13 : M3 1 (56 + 10 * l) = nI (G 13 l) := by
      rw [m1]
      exact (z_g13 h.1.1 hl).2
    obtain ⟨M4, b1, b2, b3, b4⟩ := z_cm_M (m := G 8 l) (mi := z_fm G Cd P l) (la := G 9 l + z_fe G Cd P l) hl3 hn
    have m4 : M4 1 = M3 1 := b3 1 (by omega) (by omega) (by omega) (by omega)
    have e11 : ∀ i, i < 40 → M4 11 i = P 0 i := fun i hi => by rw [b3 11 (by omega) (by omega) (by omega) (by omega), h3 11 (by omega) (by omega)]; exact hL.2.1 i hi
    have e12 : ∀ i, i < 4 → M4 12 i = P 1 i ∧ M4 13 i = P 2 i := fun i hi => by rw [b3 12 (by omega) (by omega) (by omega) (by omega), h3 12 (by omega) (by omega), b3 13 (by omega) (by omega) (by omega) (by omega), h3 13 (by omega) (by omega)]; exact hL.2.2.1 i hi
    have e14 : ∀ i, i < G 6 9 → M4 14 i = nI (S 4 i) ∧ M4 16 i = nI (S 5 i) := fun i hi => by rw [b3 14 (by omega) (by omega) (by omega) (by omega), h3 14 (by omega) (by omega), b3 16 (by omega) (by omega) (by omega) (by omega), h3 16 (by omega) (by omega)]; exact hL.2.2.2 i hi
    have u1 : ∀ (p : Nat) (v : Int32), (x_up M4 11 p v) 1 = M3 1 := fun p v => by rw [z_upn (by omega), m4]
    rw [z_add, z_rd (by omega) (by omega), show 50 + 10 * l + 2 = 52 + 10 * l by omega, g9, z_add, b1, z_bn, z_rd (by omega) (by omega), m4, g9, z_dv (by omega) (by omega), z_div (by omega) (by omega) (by omega), z_mul, z_add, z_rd (by omega) (by omega), z_wr (by omega) (by omega), z_add, z_rd (by omega) (by omega), u1, show 50 + 10 * l + 6 = 56 + 10 * l by omega, g13, pk_rem (by omega) (by omega) (by omega), z_dv (by omega) (by omega), z_rd (by omega) (by omega), z_wr (by omega) (by omega), z_wr (by omega) (by omega), z_upn (by omega), e11 _ (by omega), (e12 _ (by omega)).1]
    refine ⟨_, rfl, ⟨?_, fun i hi => ?_, fun i hi => ?_, fun i hi => ?_⟩, fun k k0 hk => ?_, fun c hc => ?_⟩
    · unfold z_hFS
      refine z_lM_4 (z_lM_fr b2 ?_ ?_ ?_ ?_) (by omega)
      · rw [z_upn (by omega), z_upn (by omega), z_upn (by omega)]
      · rw [z_upn (by omega), z_upn (by omega), z_upn (by omega)]
      · rw [z_upn (by omega), z_upn (by omega), z_upn (by omega)]
      · rw [z_upn (by omega), z_upn (by omega), z_upn (by omega)]
    · unfold z_hFP
      rw [z_upn (by omega), z_upn (by omega), z_upr, z_pun (by omega)]
      by_cases e : i = 4 * G 8 l + G 9 l / 360
      · subst e
        rw [z_us, z_pus]
      · rw [z_un e, z_pun (by omega)]
        exact e11 i hi
    · unfold z_hFP
      rw [z_upn (by omega), z_upr, z_upn (by omega), z_upn (by omega), z_upn (by omega), z_upn (by omega)]
      refine ⟨?_, ?_⟩
      · by_cases e : i = G 13 l % 10
        · subst e
          rw [z_us, z_pus]
        · rw [z_un e, z_pun (by omega), z_pun (by omega)]
          exact (e12 i hi).1
      · rw [z_pun (by omega), z_pun (by omega)]
        exact (e12 i hi).2
    · unfold z_hFS
      rw [z_upr, z_upn (by omega), z_upn (by omega), z_upn (by omega), z_upn (by omega), z_upn (by omega)]
      refine ⟨?_, ?_⟩
      · by_cases e : i = l
        · subst e
          rw [z_us, z_gus]
        · rw [z_un e, z_gun (by omega), z_cm_o (by omega) (by omega)]
          exact (e14 i hi).1
      · rw [z_gun (by omega), z_cm_o (by omega) (by omega)]
        exact (e14 i hi).2
    · rw [z_upn (by omega), z_upn (by omega), z_upn (by omega), b3 k (by omega) (by omega) (by omega) (by omega), h3 k (by omega) (by omega)]
    · rw [z_upn (by omega), z_upn (by omega), z_upn (by omega), b4 c hc, h3 0 (by omega) (by omega)]
  have g8 := (z_g8 h.1.1 hl).2
  have g9 := (z_g9 h.1.1 hl).2
  have g12 := (z_g12 h.1.1 hl).2
  have g3 := (z_g3 h.1.1 I8).2
  unfold f_X12_flies
  simp only [z_mul, z_add, show 50 + 10 * l + 1 = 51 + 10 * l by omega, show 50 + 10 * l + 2 = 52 + 10 * l by omega, show 50 + 10 * l + 5 = 55 + 10 * l by omega, show 50 + 10 * l + 6 = 56 + 10 * l by omega, show 50 + 10 * l + 7 = 57 + 10 * l by omega]
  rw [z_rd (by omega) (by omega), g8, z_mul, z_add, z_rd (by omega) (by omega), g3, z_rd (by omega) (by omega), g9, z_inM h (by omega), z_bn, z_rd (by omega) (by omega), g12]
  by_cases c0 : z_tm G (G 9 l) = 0
  · rw [c0, if_pos (show z_eO 0 = -1 by decide), ← z_fm_0 (Cd := Cd) (P := P) c0 I0a]
    exact last M 720 (fun _ _ _ => rfl) (z_fe_0 c0)
  · have hv := z_tm_le (G := G) (day := G 9 l)
    have ev : z_eO (z_tm G (G 9 l)) = nI (z_tm G (G 9 l) - 1) := by
      unfold z_eO
      rw [if_neg c0]
    obtain ⟨M1, a1, a2⟩ := z_tiM h (pt := P 0) I8 (show G 9 l ≤ 1200 by omega) hL.2.1
    rw [ev, if_neg (by rw [z_nm1 (by omega)]; exact id), z_rd (by omega) (by omega), g9, a1, z_bn]
    have m1 : M1 1 = M 1 := a2 1 (by omega) (by omega)
    have g12' : M1 1 (55 + 10 * l) = nI (G 12 l) := by
      rw [m1]
      exact g12
    have g13' : M1 1 (56 + 10 * l) = nI (G 13 l) := by
      rw [m1]
      exact (z_g13 h.1.1 hl).2
    have g14' : M1 1 (57 + 10 * l) = nI (G 14 l) := by
      rw [m1]
      exact (z_g14 h.1.1 hl).2
    obtain ⟨-, -, w1, w2, -⟩ := h.1.2.2.2.2.2 (z_tm G (G 9 l) - 1) (by omega)
    have hlen := z_ter_len h.1.2.2.2.2 (z_tm G (G 9 l) - 1) (by omega)
    have ecd : ∀ w, z_cdv Cd (z_tm G (G 9 l)) w = Cd (z_tm G (G 9 l) - 1) w := fun w => by
      unfold z_cdv
      rw [if_neg c0]
    have key : ∀ M2 : x_M, (∀ k, k ≠ 7 → M2 k = M1 k) → M2 7 108 = nI (G 12 l) → M2 7 102 = nI (G 13 l / 10) → M2 7 116 = nI (z_tier G Cd (P 0) (G 8 l) (G 9 l)) → M2 7 107 = nI (G 3 (G 8 l)) → M2 7 112 = nI (G 13 l % 10) → M2 7 99 = nI (G 14 l) → ∃ M', x_bn (f_X12_worked M2 (nI (z_tm G (G 9 l) - 1)) (nI 0)) (fun r167 M => x_bn (f_X12_within M r167 (nI 0) (nI 99999)) (fun r173 M => x_bn (f_X12_worked M (nI (z_tm G (G 9 l) - 1)) (nI 1)) (fun r182 M => x_bn (f_X12_within M r182 (nI 1) (nI 9999)) (fun r189 M => f_X12_flies_194 M (nI l) (nI (50 + 10 * l)) (nI (G 8 l)) (nI (G 3 (G 8 l))) r173 r189)))) = some ((), M') ∧ z_LM (G 6 9) M' (z_hFS G Cd S P l) (z_hFP G Cd P l) ∧ z_lm M M' := by
      intro M2 x0 x2 x3 x8 x9 x4 x5
      have henv : ∀ w b, w < 2 → b ∈ z_nm w → M2 7 b = z_envF G (z_tier G Cd (P 0) (G 8 l) (G 9 l)) l b := by
        intro w b hw hb
        have hb' : b = 108 ∨ b = 102 ∨ b = 112 ∨ b = 99 ∨ b = 116 ∨ b = 107 := by
          rcases (show w = 0 ∨ w = 1 by omega) with rfl | rfl
          · have hb : b ∈ [108, 102, 112, 99, 116, 107] := hb
            simp only [List.mem_cons, List.not_mem_nil, or_false] at hb
            omega
          · have hb : b ∈ [116, 107] := hb
            simp only [List.mem_cons, List.not_mem_nil, or_false] at hb
            omega
        unfold z_envF
        rcases hb' with rfl | rfl | rfl | rfl | rfl | rfl <;> simp +decide only [if_true, if_false] <;> assumption
      have q2 : M2 1 = M 1 := by rw [x0 1 (by omega), m1]
      obtain ⟨M3, c1, c2⟩ := z_wkM (M := M2) (env := z_envF G (z_tier G Cd (P 0) (G 8 l) (G 9 l)) l) (k := z_tm G (G 9 l) - 1) (w := 0) (by omega) (by omega) (hlen 0 (by omega)) (by rw [q2]; exact w1) (w2 0 (by omega)) (fun b hb => henv 0 b (by omega) hb)
      obtain ⟨M5, d1, d2⟩ := z_wkM (M := M3) (env := z_envF G (z_tier G Cd (P 0) (G 8 l) (G 9 l)) l) (k := z_tm G (G 9 l) - 1) (w := 1) (by omega) (by omega) (hlen 1 (by omega)) (by rw [c2 1 (by omega), q2]; exact w1) (w2 1 (by omega)) (fun b hb => by rw [c2 7 (by omega)]; exact henv 1 b (by omega) hb)
      rw [← ecd] at c1 d1
      rw [c1, z_bn, z_heM (by omega) (by omega), z_bn, d1, z_bn, z_heM (by omega) (by omega), z_bn]
      exact last M5 _ (fun k h1 h2 => by rw [d2 k h1, c2 k h1, x0 k h2, a2 k h1 h2]) rfl
    have er : nI (G 13 l) - nI (G 13 l) / nI 10 * nI 10 = nI (G 13 l % 10) := pk_rem (by omega) (by omega) (by omega)
    have ed : nI (G 13 l) / nI 10 = nI (G 13 l / 10) := z_div (by omega) (by omega) (by omega)
    simp (disch := omega) only [z_rd, z_wr, z_upn, z_bn, z_dv, g12', g13', g14']
    simp only [er]
    simp only [ed]
    refine key _ (fun k hk => ?_) ?_ ?_ ?_ ?_ ?_ ?_
    · simp (disch := omega) only [z_upn]
    · simp (disch := omega) only [z_upr, z_un, z_us]
    · simp (disch := omega) only [z_upr, z_un, z_us]
    · simp (disch := omega) only [z_upr, z_un, z_us]
    · simp (disch := omega) only [z_upr, z_un, z_us]
    · simp (disch := omega) only [z_upr, z_un, z_us]
    · simp (disch := omega) only [z_upr, z_un, z_us]
