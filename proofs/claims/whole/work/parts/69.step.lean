/-! ===== a LINE happens: what stays true; the class ===== -/
def z_kn (G : z_G) (known i : Nat) : Bool := decide (G 10 i ≤ known ∧ (G 11 i = 0 ∨ known < G 11 i - 1))
theorem z_knX {NC : Nat} {X M : x_M} {G : z_G} {Cd : Nat → Nat → List Int32} (h : z_K NC X M G Cd) {i known : Nat} (hi : i < G 6 9) (hk : known ≤ 1200) : f_X3_isKnown X (nI i) (nI known) = some (if z_kn G known i = true then nI 1 else nI 0, X) := by
  have hL100 : G 6 9 ≤ 100 := h.1.2.1.1.2.2.1
  have hday : G 1 8 ≤ 1200 := h.1.2.1.1.1
  have I := h.1.2.1.2.2.2.1 i hi
  unfold z_IL at I
  have g10 := (z_g10 h.1.1 hi).1
  have g11 := (z_g11 h.1.1 hi).1
  unfold f_X3_isKnown f_X3_isKnown_31 f_X3_isKnown_35
  rw [z_rd (by omega) (by omega), z_rd (by omega) (by omega), z_rd (by omega) (by omega), g10, g11]
  by_cases c1 : known < G 10 i
  · have e : z_kn G known i = false := by
      unfold z_kn
      rw [decide_eq_false_iff_not]
      omega
    rw [if_pos (by rw [z_lt (by omega) (by omega)]; exact c1), e]
    rfl
  · rw [if_neg (by rw [z_lt (by omega) (by omega)]; exact c1)]
    by_cases c2 : G 11 i = 0
    · have e : z_kn G known i = true := by
        unfold z_kn
        rw [decide_eq_true_iff]
        omega
      rw [if_pos (by rw [c2]; rfl), e, if_pos rfl]
    · have en : z_eN (G 11 i) = nI (G 11 i - 1) := by
        unfold z_eN
        rw [if_neg c2]
      rw [en, if_neg (by rw [z_nn5 (by omega)]; exact id)]
      by_cases c3 : G 11 i - 1 ≤ known
      · have e : z_kn G known i = false := by
          unfold z_kn
          rw [decide_eq_false_iff_not]
          omega
        rw [if_pos (by rw [z_le (by omega) (by omega)]; exact c3), e]
        rfl
      · have e : z_kn G known i = true := by
          unfold z_kn
          rw [decide_eq_true_iff]
          omega
        rw [if_neg (by rw [z_le (by omega) (by omega)]; exact c3), e, if_pos rfl]
theorem z_knM {NC : Nat} {X M : x_M} {G : z_G} {Cd : Nat → Nat → List Int32} (h : z_K NC X M G Cd) {i known : Nat} (hi : i < G 6 9) (hk : known ≤ 1200) : f_X12_isKnown M (nI i) (nI known) = some (if z_kn G known i = true then nI 1 else nI 0, M) := by
  have hL100 : G 6 9 ≤ 100 := h.1.2.1.1.2.2.1
  have hday : G 1 8 ≤ 1200 := h.1.2.1.1.1
  have I := h.1.2.1.2.2.2.1 i hi
  unfold z_IL at I
  have g10 := (z_g10 h.1.1 hi).2
  have g11 := (z_g11 h.1.1 hi).2
  unfold f_X12_isKnown f_X12_isKnown_44 f_X12_isKnown_48
  simp only [z_mul, z_add, show 50 + 10 * i + 3 = 53 + 10 * i by omega, show 50 + 10 * i + 4 = 54 + 10 * i by omega]
  rw [z_rd (by omega) (by omega), z_rd (by omega) (by omega), z_rd (by omega) (by omega), g10, g11]
  by_cases c1 : known < G 10 i
  · have e : z_kn G known i = false := by
      unfold z_kn
      rw [decide_eq_false_iff_not]
      omega
    rw [if_pos (by rw [z_lt (by omega) (by omega)]; exact c1), e]
    rfl
  · rw [if_neg (by rw [z_lt (by omega) (by omega)]; exact c1)]
    by_cases c2 : G 11 i = 0
    · have e : z_kn G known i = true := by
        unfold z_kn
        rw [decide_eq_true_iff]
        omega
      rw [if_pos (by rw [c2]; rfl), e, if_pos rfl]
    · have en : z_eO (G 11 i) = nI (G 11 i - 1) := by
        unfold z_eO
        rw [if_neg c2]
      rw [en, if_neg (by rw [z_nm1 (by omega)]; exact id)]
      by_cases c3 : G 11 i - 1 ≤ known
      · have e : z_kn G known i = false := by
          unfold z_kn
          rw [decide_eq_false_iff_not]
          omega
        rw [if_pos (by rw [z_le (by omega) (by omega)]; exact c3), e]
        rfl
      · have e : z_kn G known i = true := by
          unfold z_kn
          rw [decide_eq_true_iff]
          omega
        rw [if_neg (by rw [z_le (by omega) (by omega)]; exact c3), e, if_pos rfl]
def z_iv (G S : z_G) (c : Nat) : Prop := z_lB (G 2 3) S ∧ S 0 0 ≤ c ∧ (∀ i, S 5 i ≤ 1) ∧ ∀ i, i < G 6 9 → G 7 i = 1 → S 4 i = 0 ∨ S 4 i = G 12 i
theorem z_lB_4 {S : z_G} {mm k i v : Nat} (h : z_lB mm S) (hk : 4 ≤ k) : z_lB mm (z_gu S k i v) := by
  unfold z_lB
  rw [z_gun (by omega)]
  refine ⟨h.1, fun j hj => ?_⟩
  rw [z_gun (by omega), z_gun (by omega), z_gun (by omega)]
  exact h.2 j hj
theorem z_hap_iv {G S : z_G} {P : z_PP} {Cd : Nat → Nat → List Int32} (hI : z_I G) {c l : Nat} (h : z_iv G S c) (hc : c < 100) (hl : l < G 6 9) : z_iv G (z_hapS G Cd S P l) (c + 1) ∧ ∀ i, i ≠ l → z_hapS G Cd S P l 4 i = S 4 i := by
  obtain ⟨h1, h2, h3, h4⟩ := h
  have hday : G 1 8 ≤ 1200 := hI.1.1
  have hgr : G 31 1 ≤ 999 := by
    have := hI.1
    unfold z_IS at this
    omega
  have I := hI.2.2.2.1 l hl
  unfold z_IL at I
  obtain ⟨I7, I8, I9, I10, -, I12a, I12, I14, I13, -, -, I2, I3⟩ := I
  have keep : z_iv G S (c + 1) ∧ ∀ i, i ≠ l → S 4 i = S 4 i := ⟨⟨h1, by omega, h3, h4⟩, fun _ _ => rfl⟩
  unfold z_hapS
  by_cases k0 : G 7 l = 0
  · rw [if_pos k0]
    unfold z_hFS
    have hmb := z_fm_b (G := G) (Cd := Cd) (P := P) (l := l)
    have heb := z_fe_b (G := G) (Cd := Cd) (P := P) (l := l)
    refine ⟨⟨z_lB_4 (z_cm_B h1 (by omega) I8 hmb (by omega)) (by omega), ?_, fun i => ?_, fun i hi h7 => ?_⟩, fun i hi => ?_⟩
    · rw [z_gun (by omega), z_cm_n.1]
      omega
    · rw [z_gun (by omega), z_cm_o (by omega) (by omega)]
      exact h3 i
    · rw [z_gun (Or.inr (fun e => by subst e; omega)), z_cm_o (by omega) (by omega)]
      exact h4 i hi h7
    · rw [z_gun (by omega), z_cm_o (by omega) (by omega)]
  · rw [if_neg k0]
    by_cases k1 : G 7 l = 1
    · rw [if_pos k1]
      unfold z_hSS
      split
      · exact keep
      · have kp := (z_tkl_k (G := G) (day := G 9 l) (pl := 1) (m := G 8 l) (z_oL S) S (G 12 l) 0).1
        have kp' : ∀ k i, k ≠ 2 → (z_tkS G S (G 9 l) 1 (G 8 l) (G 12 l)).1 k i = S k i := kp
        refine ⟨⟨z_lB_4 (z_takeB h1) (by omega), ?_, fun i => ?_, fun i hi h7 => ?_⟩, fun i hi => ?_⟩
        · rw [z_gun (by omega), kp' 0 0 (by omega)]
          omega
        · rw [z_gun (by omega), kp' 5 i (by omega)]
          exact h3 i
        · by_cases e : i = l
          · rw [e, z_gus]
            exact Or.inr rfl
          · rw [z_gun (by omega), kp' 4 i (by omega)]
            exact h4 i hi h7
        · rw [z_gun (by omega), kp' 4 i (by omega)]
    · rw [if_neg k1]
      by_cases k2 : G 7 l = 2
      · rw [if_pos k2]
        have I2 := I2 k2
        unfold z_hGS
        split
        · exact keep
        · rename_i hth
          have kp := (z_tkl_k (G := G) (day := G 9 l) (pl := 0) (m := G 8 l) (z_oL S) S (G 12 l) 0).1
          have kp' : ∀ k i, k ≠ 2 → (z_tkS G S (G 9 l) 0 (G 8 l) (G 12 l)).1 k i = S k i := kp
          obtain ⟨la, la1, la2⟩ := z_takeF (G := G) (day := G 9 l) (pl := 0) (m := G 8 l) (left := G 12 l) h1 (by omega) (by omega)
          have e0 := kp' 0 0 (by omega)
          refine ⟨⟨z_lB_4 (z_cm_B (z_takeB h1) (by omega) (by omega) (by omega) (by omega)) (by omega), ?_, fun i => ?_, fun i hi h7 => ?_⟩, fun i hi => ?_⟩
          · rw [z_gun (by omega), z_cm_n.1, e0]
            omega
          · rw [z_gun (by omega), z_cm_o (by omega) (by omega), kp' 5 i (by omega)]
            exact h3 i
          · rw [z_gun (Or.inr (fun e => by subst e; omega)), z_cm_o (by omega) (by omega), kp' 4 i (by omega)]
            exact h4 i hi h7
          · rw [z_gun (by omega), z_cm_o (by omega) (by omega), kp' 4 i (by omega)]
      · rw [if_neg k2]
        obtain ⟨J1, J2, J3, J4, J5⟩ := I3 (by omega)
        unfold z_hBS
        split
        · exact keep
        · have e0 : z_gu S 5 (G 13 l) 1 0 0 = S 0 0 := z_gun (by omega)
          refine ⟨⟨z_lB_4 (z_cm_B (z_lB_4 h1 (by omega)) (by omega) I8 (by omega) (by omega)) (by omega), ?_, fun i => ?_, fun i hi h7 => ?_⟩, fun i hi => ?_⟩
          · rw [z_gun (by omega), z_cm_n.1, e0]
            omega
          · rw [z_gun (by omega), z_cm_o (by omega) (by omega)]
            by_cases e : i = G 13 l
            · rw [e, z_gus]
              omega
            · rw [z_gun (by omega)]
              exact h3 i
          · rw [z_gun (Or.inr (fun e => by subst e; omega)), z_cm_o (by omega) (by omega), z_gun (by omega)]
            exact h4 i hi h7
          · rw [z_gun (by omega), z_cm_o (by omega) (by omega), z_gun (by omega)]
theorem z_hpX {NC : Nat} {X M : x_M} {G S : z_G} {P : z_PP} {Cd : Nat → Nat → List Int32} (h : z_K NC X M G Cd) (hL : z_LX X S P) {c l : Nat} (hv : z_iv G S c) (hc : c < 100) (hl : l < G 6 9) (h0 : S 4 l = 0) {β : Type} {K : x_M → Option β} : ∃ X', (if nI (G 7 l) = (nI 0) then x_bn (f_X2_bringFly_67_1 NC X (nI l)) (fun r142 M => x_wr 100 M 76 (nI l) r142 K) else if nI (G 7 l) = (nI 1) then x_bn (f_X2_bringSpend_67_1 X (nI l)) (fun r159 M => x_wr 100 M 76 (nI l) r159 K) else if nI (G 7 l) = (nI 2) then x_bn (f_X2_bringGift_67_1 X (nI l)) (fun r176 M => x_wr 100 M 76 (nI l) r176 K) else x_bn (f_X2_bringBack_67_1 X (nI l)) (fun r193 M => x_wr 100 M 76 (nI l) r193 K)) = K X' ∧ z_LX X' (z_hapS G Cd S P l) (z_hapP G Cd S P l) ∧ z_lx X X' := by
  have hL100 : G 6 9 ≤ 100 := h.1.2.1.1.2.2.1
  obtain ⟨h1, h2, h3, h4⟩ := hv
  have I := h.1.2.1.2.2.2.1 l hl
  unfold z_IL at I
  obtain ⟨I7, I8, I9, I10, -, I12a, I12, I14, I13, -, -, I2, I3⟩ := I
  have up : ∀ (X1 : x_M) (v : Int32), z_lx X X1 → z_lx X (x_up X1 76 l v) := fun X1 v hh k hk => by rw [z_upn (by omega), hh k hk]
  unfold z_hapS z_hapP
  simp (disch := omega) only [z_eq]
  by_cases k0 : G 7 l = 0
  · simp only [if_pos k0]
    obtain ⟨X1, a1, a2, a3⟩ := z_flX h hL h1 (by omega) hl k0
    rw [a1, z_bn, z_wr (by omega) (by omega)]
    exact ⟨_, rfl, a2, up _ _ a3⟩
  · simp only [if_neg k0]
    by_cases k1 : G 7 l = 1
    · simp only [if_pos k1]
      obtain ⟨X1, a1, a2, a3⟩ := z_spX h hL h1 hl k1 h0
      rw [a1, z_bn, z_wr (by omega) (by omega)]
      exact ⟨_, rfl, a2, up _ _ a3⟩
    · simp only [if_neg k1]
      by_cases k2 : G 7 l = 2
      · simp only [if_pos k2]
        obtain ⟨X1, a1, a2, a3⟩ := z_giX h hL h1 (by omega) hl k2 h0
        rw [a1, z_bn, z_wr (by omega) (by omega)]
        exact ⟨_, rfl, a2, up _ _ a3⟩
      · simp only [if_neg k2]
        obtain ⟨J1, J2, J3, J4, J5⟩ := I3 (by omega)
        obtain ⟨X1, a1, a2, a3⟩ := z_baX h hL h1 (by omega) hl (by omega) h0 (h4 _ (by omega) J2) (h3 _)
        rw [a1, z_bn, z_wr (by omega) (by omega)]
        exact ⟨_, rfl, a2, up _ _ a3⟩
