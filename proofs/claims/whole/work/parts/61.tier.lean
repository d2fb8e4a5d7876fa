/-! ===== held between two ===== -/
def z_hd (a : Int32) (lo hi : Nat) : Nat := if a.toInt ≤ lo then lo else if (hi : Int) ≤ a.toInt then hi else a.toInt.toNat
theorem z_hd_b {a : Int32} {lo hi : Nat} (h : lo ≤ hi) : lo ≤ z_hd a lo hi ∧ z_hd a lo hi ≤ hi := by
  unfold z_hd
  split
  · omega
  · split <;> omega
theorem z_nIi {a : Int32} (h : 0 ≤ a.toInt) : a = nI a.toInt.toNat := by
  have := Int32.toInt_lt a
  refine Int32.toInt_inj.mp ?_
  rw [nI_toInt (by omega)]
  omega
theorem z_heX {X : x_M} {a : Int32} {lo hi : Nat} (h : lo ≤ hi) (hh : hi < 2147483648) : f_X11_held X a (nI lo) (nI hi) = some (nI (z_hd a lo hi), X) := by
  unfold f_X11_held z_hd
  by_cases h1 : a.toInt ≤ lo
  · rw [if_pos h1]
    by_cases h2 : a < nI hi
    · rw [if_pos h2, if_neg (by rw [Int32.lt_iff_toInt_lt, nI_toInt (by omega)]; omega)]
    · rw [if_neg h2]
      rw [Int32.lt_iff_toInt_lt, nI_toInt (by omega)] at h2
      rw [if_neg (by rw [z_lt (by omega) (by omega)]; omega)]
  · rw [if_neg h1]
    by_cases h2 : (hi : Int) ≤ a.toInt
    · rw [if_pos h2, if_neg (show ¬ a < nI hi by rw [Int32.lt_iff_toInt_lt, nI_toInt (by omega)]; omega)]
      by_cases h3 : lo < hi
      · rw [if_pos (by rw [z_lt (by omega) (by omega)]; exact h3)]
      · rw [if_neg (by rw [z_lt (by omega) (by omega)]; exact h3), show lo = hi by omega]
    · rw [if_neg h2, if_pos (show a < nI hi by rw [Int32.lt_iff_toInt_lt, nI_toInt (by omega)]; omega), if_pos (by rw [Int32.lt_iff_toInt_lt, nI_toInt (by omega)]; omega), ← z_nIi (by omega)]
theorem z_heM {M : x_M} {a : Int32} {lo hi : Nat} (h : lo ≤ hi) (hh : hi < 2147483648) : f_X12_within M a (nI lo) (nI hi) = some (nI (z_hd a lo hi), M) := by
  unfold f_X12_within f_X12_more f_X12_less z_hd
  by_cases h1 : a.toInt ≤ lo
  · rw [if_pos h1]
    by_cases h2 : a ≤ nI lo
    · rw [if_pos h2, z_bn]
      by_cases h3 : hi ≤ lo
      · rw [if_pos (by rw [z_le (by omega) (by omega)]; exact h3), z_bn, show hi = lo by omega]
      · rw [if_neg (by rw [z_le (by omega) (by omega)]; exact h3), z_bn]
    · rw [Int32.le_iff_toInt_le, nI_toInt (by omega)] at h2
      omega
  · rw [if_neg h1, if_neg (show ¬ a ≤ nI lo by rw [Int32.le_iff_toInt_le, nI_toInt (by omega)]; omega), z_bn]
    by_cases h2 : (hi : Int) ≤ a.toInt
    · rw [if_pos h2, if_pos (show nI hi ≤ a by rw [Int32.le_iff_toInt_le, nI_toInt (by omega)]; omega), z_bn]
    · rw [if_neg h2, if_neg (show ¬ nI hi ≤ a by rw [Int32.le_iff_toInt_le, nI_toInt (by omega)]; omega), z_bn, ← z_nIi (by omega)]
theorem z_moN {M : x_M} {a b : Nat} (ha : a < 2147483648) (hb : b < 2147483648) : f_X12_more M (nI a) (nI b) = some (nI (max a b), M) := by
  unfold f_X12_more
  simp only [z_le ha hb]
  by_cases h : a ≤ b
  · rw [if_pos h, Nat.max_eq_right h]
  · rw [if_neg h, Nat.max_eq_left (by omega)]
/-! ===== which TERMS are in force ===== -/
def z_tmf (G : z_G) (day : Nat) : Nat → Nat → Nat → Nat
  | 0, _, v => v
  | e + 1, i, v => z_tmf G day e (i + 1) (if G 34 i ≤ day ∧ (v = 0 ∨ G 34 (v - 1) ≤ G 34 i) then i + 1 else v)
def z_tm (G : z_G) (day : Nat) : Nat := z_tmf G day (G 16 2) 0 0
def z_tok (X : x_M) (v : Nat) : Int32 := if v = 0 then nI 89 else X 17 (v - 1)
def z_cdv (Cd : Nat → Nat → List Int32) (v : Nat) : Nat → List Int32 := if v = 0 then z_cdp else Cd (v - 1)
theorem z_tmf_le {G : z_G} {day n : Nat} : ∀ (e i v : Nat), v ≤ n → i + e ≤ n → z_tmf G day e i v ≤ n
  | 0, i, v, h, _ => h
  | e + 1, i, v, h, h' => by
    rw [z_tmf]
    refine z_tmf_le e (i + 1) _ ?_ (by omega)
    split <;> omega
def z_K (NC : Nat) (X M : x_M) (G : z_G) (Cd : Nat → Nat → List Int32) : Prop := z_cl NC X 0 (M 1) G Cd ∧ z_pl NC X
theorem z_K_fr {NC : Nat} {X M X' M' : x_M} {G : z_G} {Cd : Nat → Nat → List Int32} (h : z_K NC X M G Cd) (hX : ∀ k, (1 ≤ k ∧ k ≤ 33) ∨ k = 50 ∨ 88 ≤ k → X' k = X k) (hM : M' 1 = M 1) : z_K NC X' M' G Cd := by
  refine ⟨?_, z_pl_fr h.2 (fun k hk => hX k (by omega))⟩
  rw [hM]
  exact z_cl_fr h.1 (fun k hk => hX k (by omega)) (fun _ _ => rfl)
theorem z_tok_ok {NC : Nat} {X M : x_M} {G : z_G} {Cd : Nat → Nat → List Int32} (h : z_K NC X M G Cd) {v : Nat} (hv : v ≤ G 16 2) : ∃ r, z_tok X v = nI r ∧ z_tk NC r ∧ X (r - 1) 0 = nI (if v = 0 then 0 else G 34 (v - 1)) ∧ z_code X r (z_cdv Cd v) := by
  unfold z_tok z_cdv
  obtain ⟨p1, p2, p3, p4, p5, p6⟩ := h.2
  by_cases e : v = 0
  · rw [if_pos e, if_pos e, if_pos e]
    exact ⟨89, rfl, by unfold z_tk; omega, p4, p5⟩
  · rw [if_neg e, if_neg e, if_neg e]
    obtain ⟨-, -, -, -, r, h6, h7, h8, h9⟩ := h.1.2.2.2.2.2 (v - 1) (by omega)
    exact ⟨r, h6, h7, h8, h9⟩
theorem z_cdv_wf {NC : Nat} {X M : x_M} {G : z_G} {Cd : Nat → Nat → List Int32} (h : z_K NC X M G Cd) {v w : Nat} (hv : v ≤ G 16 2) (hw : w < 4) : z_wf (z_nm w) (z_cdv Cd v w) 0 1 := by
  unfold z_cdv
  by_cases e : v = 0
  · rw [if_pos e]
    rcases (show w = 0 ∨ w = 1 ∨ w = 2 ∨ w = 3 by omega) with rfl | rfl | rfl | rfl
    · exact Or.inl ⟨Or.inr ⟨108, by decide, by decide⟩, rfl⟩
    · exact Or.inl ⟨Or.inl ⟨720, by decide, rfl⟩, rfl⟩
    · exact Or.inl ⟨Or.inr ⟨108, by decide, by decide⟩, rfl⟩
    · exact Or.inl ⟨Or.inl ⟨0, by decide, rfl⟩, rfl⟩
  · rw [if_neg e]
    exact (h.1.2.2.2.2.2 (v - 1) (by omega)).2.2.2.1 w hw
theorem z_ifX {NC : Nat} {X M : x_M} {G : z_G} {Cd : Nat → Nat → List Int32} (h : z_K NC X M G Cd) {day : Nat} (hd : day ≤ 1200) : ∀ (e i v fu : Nat), G 16 2 = i + e → v ≤ i → e < fu → f_X9_inForce_7 NC fu X (nI day) (z_tok X v) (nI i) = some (z_tok X (z_tmf G day e i v), X) := by
  have g16 := (z_g16 h.1.1).1
  have h4 : G 16 2 ≤ 4 := h.1.2.1.1.2.2.2.1
  have hN := h.2.2.1
  intro e
  induction e with
  | zero =>
    intro i v fu he hv hfu
    obtain ⟨fu, rfl⟩ : ∃ a, fu = a + 1 := ⟨fu - 1, by omega⟩
    rw [f_X9_inForce_7_s, z_gf, g16, if_pos (by rw [z_le (by omega) (by omega)]; omega)]
    rfl
  | succ e ih =>
    intro i v fu he hv hfu
    obtain ⟨fu, rfl⟩ : ∃ a, fu = a + 1 := ⟨fu - 1, by omega⟩
    obtain ⟨hday, -, -, -, r, h6, h7, h8, h9⟩ := h.1.2.2.2.2.2 i (by omega)
    obtain ⟨r', k1, k2, k3, k4⟩ := z_tok_ok h (v := v) (by omega)
    have hr : 88 < r ∧ r < 1000000 := by unfold z_tk at h7; omega
    have hr' : 88 < r' ∧ r' < 1000000 := by unfold z_tk at k2; omega
    have htk' : z_tok X (i + 1) = nI r := by
      unfold z_tok
      rw [if_neg (by omega)]
      exact h6
    have hdv : (if v = 0 then 0 else G 34 (v - 1)) ≤ 1200 := by
      by_cases e0 : v = 0
      · rw [if_pos e0]
        omega
      · rw [if_neg e0]
        exact (h.1.2.2.2.2.2 (v - 1) (by omega)).1
    rw [f_X9_inForce_7_s, z_gf, g16, if_neg (by rw [z_le (by omega) (by omega)]; omega), z_rd (by omega) (by omega), show X 17 i = nI r from h6, if_neg (by rw [z_eq0 (by omega)]; omega), z_xtk h7 hN, z_gf, nI_clamp (by omega), h8, z_tmf]
    unfold f_X9_inForce_52
    rw [z_add]
    by_cases c1 : day < G 34 i
    · rw [if_pos (by rw [z_lt (by omega) (by omega)]; exact c1), if_neg (by omega)]
      exact ih (i + 1) v fu (by omega) (by omega) (by omega)
    · rw [if_neg (by rw [z_lt (by omega) (by omega)]; exact c1), z_xtk h7 hN, z_gf, k1, z_xtk k2 hN, z_gf, nI_clamp (by omega), k3, h8]
      by_cases c2 : G 34 i < (if v = 0 then 0 else G 34 (v - 1))
      · have c3 : ¬ (G 34 i ≤ day ∧ (v = 0 ∨ G 34 (v - 1) ≤ G 34 i)) := by
          by_cases e0 : v = 0
          · rw [if_pos e0] at c2
            omega
          · rw [if_neg e0] at c2
            omega
        rw [if_pos (by rw [z_lt (by omega) (by omega)]; exact c2), if_neg c3, ← k1]
        exact ih (i + 1) v fu (by omega) (by omega) (by omega)
      · have c3 : G 34 i ≤ day ∧ (v = 0 ∨ G 34 (v - 1) ≤ G 34 i) := by
          by_cases e0 : v = 0
          · omega
          · rw [if_neg e0] at c2
            omega
        rw [if_neg (by rw [z_lt (by omega) (by omega)]; exact c2), if_pos c3, ← htk']
        exact ih (i + 1) (i + 1) fu (by omega) (by omega) (by omega)
theorem z_ifM {NC : Nat} {X M : x_M} {G : z_G} {Cd : Nat → Nat → List Int32} (h : z_K NC X M G Cd) {day : Nat} (hd : day ≤ 1200) : ∀ (e i v fu : Nat), G 16 2 = i + e → v ≤ i → e < fu → f_X12_termsOn_4 fu M (nI day) (z_eO v) (nI i) = some (z_eO (z_tmf G day e i v), M) := by
  have g16 := (z_g16 h.1.1).2
  have h4 : G 16 2 ≤ 4 := h.1.2.1.1.2.2.2.1
  intro e
  induction e with
  | zero =>
    intro i v fu he hv hfu
    obtain ⟨fu, rfl⟩ : ∃ a, fu = a + 1 := ⟨fu - 1, by omega⟩
    rw [f_X12_termsOn_4_s, z_rd (by omega) (by omega), g16, if_pos (by rw [z_le (by omega) (by omega)]; omega)]
    rfl
  | succ e ih =>
    intro i v fu he hv hfu
    obtain ⟨fu, rfl⟩ : ∃ a, fu = a + 1 := ⟨fu - 1, by omega⟩
    obtain ⟨hday, m1, -⟩ := h.1.2.2.2.2.2 i (by omega)
    rw [f_X12_termsOn_4_s, z_rd (by omega) (by omega), g16, if_neg (by rw [z_le (by omega) (by omega)]; omega), z_mul, z_add, z_rd (by omega) (by omega), m1, z_tmf]
    unfold f_X12_termsOn_69 f_X12_termsOn_71
    rw [z_add]
    by_cases c1 : day < G 34 i
    · rw [if_pos (by rw [z_lt (by omega) (by omega)]; exact c1), if_neg (by omega)]
      exact ih (i + 1) v fu (by omega) (by omega) (by omega)
    · rw [if_neg (by rw [z_lt (by omega) (by omega)]; exact c1)]
      have ei : z_eO (i + 1) = nI i := by
        unfold z_eO
        rw [if_neg (by omega)]
        rfl
      by_cases e0 : v = 0
      · have ev : z_eO v = -1 := by
          unfold z_eO
          rw [if_pos e0]
        rw [if_pos ev, if_pos (by omega), ← ei]
        exact ih (i + 1) (i + 1) fu (by omega) (by omega) (by omega)
      · have ev : z_eO v = nI (v - 1) := by
          unfold z_eO
          rw [if_neg e0]
        obtain ⟨hday', m1', -⟩ := h.1.2.2.2.2.2 (v - 1) (by omega)
        rw [ev, if_neg (by rw [z_nm1 (by omega)]; exact id), z_rd (by omega) (by omega), z_mul, z_add, z_rd (by omega) (by omega), m1, m1']
        by_cases c2 : G 34 i < G 34 (v - 1)
        · rw [if_pos (by rw [z_lt (by omega) (by omega)]; exact c2), if_neg (by omega), ← ev]
          exact ih (i + 1) v fu (by omega) (by omega) (by omega)
        · rw [if_neg (by rw [z_lt (by omega) (by omega)]; exact c2), if_pos (by omega), ← ei]
          exact ih (i + 1) (i + 1) fu (by omega) (by omega) (by omega)
theorem z_tm_le {G : z_G} {day : Nat} : z_tm G day ≤ G 16 2 := z_tmf_le _ _ _ (by omega) (by omega)
theorem z_inX {NC : Nat} {X M : x_M} {G : z_G} {Cd : Nat → Nat → List Int32} (h : z_K NC X M G Cd) {day : Nat} (hd : day ≤ 1200) : f_X9_inForce NC X (nI day) = some (z_tok X (z_tm G day), X) := by
  have h4 : G 16 2 ≤ 4 := h.1.2.1.1.2.2.2.1
  exact z_ifX h hd (G 16 2) 0 0 x_FU (by omega) (by omega) (by unfold x_FU; omega)
theorem z_inM {NC : Nat} {X M : x_M} {G : z_G} {Cd : Nat → Nat → List Int32} (h : z_K NC X M G Cd) {day : Nat} (hd : day ≤ 1200) : f_X12_termsOn M (nI day) = some (z_eO (z_tm G day), M) := by
  have h4 : G 16 2 ≤ 4 := h.1.2.1.1.2.2.2.1
  exact z_ifM h hd (G 16 2) 0 0 x_FU (by omega) (by omega) (by unfold x_FU; omega)
/-! ===== TIER ===== -/
def z_tby (Cd : Nat → Nat → List Int32) (v : Nat) (q : Int32) : Nat := z_hd (z_ev (fun _ => q) (z_cdv Cd v 3) []) 0 3
def z_tier (G : z_G) (Cd : Nat → Nat → List Int32) (pt : Nat → Int32) (m day : Nat) : Nat := max (if G 3 m = 3 then 1 else 0) (max (z_tby Cd (z_tm G day) (pt (4 * m + day / 360))) (z_tby Cd (z_tm G day) (if day / 360 = 0 then nI 0 else pt (4 * m + day / 360 - 1))))
theorem z_tb_b {Cd : Nat → Nat → List Int32} {v : Nat} {q : Int32} : z_tby Cd v q ≤ 3 := (z_hd_b (by omega)).2
theorem z_tier_b {G : z_G} {Cd : Nat → Nat → List Int32} {pt : Nat → Int32} {m day : Nat} : z_tier G Cd pt m day ≤ 3 := by
  have h1 := z_tb_b (Cd := Cd) (v := z_tm G day) (q := pt (4 * m + day / 360))
  have h2 := z_tb_b (Cd := Cd) (v := z_tm G day) (q := if day / 360 = 0 then nI 0 else pt (4 * m + day / 360 - 1))
  unfold z_tier
  have h3 : (if G 3 m = 3 then 1 else 0) ≤ 3 := by split <;> omega
  omega
theorem z_tbX {NC : Nat} {X M : x_M} {G : z_G} {Cd : Nat → Nat → List Int32} (h : z_K NC X M G Cd) {v : Nat} {q : Int32} (hv : v ≤ G 16 2) : ∃ X', f_X2_tierBy NC X (z_tok X v) q = some (nI (z_tby Cd v q), X') ∧ ∀ k, k ≠ 68 → k ≠ 69 → X' k = X k := by
  obtain ⟨r, k1, k2, k3, k4⟩ := z_tok_ok h hv
  have hr : 88 < r ∧ r < 1000000 := by have := h.2.2.1; unfold z_tk at k2; omega
  unfold f_X2_tierBy
  rw [z_pf, k1]
  obtain ⟨X', a1, a2⟩ := z_wkX (X := x_up X 68 10 q) (w := 3) (env := fun _ => q) k2 h.2.2.1 (by omega) (z_code_fr k4 (z_upn (by omega)) (z_upn (by omega))) (z_cdv_wf h hv (by omega)) (fun b hb => by
    have : b = 113 := by
      have hb : b ∈ [113] := hb
      simpa using hb
    subst this
    unfold z_envX
    simp +decide only [if_false]
    rw [z_upr, z_us])
  rw [show (nI 3 : Int32) = nI 3 from rfl, a1, z_bn, show (nI 0 : Int32) = nI 0 from rfl, z_heX (by omega) (by omega), z_bn]
  exact ⟨X', rfl, fun k q1 q2 => by rw [a2.1 k q1 q2, z_upn q1]⟩
theorem z_tbM {NC : Nat} {X M : x_M} {G : z_G} {Cd : Nat → Nat → List Int32} (h : z_K NC X M G Cd) {v : Nat} {q : Int32} (hv : v ≤ G 16 2) (h0 : v ≠ 0) : ∃ M', f_X12_tierBy M (nI (v - 1)) q = some (nI (z_tby Cd v q), M') ∧ ∀ k, k ≠ 6 → k ≠ 7 → M' k = M k := by
  have h4 : G 16 2 ≤ 4 := h.1.2.1.1.2.2.2.1
  obtain ⟨-, -, w1, w2, -⟩ := h.1.2.2.2.2.2 (v - 1) (by omega)
  have hl := z_ter_len h.1.2.2.2.2 (v - 1) (by omega)
  unfold f_X12_tierBy
  rw [z_wr (by omega) (by omega)]
  obtain ⟨M', a1, a2⟩ := z_wkM (M := x_up M 7 113 q) (k := v - 1) (w := 3) (cd := Cd (v - 1)) (env := fun _ => q) (by omega) (by omega) (hl 3 (by omega)) (by rw [z_upn (by omega)]; exact w1) (w2 3 (by omega)) (fun b hb => by
    have : b = 113 := by
      have hb : b ∈ [113] := hb
      simpa using hb
    subst this
    rw [z_upr, z_us])
  rw [a1, z_bn, z_heM (by omega) (by omega), z_bn]
  refine ⟨M', ?_, fun k q1 q2 => by rw [a2 k q1, z_upn q2]⟩
  unfold z_tby z_cdv
  rw [if_neg h0]
theorem z_ptX {X : x_M} {m y : Nat} (hm : m < 10) (hy : y ≤ 3) : f_X2_pointsOf X (nI m) (nI y) = some (X 73 (4 * m + y), X) := by
  unfold f_X2_pointsOf
  rw [z_wi, z_bn, z_ite, if_neg (show ¬ (nI y < nI 0 ∨ nI 3 < nI y) by rw [z_lt (by omega) (by omega), z_lt (by omega) (by omega)]; omega), z_mul, z_add, z_rd (by omega) (by omega), show m * 4 + y = 4 * m + y by omega]
theorem z_tiX {NC : Nat} {X M : x_M} {G : z_G} {Cd : Nat → Nat → List Int32} (h : z_K NC X M G Cd) {m day : Nat} {pt : Nat → Int32} (hm : m < G 2 3) (hd : day ≤ 1200) (hp : ∀ i, i < 40 → X 73 i = pt i) : ∃ X', f_X2_tierOf_67_1 NC X (nI m) (nI day) = some (nI (z_tier G Cd pt m day), X') ∧ ∀ k, k ≠ 68 → k ≠ 69 → X' k = X k := by
  have hm10 : G 2 3 ≤ 10 := h.1.2.1.1.2.1
  have g3 := (z_g3 h.1.1 hm).1
  have hk3 := (h.1.2.1.2.2.1 m hm).1
  unfold f_X2_tierOf_67_1
  rw [z_inX h hd, z_bn, z_dv (by omega) (by omega), z_rd (by omega) (by omega), g3, z_div (by omega) (by omega) (by omega)]
  have key : ∀ t0 : Nat, t0 ≤ 1 → ∃ X', f_X2_tierOf_67_1_35 NC X (nI m) (z_tok X (z_tm G day)) (nI (day / 360)) (nI t0) = some (nI (max t0 (max (z_tby Cd (z_tm G day) (pt (4 * m + day / 360))) (z_tby Cd (z_tm G day) (if day / 360 = 0 then nI 0 else pt (4 * m + day / 360 - 1))))), X') ∧ ∀ k, k ≠ 68 → k ≠ 69 → X' k = X k := by
    intro t0 ht0
    unfold f_X2_tierOf_67_1_35
    rw [z_ptX (by omega) (by omega), z_bn, hp _ (by omega)]
    obtain ⟨X1, a1, a2⟩ := z_tbX h (q := pt (4 * m + day / 360)) (z_tm_le (G := G) (day := day))
    rw [a1, z_bn]
    have h1 : z_K NC X1 M G Cd := z_K_fr h (fun k hk => a2 k (by omega) (by omega)) rfl
    have et : z_tok X (z_tm G day) = z_tok X1 (z_tm G day) := by
      unfold z_tok
      rw [a2 17 (by omega) (by omega)]
    have ep : f_X2_pointsOf X1 (nI m) (nI (day / 360) - nI 1) = some (if day / 360 = 0 then nI 0 else pt (4 * m + day / 360 - 1), X1) := by
      by_cases e : day / 360 = 0
      · rw [e, if_pos rfl]
        unfold f_X2_pointsOf
        rw [z_wi, z_bn, z_ite, if_pos (by decide)]
      · rw [if_neg e, z_sub (by omega), z_ptX (by omega) (by omega), a2 73 (by omega) (by omega), hp _ (by omega), show 4 * m + (day / 360 - 1) = 4 * m + day / 360 - 1 by omega]
    rw [ep, z_bn, et]
    obtain ⟨X2, b1, b2⟩ := z_tbX h1 (q := if day / 360 = 0 then nI 0 else pt (4 * m + day / 360 - 1)) (z_tm_le (G := G) (day := day))
    rw [b1, z_bn]
    have q1 := z_tb_b (Cd := Cd) (v := z_tm G day) (q := pt (4 * m + day / 360))
    have q2 := z_tb_b (Cd := Cd) (v := z_tm G day) (q := if day / 360 = 0 then nI 0 else pt (4 * m + day / 360 - 1))
    generalize z_tby Cd (z_tm G day) (pt (4 * m + day / 360)) = A at *
    generalize z_tby Cd (z_tm G day) (if day / 360 = 0 then nI 0 else pt (4 * m + day / 360 - 1)) = B at *
    have e1 : (if nI A < nI B then nI B else nI A) = nI (max A B) := by
      by_cases c : A < B
      · rw [if_pos (by rw [z_lt (by omega) (by omega)]; exact c), Nat.max_eq_right (by omega)]
      · rw [if_neg (by rw [z_lt (by omega) (by omega)]; exact c), Nat.max_eq_left (by omega)]
    have e2 : (if nI t0 < nI (max A B) then nI (max A B) else nI t0) = nI (max t0 (max A B)) := by
      by_cases c : t0 < max A B
      · rw [if_pos (by rw [z_lt (by omega) (by omega)]; exact c), show max t0 (max A B) = max A B from Nat.max_eq_right (by omega)]
      · rw [if_neg (by rw [z_lt (by omega) (by omega)]; exact c), show max t0 (max A B) = t0 from Nat.max_eq_left (by omega)]
    rw [e1, e2]
    exact ⟨X2, rfl, fun k q1 q2 => by rw [b2 k q1 q2, a2 k q1 q2]⟩
  unfold z_tier
  by_cases c : G 3 m = 3
  · rw [if_pos (by rw [c]), if_pos c]
    exact key 1 (by omega)
  · rw [if_neg (by rw [z_eq (by omega) (by omega)]; exact c), if_neg c]
    exact key 0 (by omega)
theorem z_tb0 {Cd : Nat → Nat → List Int32} {q : Int32} : z_tby Cd 0 q = 0 := by
  unfold z_tby z_cdv
  rw [if_pos rfl]
  show z_hd (z_ev (fun _ => q) [nI 0] []) 0 3 = 0
  have e : z_ev (fun _ => q) [nI 0] [] = nI 0 := rfl
  rw [e]
  decide
theorem z_tiM {NC : Nat} {X M : x_M} {G : z_G} {Cd : Nat → Nat → List Int32} (h : z_K NC X M G Cd) {m day : Nat} {pt : Nat → Int32} (hm : m < G 2 3) (hd : day ≤ 1200) (hp : ∀ i, i < 40 → M 11 i = pt i) : ∃ M', f_X12_tierOn M (nI m) (nI day) = some (nI (z_tier G Cd pt m day), M') ∧ ∀ k, k ≠ 6 → k ≠ 7 → M' k = M k := by
  have hm10 : G 2 3 ≤ 10 := h.1.2.1.1.2.1
  have g3 := (z_g3 h.1.1 hm).2
  have hk3 := (h.1.2.1.2.2.1 m hm).1
  have h4 : G 16 2 ≤ 4 := h.1.2.1.1.2.2.2.1
  unfold f_X12_tierOn
  rw [z_inM h hd, z_bn, z_dv (by omega) (by omega), z_mul, z_add, z_rd (by omega) (by omega), g3, z_div (by omega) (by omega) (by omega)]
  have key : ∀ t0 : Nat, t0 ≤ 1 → ∃ M', f_X12_tierOn_33 M (nI m) (z_eO (z_tm G day)) (nI (day / 360)) (nI t0) = some (nI (max t0 (max (z_tby Cd (z_tm G day) (pt (4 * m + day / 360))) (z_tby Cd (z_tm G day) (if day / 360 = 0 then nI 0 else pt (4 * m + day / 360 - 1))))), M') ∧ ∀ k, k ≠ 6 → k ≠ 7 → M' k = M k := by
    intro t0 ht0
    unfold f_X12_tierOn_33 f_X12_tierOn_92
    have hle := z_tm_le (G := G) (day := day)
    by_cases e0 : z_tm G day = 0
    · rw [e0, if_pos (show z_eO 0 = -1 by decide), z_tb0, z_tb0, Nat.max_self, Nat.max_eq_left (by omega)]
      exact ⟨M, rfl, fun _ _ _ => rfl⟩
    · have ev : z_eO (z_tm G day) = nI (z_tm G day - 1) := by
        unfold z_eO
        rw [if_neg e0]
      rw [ev, if_neg (by rw [z_nm1 (by omega)]; exact id), z_mul, z_add, z_rd (by omega) (by omega), hp _ (by omega)]
      obtain ⟨M1, a1, a2⟩ := z_tbM h (q := pt (4 * m + day / 360)) hle e0
      have h1 : z_K NC X M1 G Cd := z_K_fr h (fun _ _ => rfl) (a2 1 (by omega) (by omega))
      obtain ⟨M2, b1, b2⟩ := z_tbM h1 (q := if day / 360 = 0 then nI 0 else pt (4 * m + day / 360 - 1)) hle e0
      have q1 := z_tb_b (Cd := Cd) (v := z_tm G day) (q := pt (4 * m + day / 360))
      have q2 := z_tb_b (Cd := Cd) (v := z_tm G day) (q := if day / 360 = 0 then nI 0 else pt (4 * m + day / 360 - 1))
      rw [a1, z_bn, z_moN (by omega) (by omega), z_bn]
      have fin : ∃ M', x_bn (f_X12_tierBy M1 (nI (z_tm G day - 1)) (if day / 360 = 0 then nI 0 else pt (4 * m + day / 360 - 1))) (fun r92 M => x_bn (f_X12_more M (nI (max t0 (z_tby Cd (z_tm G day) (pt (4 * m + day / 360))))) r92) (fun r95 M => some (r95, M))) = some (nI (max t0 (max (z_tby Cd (z_tm G day) (pt (4 * m + day / 360))) (z_tby Cd (z_tm G day) (if day / 360 = 0 then nI 0 else pt (4 * m + day / 360 - 1))))), M') ∧ ∀ k, k ≠ 6 → k ≠ 7 → M' k = M k := by
        rw [b1, z_bn, z_moN (by omega) (by omega), z_bn, Nat.max_assoc]
        exact ⟨M2, rfl, fun k q1 q2 => by rw [b2 k q1 q2, a2 k q1 q2]⟩
      by_cases e : day / 360 = 0
      · rw [if_pos (by rw [e]; decide)]
        simp only [if_pos e] at fin ⊢
        exact fin
      · rw [if_neg (by rw [z_eq0 (by omega)]; exact e), z_sub (by omega), z_rd (by omega) (by omega), a2 11 (by omega) (by omega), hp _ (by omega)]
        simp only [if_neg e] at fin ⊢
        exact fin
  unfold z_tier
  by_cases c : G 3 m = 3
  · rw [if_pos (by rw [c]), if_pos c]
    exact key 1 (by omega)
  · rw [if_neg (by rw [z_eq (by omega) (by omega)]; exact c), if_neg c]
    exact key 0 (by omega)
