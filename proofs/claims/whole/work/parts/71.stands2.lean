/-! ===== stands ===== -/
def z_fq (S : z_G) (m a b i : Nat) : Nat := if S 1 i = m ∧ a ≤ S 3 i ∧ S 3 i ≤ b then S 2 i else 0
theorem z_fq_b {S : z_G} {m a b i c : Nat} (h : S 2 i ≤ c) : z_fq S m a b i ≤ c := by
  unfold z_fq
  split <;> omega
theorem z_laX {X : x_M} {S : z_G} {mm m a b : Nat} (hl : z_lX X S) (hB : z_lB mm S) (hmm : mm ≤ 10) (hm : m < 10) (ha : a < 1000000) (hb : b < 1000000) : ∀ (l : List Nat) (j acc fu : Nat), (∀ t, t < l.length → (z_oL S).getD (j + t) 0 = l.getD t 0) → S 0 0 = j + l.length → l.length < fu → f_X2_lapsing_6 fu X (nI m) (nI a) (nI b) (nI acc) (nI j) = some (nI (acc + (l.map (z_fq S m a b)).sum), X) := by
  have hn := hB.1
  intro l
  induction l with
  | nil =>
    intro j acc fu hl1 hj hfu
    obtain ⟨fu, rfl⟩ : ∃ a, fu = a + 1 := ⟨fu - 1, by omega⟩
    rw [List.length_nil] at hj
    rw [f_X2_lapsing_6_s, z_gf, hl.1, if_pos (by rw [z_le (by omega) (by omega)]; omega)]
    rfl
  | cons i l ih =>
    intro j acc fu hl1 hj hfu
    obtain ⟨fu, rfl⟩ : ∃ a, fu = a + 1 := ⟨fu - 1, by omega⟩
    rw [List.length_cons] at hj hfu
    have hi : (z_oL S).getD j 0 = i := hl1 0 (by rw [List.length_cons]; omega)
    have hj' : j < S 0 0 := by omega
    have hi' : i < S 0 0 := by
      rw [← hi]
      exact z_ord_lt hj'
    have hat := hl.2 j hj'
    rw [hi] at hat
    obtain ⟨b1, b2, b3⟩ := hB.2 i hi'
    have rest : ∀ acc', f_X2_lapsing_53 (f_X2_lapsing_6 fu) X (nI m) (nI a) (nI b) (nI acc') (nI j) = some (nI (acc' + (l.map (z_fq S m a b)).sum), X) := by
      intro acc'
      unfold f_X2_lapsing_53
      rw [z_add]
      exact ih (j + 1) acc' fu (fun t ht => by
        have := hl1 (t + 1) (by rw [List.length_cons]; omega)
        rw [show j + 1 + t = j + (t + 1) by omega, this]
        rfl) (by omega) (by omega)
    rw [f_X2_lapsing_6_s, z_gf, hl.1, if_neg (by rw [z_le (by omega) (by omega)]; omega), z_rd (by omega) (by omega), hat.1, List.map_cons, List.sum_cons]
    by_cases c1 : S 1 i = m
    · rw [if_pos (by rw [c1]), z_rd (by omega) (by omega), hat.2.2, z_wi, z_bn]
      by_cases c2 : S 3 i < a ∨ b < S 3 i
      · have e : z_fq S m a b i = 0 := by
          unfold z_fq
          rw [if_neg (by omega)]
        rw [if_pos (show nI (S 3 i) < nI a ∨ nI b < nI (S 3 i) by rw [z_lt (by omega) (by omega), z_lt (by omega) (by omega)]; exact c2), if_pos z_n00, rest]
        simp only [e, Nat.zero_add]
      · have e : z_fq S m a b i = S 2 i := by
          unfold z_fq
          rw [if_pos (by omega)]
        rw [if_neg (show ¬ (nI (S 3 i) < nI a ∨ nI b < nI (S 3 i)) by rw [z_lt (by omega) (by omega), z_lt (by omega) (by omega)]; exact c2), if_neg z_n10, z_rd (by omega) (by omega), hat.2.1, z_add, rest]
        simp only [e, Nat.add_assoc]
    · have e : z_fq S m a b i = 0 := by
        unfold z_fq
        rw [if_neg (by omega)]
      rw [if_neg (by rw [z_eq (by omega) (by omega)]; exact c1), rest]
      simp only [e, Nat.zero_add]
theorem z_laps {X : x_M} {S : z_G} {mm m a b : Nat} (hl : z_lX X S) (hB : z_lB mm S) (hmm : mm ≤ 10) (hm : m < 10) (ha : a < 1000000) (hb : b < 1000000) : f_X2_lapsing X (nI m) (nI a) (nI b) = some (nI (z_sm (z_fq S m a b) (S 0 0)), X) := by
  have hn := hB.1
  have e1 : (z_oL S).length = S 0 0 := z_ord_len _
  unfold f_X2_lapsing
  rw [z_laX hl hB hmm hm ha hb (z_oL S) 0 0 x_FU (fun t _ => by rw [Nat.zero_add]) (by omega) (by unfold x_FU; omega), Nat.zero_add]
  unfold z_oL
  rw [z_ord_sum]
theorem z_laM {M : x_M} {S : z_G} {mm m day wn w a b : Nat} (hl : z_lM M S) (hB : z_lB mm S) (hmm : mm ≤ 10) (hm : m < 10) (hd : day ≤ 1200) (hwn : wn ≤ 999) (hM3 : M 1 3 = nI wn) (hw : (w = 0 ∧ a = day + 1 ∧ b = 11199) ∨ (w = 3 ∧ a = day + 1 ∧ b = day + wn) ∨ (w = 4 ∧ a = 0 ∧ b = day)) : ∀ (e i fu : Nat), S 0 0 = i + e → e < fu → f_X12_stands_81 fu M (nI m) (nI day) (nI w) (nI (z_sm (z_fq S m a b) i)) (nI i) = some (nI (z_sm (z_fq S m a b) (S 0 0)), M) := by
  have hn := hB.1
  intro e
  induction e with
  | zero =>
    intro i fu hi hfu
    obtain ⟨fu, rfl⟩ : ∃ a, fu = a + 1 := ⟨fu - 1, by omega⟩
    rw [f_X12_stands_81_s, z_gf, hl.1, if_pos (by rw [z_le (by omega) (by omega)]; omega), hi]
    rfl
  | succ e ih =>
    intro i fu hi hfu
    obtain ⟨fu, rfl⟩ : ∃ a, fu = a + 1 := ⟨fu - 1, by omega⟩
    have hi' : i < S 0 0 := by omega
    obtain ⟨b1, b2, b3⟩ := hB.2 i hi'
    obtain ⟨r8, r9, r10⟩ := hl.2 i hi'
    have go := ih (i + 1) fu (by omega) (by omega)
    rw [z_sm] at go
    have h154 : ∀ t0 : Nat, (t0 = if a ≤ S 3 i ∧ S 3 i ≤ b then 1 else 0) → f_X12_stands_154 (f_X12_stands_81 fu) M (nI m) (nI day) (nI w) (nI (z_sm (z_fq S m a b) i)) (nI i) (nI t0) = some (nI (z_sm (z_fq S m a b) (S 0 0)), M) := by
      intro t0 ht0
      unfold f_X12_stands_154 f_X12_stands_184 f_X12_stands_185
      rw [z_rd (by omega) (by omega), r8, z_add, z_add]
      by_cases c1 : S 1 i = m
      · rw [if_pos (by rw [c1])]
        by_cases c2 : a ≤ S 3 i ∧ S 3 i ≤ b
        · rw [if_pos c2] at ht0
          rw [ht0, if_neg z_n10, z_rd (by omega) (by omega), r9, z_add]
          unfold z_fq at go ⊢
          rw [if_pos ⟨c1, c2⟩] at go
          exact go
        · rw [if_neg c2] at ht0
          rw [ht0, if_pos z_n00]
          unfold z_fq at go ⊢
          rw [if_neg (fun q => c2 q.2)] at go
          exact go
      · rw [if_neg (by rw [z_eq (by omega) (by omega)]; exact c1)]
        unfold z_fq at go ⊢
        rw [if_neg (fun q => c1 q.1)] at go
        exact go
    rw [f_X12_stands_81_s, z_gf, hl.1, if_neg (by rw [z_le (by omega) (by omega)]; omega), z_rd (by omega) (by omega), z_rd (by omega) (by omega), z_rd (by omega) (by omega), r10, z_rd (by omega) (by omega), hM3, z_add]
    unfold f_X12_stands_149 f_X12_stands_153
    simp (disch := omega) only [z_eq, z_eq0, z_lt, z_le]
    by_cases w4 : w = 4
    · simp only [if_pos w4]
      by_cases c : day < S 3 i
      · rw [if_pos c]
        exact h154 0 (by rw [if_neg (by omega)])
      · rw [if_neg c]
        exact h154 1 (by rw [if_pos (by omega)])
    · simp only [if_neg w4]
      by_cases c : S 3 i ≤ day
      · rw [if_pos c]
        exact h154 0 (by rw [if_neg (by omega)])
      · rw [if_neg c]
        by_cases w0 : w = 0
        · rw [if_pos w0]
          exact h154 1 (by rw [if_pos (by omega)])
        · rw [if_neg w0]
          by_cases c2 : day + wn < S 3 i
          · rw [if_pos c2]
            exact h154 0 (by rw [if_neg (by omega)])
          · rw [if_neg c2]
            exact h154 1 (by rw [if_pos (by omega)])
theorem z_led_iv {G : z_G} {Cd : Nat → Nat → List Int32} (hI : z_I G) : ∀ (l : List Nat) (S : z_G) (P : z_PP) (c : Nat), z_iv G S c → c + l.length ≤ 100 → (∀ x, x ∈ l → x < G 6 9) → z_iv G (z_gof G Cd l S P).1 (c + l.length)
  | [], S, P, c, h, _, _ => h
  | x :: l, S, P, c, h, hc, hx => by
    rw [List.length_cons] at hc ⊢
    have h1 := (z_hap_iv (P := P) (Cd := Cd) hI h (by omega) (hx x (by simp))).1
    have h2 := z_led_iv (Cd := Cd) hI l _ (z_hapP G Cd S P x) (c + 1) h1 (by omega) (fun y hy => hx y (by simp [hy]))
    rw [show c + (l.length + 1) = c + 1 + l.length by omega]
    exact h2
theorem z_led_B {G : z_G} {Cd : Nat → Nat → List Int32} (hI : z_I G) {day known : Nat} : z_iv G (z_led G Cd day known).1 (z_qf G day known (G 6 9)).length := by
  have hL100 : G 6 9 ≤ 100 := hI.1.2.2.1
  have hq := z_qf_len (G := G) (day := day) (known := known) (i := G 6 9)
  have h := z_led_iv (Cd := Cd) hI (z_qf G day known (G 6 9)) z_S0 z_P0 0 z_iv0 (by omega) (fun x hx => z_qf_mem hx)
  rw [Nat.zero_add] at h
  exact h
theorem e_stands {NC : Nat} {X M : x_M} {G H : z_G} {Cd Ch : Nat → Nat → List Int32} (R : z_R NC X M G H Cd Ch) (a1 a2 a3 a4 : Int32) : z_E NC (f_X11_stands NC X a1 a2 a3 a4) (f_X12_stands M a1 a2 a3 a4) := by
  obtain ⟨hcl, hrs, hwy⟩ := id R
  obtain ⟨hc, hi, ho, hf, ht⟩ := id hcl
  have hS := hi.1
  unfold z_IS at hS
  have K := z_R_K R
  have hm := z_g2 hc
  unfold f_X11_stands f_X12_stands f_X11_stands_32 f_X12_stands_32 f_X11_isMember f_X12_isMember f_X11_isDay f_X12_isDay
  rw [z_gf, hm.1, z_rd (by omega) (by omega), hm.2]
  simp only [z_in, z_wi, z_bn, z_czi, z_ite]
  by_cases h1 : a1 < nI 0 ∨ nI (G 2 3) - nI 1 < a1
  · simp only [if_pos h1]
    exact z_same R
  simp only [if_neg h1]
  by_cases h2 : a2 < nI 0 ∨ nI 1200 < a2
  · simp only [if_pos h2]
    exact z_same R
  simp only [if_neg h2]
  by_cases h3 : a3 < nI 0 ∨ nI 1200 < a3
  · simp only [if_pos h3]
    exact z_same R
  simp only [if_neg h3]
  by_cases h4 : a4 < nI 0 ∨ nI 4 < a4
  · simp only [if_pos h4]
    exact z_same R
  simp only [if_neg h4]
  obtain ⟨m, hml, rfl⟩ := z_natm h1 (by omega)
  obtain ⟨day, -, hd, rfl⟩ := z_nat h2 (by decide) (by decide)
  obtain ⟨known, -, hk, rfl⟩ := z_nat h3 (by decide) (by decide)
  obtain ⟨w, -, hw, rfl⟩ := z_nat h4 (by decide) (by decide)
  obtain ⟨X', b1, b2, b3⟩ := z_goX K hd hk
  obtain ⟨M', d1, d2, d3⟩ := z_goM K hd hk
  have R' := z_R_l R b3 d3
  have K' := z_R_K R'
  have iv := z_led_B (Cd := Cd) (day := day) (known := known) hi
  have g31 := z_g31 R'.1.1 (show 2 < 3 by omega)
  have g31m : M' 1 3 = nI (G 31 2) := g31.2
  have lap : ∀ a b : Nat, ((w = 0 ∧ a = day + 1 ∧ b = 11199) ∨ (w = 3 ∧ a = day + 1 ∧ b = day + G 31 2) ∨ (w = 4 ∧ a = 0 ∧ b = day)) → z_E NC (x_bn (f_X2_lapsing X' (nI m) (nI a) (nI b)) (fun r M => some (r, M))) (f_X12_stands_81 x_FU M' (nI m) (nI day) (nI w) (nI 0) (nI 0)) := by
    intro a b hab
    have e1 := z_laps (m := m) (a := a) (b := b) b2.1 iv.1 (by omega) (by omega) (by omega) (by omega)
    have hS := iv.1.1
    have e2 := z_laM d2.1 iv.1 (by omega) (show m < 10 by omega) hd (show G 31 2 ≤ 999 by omega) g31m hab ((z_led G Cd day known).1 0 0) 0 x_FU (by omega) (by unfold x_FU; omega)
    rw [show z_sm (z_fq (z_led G Cd day known).1 m a b) 0 = 0 from rfl] at e2
    rw [e1, z_bn, e2]
    exact z_same R'
  rw [b1, d1, z_bn, z_bn]
  simp (disch := omega) only [z_eq]
  rcases (show w = 0 ∨ w = 1 ∨ w = 2 ∨ w = 3 ∨ w = 4 by omega) with rfl | rfl | rfl | rfl | rfl
  · simp +decide only [if_true, if_false]
    rw [z_add]
    exact lap (day + 1) 11199 (Or.inl ⟨rfl, rfl, rfl⟩)
  · simp +decide only [if_true, if_false]
    rw [z_dv (by omega) (by omega), z_dv (by omega) (by omega), z_div (by omega) (by omega) (by omega), z_ptX (by omega) (by omega), z_bn, z_mul, z_add, z_rd (by omega) (by omega), b2.2.1 _ (by omega), d2.2.1 _ (by omega)]
    exact z_same R'
  · simp +decide only [if_true, if_false]
    obtain ⟨X2, e1, e2⟩ := z_tiX K' (pt := (z_led G Cd day known).2 0) hml hd b2.2.1
    obtain ⟨M2, f1, f2⟩ := z_tiM K' (pt := (z_led G Cd day known).2 0) hml hd d2.2.1
    rw [e1, f1, z_bn, z_bn]
    exact z_same (z_R_l R' (fun k hk => e2 k (by omega) (by omega)) ⟨fun k k0 hk => f2 k (by omega) (by omega), fun c _ => by rw [f2 0 (by omega) (by omega)]⟩)
  · simp +decide only [if_true, if_false]
    rw [z_rd (by omega) (by omega), g31.1, z_add, z_add]
    exact lap (day + 1) (day + G 31 2) (Or.inr (Or.inl ⟨rfl, rfl, rfl⟩))
  · simp +decide only [if_true, if_false]
    exact lap 0 day (Or.inr (Or.inr ⟨rfl, rfl, rfl⟩))
