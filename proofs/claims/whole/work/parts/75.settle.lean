/-! ===== settle ===== -/
def z_rkv (G : z_G) (Tm : Nat → Nat) (f b : Nat) : Int32 := if G 24 b = f ∧ G 26 b = 0 then nI (Tm (G 23 b)) else -1
theorem z_rkX {NC : Nat} {M : x_M} {G : z_G} {Cd : Nat → Nat → List Int32} {pt : Nat → Int32} {f : Nat} (hf : f < 8) : ∀ (e i fu : Nat) (X : x_M), z_K NC X M G Cd → G 18 9 = i + e → e < fu → (∀ j, j < 40 → X 73 j = pt j) → (∀ b, b < i → X 85 b = z_rkv G (fun m => z_tier G Cd pt m (G 1 8)) f b) → ∃ X', f_X11_rankAsks_10 NC fu X (nI f) (nI i) = some ((), X') ∧ (∀ k, k ≠ 68 → k ≠ 69 → k ≠ 85 → X' k = X k) ∧ ∀ b, b < G 18 9 → X' 85 b = z_rkv G (fun m => z_tier G Cd pt m (G 1 8)) f b := by
  intro e
  induction e with
  | zero =>
    intro i fu X h hi hfu hp hb
    obtain ⟨fu, rfl⟩ : ∃ a, fu = a + 1 := ⟨fu - 1, by omega⟩
    have hA : G 18 9 ≤ 30 := h.1.2.1.1.2.2.2.2.2.1
    rw [f_X11_rankAsks_10_s, z_gf, (z_g18b h.1.1).1, if_pos (by rw [z_le (by omega) (by omega)]; omega)]
    exact ⟨X, rfl, fun _ _ _ _ => rfl, fun b hb' => hb b (by omega)⟩
  | succ e ih =>
    intro i fu X h hi hfu hp hb
    obtain ⟨fu, rfl⟩ : ∃ a, fu = a + 1 := ⟨fu - 1, by omega⟩
    have hA : G 18 9 ≤ 30 := h.1.2.1.1.2.2.2.2.2.1
    have hF : G 18 8 ≤ 8 := h.1.2.1.1.2.2.2.2.1
    have hm10 : G 2 3 ≤ 10 := h.1.2.1.1.2.1
    have hday : G 1 8 ≤ 1200 := h.1.2.1.1.1
    have hi' : i < G 18 9 := by omega
    have I := h.1.2.1.2.2.2.2.2.1 i hi'
    unfold z_IA at I
    obtain ⟨I1, I2, I3, I4⟩ := I
    have go : ∀ X1 : x_M, (∀ k, k ≠ 68 → k ≠ 69 → X1 k = X k) → ∃ X', f_X11_rankAsks_84 NC (f_X11_rankAsks_10 NC fu) X1 (nI f) (nI i) (nI i) (z_rkv G (fun m => z_tier G Cd pt m (G 1 8)) f i) = some ((), X') ∧ (∀ k, k ≠ 68 → k ≠ 69 → k ≠ 85 → X' k = X k) ∧ ∀ b, b < G 18 9 → X' 85 b = z_rkv G (fun m => z_tier G Cd pt m (G 1 8)) f b := by
      intro X1 h1
      unfold f_X11_rankAsks_84
      rw [z_wr (by omega) (by omega), z_add]
      obtain ⟨X2, a1, a2, a3⟩ := ih (i + 1) fu (x_up X1 85 i (z_rkv G (fun m => z_tier G Cd pt m (G 1 8)) f i)) (z_K_fr h (fun k hk => by rw [z_upn (by omega), h1 k (by omega) (by omega)]) rfl) (by omega) (by omega) (fun j hj => by rw [z_upn (by omega), h1 73 (by omega) (by omega)]; exact hp j hj) (fun b hb' => by
        rw [z_upr]
        by_cases q : b = i
        · rw [q, z_us]
        · rw [z_un q, h1 85 (by omega) (by omega)]
          exact hb b (by omega))
      exact ⟨X2, a1, fun k k1 k2 k3 => by rw [a2 k k1 k2 k3, z_upn k3, h1 k k1 k2], a3⟩
    have no : ¬ (G 24 i = f ∧ G 26 i = 0) → ∃ X', f_X11_rankAsks_43 NC (f_X11_rankAsks_10 NC fu) X (nI f) (nI i) = some ((), X') ∧ (∀ k, k ≠ 68 → k ≠ 69 → k ≠ 85 → X' k = X k) ∧ ∀ b, b < G 18 9 → X' 85 b = z_rkv G (fun m => z_tier G Cd pt m (G 1 8)) f b := by
      intro hno
      have e1 : z_rkv G (fun m => z_tier G Cd pt m (G 1 8)) f i = -1 := if_neg hno
      have := go X (fun _ _ _ => rfl)
      rw [e1] at this
      unfold f_X11_rankAsks_43 f_X11_rankAsks_44
      rw [if_pos z_n00]
      exact this
    rw [f_X11_rankAsks_10_s, z_gf, (z_g18b h.1.1).1, if_neg (by rw [z_le (by omega) (by omega)]; omega), z_rd (by omega) (by omega), (z_g24 h.1.1 hi').1]
    by_cases c1 : G 24 i = f
    · rw [if_pos (by rw [c1]), z_rd (by omega) (by omega), (z_g26 h.1.1 hi').1]
      by_cases c2 : G 26 i = 0
      · rw [if_pos (by rw [c2]; rfl)]
        unfold f_X11_rankAsks_44
        obtain ⟨X1, a1, a2⟩ := z_tiX h (pt := pt) I1 hday hp
        rw [if_neg z_n10, z_rd (by omega) (by omega), (z_g23 h.1.1 hi').1, z_gf, (z_g1 h.1.1).1, a1, z_bn]
        have := go X1 a2
        rw [show z_rkv G (fun m => z_tier G Cd pt m (G 1 8)) f i = nI (z_tier G Cd pt (G 23 i) (G 1 8)) from if_pos ⟨c1, c2⟩] at this
        exact this
      · rw [if_neg (by rw [z_eN_n5 (by omega)]; exact c2)]
        exact no (fun q => c2 q.2)
    · rw [if_neg (by rw [z_eq (by omega) (by omega)]; exact c1)]
      exact no (fun q => c1 q.1)
theorem z_r53 {NC : Nat} {X : x_M} {G : z_G} {Cd : Nat → Nat → List Int32} {pt : Nat → Int32} {v1 : Int32} : ∀ (e i fu : Nat) (M : x_M), z_K NC X M G Cd → G 2 3 = i + e → e < fu → (∀ j, j < 40 → M 11 j = pt j) → (∀ b, b < i → M 17 b = nI (z_tier G Cd pt b (G 1 8))) → ∃ M', f_X12_settle_53 fu M v1 (nI i) = f_X12_settle_90 x_FU M' v1 (nI 0) (nI 3) ∧ (∀ k, k ≠ 6 → k ≠ 7 → k ≠ 17 → M' k = M k) ∧ ∀ b, b < G 2 3 → M' 17 b = nI (z_tier G Cd pt b (G 1 8)) := by
  intro e
  induction e with
  | zero =>
    intro i fu M h hi hfu hp hb
    obtain ⟨fu, rfl⟩ : ∃ a, fu = a + 1 := ⟨fu - 1, by omega⟩
    have hm10 : G 2 3 ≤ 10 := h.1.2.1.1.2.1
    rw [f_X12_settle_53_s, z_rd (by omega) (by omega), (z_g2 h.1.1).2, if_pos (by rw [z_le (by omega) (by omega)]; omega)]
    exact ⟨M, rfl, fun _ _ _ _ => rfl, fun b hb' => hb b (by omega)⟩
  | succ e ih =>
    intro i fu M h hi hfu hp hb
    obtain ⟨fu, rfl⟩ : ∃ a, fu = a + 1 := ⟨fu - 1, by omega⟩
    have hm10 : G 2 3 ≤ 10 := h.1.2.1.1.2.1
    have hday : G 1 8 ≤ 1200 := h.1.2.1.1.1
    obtain ⟨M1, a1, a2⟩ := z_tiM h (pt := pt) (m := i) (by omega) hday hp
    rw [f_X12_settle_53_s, z_rd (by omega) (by omega), (z_g2 h.1.1).2, if_neg (by rw [z_le (by omega) (by omega)]; omega), z_rd (by omega) (by omega), (z_g1 h.1.1).2, a1, z_bn, z_wr (by omega) (by omega), z_add]
    obtain ⟨M2, b1, b2, b3⟩ := ih (i + 1) fu (x_up M1 17 i (nI (z_tier G Cd pt i (G 1 8)))) (z_K_fr h (fun _ _ => rfl) (by rw [z_upn (by omega), a2 1 (by omega) (by omega)])) (by omega) (by omega) (fun j hj => by rw [z_upn (by omega), a2 11 (by omega) (by omega)]; exact hp j hj) (fun b hb' => by
      rw [z_upr]
      by_cases q : b = i
      · rw [q, z_us]
      · rw [z_un q, a2 17 (by omega) (by omega)]
        exact hb b (by omega))
    exact ⟨M2, b1, fun k k1 k2 k3 => by rw [b2 k k1 k2 k3, z_upn k3, a2 k k1 k2], b3⟩
/-- as it stands while seats are given; C: who must still wait -/
def z_J (NC : Nat) (H G0 : z_G) (Cd Ch : Nat → Nat → List Int32) (f : Nat) (Tm : Nat → Nat) (X M : x_M) (G : z_G) (C : Nat → Prop) : Prop := z_R NC X M G H Cd Ch ∧ z_lX X (z_led G Cd (G 1 8) (G 1 8)).1 ∧ (∀ k i, ¬ (k = 6 ∧ i = 9) → ¬ (7 ≤ k ∧ k ≤ 14) → k ≠ 22 → k ≠ 26 → G k i = G0 k i) ∧ (∀ b, b < G0 18 9 → X 85 b = z_rkv G0 Tm f b) ∧ (∀ m, m < G0 2 3 → M 17 m = nI (Tm m)) ∧ (∀ b, b < G0 18 9 → G0 24 b = f → G0 26 b ≠ 0 → G 26 b ≠ 0) ∧ ∀ b, b < G0 18 9 → G0 24 b = f → G0 26 b = 0 → C b → G 26 b = 0
theorem z_J_w {NC : Nat} {H G0 : z_G} {Cd Ch : Nat → Nat → List Int32} {f : Nat} {Tm : Nat → Nat} {X M : x_M} {G : z_G} {C C' : Nat → Prop} (h : z_J NC H G0 Cd Ch f Tm X M G C) (hC : ∀ b, C' b → C b) : z_J NC H G0 Cd Ch f Tm X M G C' := ⟨h.1, h.2.1, h.2.2.1, h.2.2.2.1, h.2.2.2.2.1, h.2.2.2.2.2.1, fun b h1 h2 h3 h4 => h.2.2.2.2.2.2 b h1 h2 h3 (hC b h4)⟩
theorem z_st97 {NC : Nat} {H G0 : z_G} {Cd Ch : Nat → Nat → List Int32} {f tier : Nat} {Tm : Nat → Nat} (hT : ∀ m, Tm m ≤ 3) (hd : G0 1 8 < G0 19 f) (hf : f < 8) (ht : tier ≤ 3) {kX kM : x_M → Int32 → Int32 → Int32 → Option (Int32 × x_M)} : ∀ (e a n fuX fuM : Nat) (X M : x_M) (G : z_G), G0 18 9 = a + e → e < fuX → e < fuM → z_J NC H G0 Cd Ch f Tm X M G (fun b => Tm (G0 23 b) < tier ∨ (Tm (G0 23 b) = tier ∧ a ≤ b)) → ∃ X' M' G' n', f_X11_settle_77 NC kX fuX X (nI f) (nI n) (nI tier) (nI a) = kX X' (nI f) (nI n') (nI tier + (-1)) ∧ f_X12_settle_97 kM fuM M (nI f) (nI n) (nI tier) (nI a) = kM M' (nI f) (nI n') (nI tier + (-1)) ∧ z_J NC H G0 Cd Ch f Tm X' M' G' (fun b => Tm (G0 23 b) < tier) := by
  intro e
  induction e with
  | zero =>
    intro a n fuX fuM X M G ha h1 h2 h
    obtain ⟨fuX, rfl⟩ : ∃ a, fuX = a + 1 := ⟨fuX - 1, by omega⟩
    obtain ⟨fuM, rfl⟩ : ∃ a, fuM = a + 1 := ⟨fuM - 1, by omega⟩
    obtain ⟨R, hl, hs, hx, hm, w1, w2⟩ := id h
    have hA : G 18 9 ≤ 30 := R.1.2.1.1.2.2.2.2.2.1
    have e18 := hs 18 9 (by omega) (by omega) (by omega) (by omega)
    have g18 := z_g18b R.1.1
    have n1 : nI (G 18 9) ≤ nI a := by
      rw [z_le (by omega) (by omega)]
      omega
    rw [f_X11_settle_77_s, f_X12_settle_97_s, z_gf, g18.1, if_pos n1, z_rd (by omega) (by omega), g18.2, if_pos n1]
    exact ⟨X, M, G, n, rfl, rfl, z_J_w h (fun b hb => Or.inl hb)⟩
  | succ e ih =>
    intro a n fuX fuM X M G ha h1 h2 h
    obtain ⟨fuX, rfl⟩ : ∃ a, fuX = a + 1 := ⟨fuX - 1, by omega⟩
    obtain ⟨fuM, rfl⟩ : ∃ a, fuM = a + 1 := ⟨fuM - 1, by omega⟩
    obtain ⟨R, hl, hs, hx, hm, w1, w2⟩ := id h
    have hS := R.1.2.1.1
    unfold z_IS at hS
    have e18 := hs 18 9 (by omega) (by omega) (by omega) (by omega)
    have e24 := hs 24 a (by omega) (by omega) (by omega) (by omega)
    have e23 := hs 23 a (by omega) (by omega) (by omega) (by omega)
    have e2 := hs 2 3 (by omega) (by omega) (by omega) (by omega)
    have ha0 : a < G0 18 9 := by omega
    have ha' : a < G 18 9 := by omega
    have I := R.1.2.1.2.2.2.2.2.1 a ha'
    unfold z_IA at I
    obtain ⟨I1, I2, I3, I4⟩ := I
    have g18 := z_g18b R.1.1
    have g24 := (z_g24 R.1.1 ha').2
    have g23 := (z_g23 R.1.1 ha').2
    have gfl := R.1.2.2.2.1 a ha'
    have n1 : ¬ nI (G 18 9) ≤ nI a := by
      rw [z_le (by omega) (by omega)]
      omega
    have skip : ∃ X' M' G' n', f_X11_settle_77 NC kX fuX X (nI f) (nI n) (nI tier) (nI a + nI 1) = kX X' (nI f) (nI n') (nI tier + (-1)) ∧ f_X12_settle_97 kM fuM M (nI f) (nI n) (nI tier) (nI a + nI 1) = kM M' (nI f) (nI n') (nI tier + (-1)) ∧ z_J NC H G0 Cd Ch f Tm X' M' G' (fun b => Tm (G0 23 b) < tier) := by
      rw [z_add]
      exact ih (a + 1) n fuX fuM X M G (by omega) (by omega) (by omega) (z_J_w h (fun b hb => by omega))
    rw [f_X11_settle_77_s, f_X12_settle_97_s, z_gf, g18.1, if_neg n1, z_rd (n := 5512) (k := 8) (by omega) (by omega), g18.2, if_neg n1]
    simp only [z_mul, z_add]
    rw [z_rd (n := 30) (k := a) (by omega) (by omega), z_rd (n := 5512) (k := 5338 + 5 * a + 1) (by omega) (by omega), show 5338 + 5 * a + 1 = 5339 + 5 * a by omega, g24, z_rd (n := 5512) (k := 5338 + 5 * a + 3) (by omega) (by omega), show 5338 + 5 * a + 3 = 5341 + 5 * a by omega, gfl, z_rd (n := 5512) (k := 5338 + 5 * a) (by omega) (by omega), g23, z_rd (n := 10) (k := G 23 a) (by omega) (by omega), hm _ (by omega), hx a ha0]
    unfold f_X11_settle_116 f_X12_settle_181 f_X12_settle_179 f_X12_settle_181
    have m1 : ¬ (-1 : Int32) = nI tier := fun q => by
      have := z_nm1 (a := tier) (by omega)
      rw [← q] at this
      simp at this
    by_cases cf : G0 24 a = f
    · rw [if_pos (show nI (G 24 a) = nI f by rw [e24, cf])]
      by_cases c0 : G0 26 a = 0
      · rw [show z_rkv G0 Tm f a = nI (Tm (G0 23 a)) from if_pos ⟨cf, c0⟩]
        by_cases ct : Tm (G0 23 a) = tier
        · have q0 : G 26 a = 0 := w2 a ha0 cf c0 (Or.inr ⟨ct, Nat.le_refl _⟩)
          have q1 : nI (Tm (G0 23 a)) = nI tier := by rw [ct]
          have q2 : ¬ nI (if G 26 a = 0 then 0 else 1) = nI 1 := by
            rw [if_pos q0]
            decide
          have q3 : nI (Tm (G 23 a)) = nI tier := by rw [e23, ct]
          rw [if_pos q1, if_neg q2, if_pos q3]
          have e19 := hs 19 f (by omega) (by omega) (by omega) (by omega)
          have e1 := hs 1 8 (by omega) (by omega) (by omega) (by omega)
          obtain ⟨b, X1, M1, G1, p1, p2, p3, p4, p5, p6, p7, p8⟩ := z_pay R hl (a := a) (T := tier) ha' (by rw [e24, cf, e19, e1]; exact hd) (by rw [hx a ha0]; exact (show z_rkv G0 Tm f a = nI (Tm (G0 23 a)) from if_pos ⟨cf, c0⟩).trans q1) (by rw [hm _ (by omega)]; exact q3)
          rw [e24, cf] at p1
          rw [p1, p2, z_bn, z_bn]
          have J1 : z_J NC H G0 Cd Ch f Tm X1 M1 G1 (fun b => Tm (G0 23 b) < tier ∨ (Tm (G0 23 b) = tier ∧ a + 1 ≤ b)) := by
            refine ⟨p4, p5, fun k i k1 k2 k3 k4 => ?_, fun c hc => ?_, fun m hm' => ?_, fun c hc hc1 hc2 => ?_, fun c hc hc1 hc2 hc3 => ?_⟩
            · rw [p8 k i k1 k2 k3 (by omega)]
              exact hs k i k1 k2 k3 k4
            · rw [p6]
              exact hx c hc
            · rw [p7]
              exact hm m hm'
            · have hca : c ≠ a := fun q => hc2 (by rw [q]; exact c0)
              rw [p8 26 c (by omega) (by omega) (by omega) (by omega)]
              exact w1 c hc hc1 hc2
            · have hca : c ≠ a := fun q => by
                subst q
                omega
              rw [p8 26 c (by omega) (by omega) (by omega) (by omega)]
              exact w2 c hc hc1 hc2 (by omega)
          have nx := fun n => ih (a + 1) n fuX fuM X1 M1 G1 (by omega) (by omega) (by omega) J1
          rcases (show b = 0 ∨ b = 1 by omega) with rfl | rfl
          · rw [if_pos z_n00, if_pos z_n00, z_add, show nI n + nI 0 = nI n from z_add n 0]
            exact nx n
          · rw [if_neg z_n10, if_neg z_n10]
            simp only [z_add]
            exact nx (n + 1)
        · have q1 : ¬ nI (Tm (G0 23 a)) = nI tier := by
            have := hT (G0 23 a)
            rw [z_eq (by omega) (by omega)]
            exact ct
          have q3 : ¬ nI (Tm (G 23 a)) = nI tier := by rw [e23]; exact q1
          rw [if_neg q1, if_neg q3, z_add] at *
          simp only [ite_self]
          exact skip
      · have q0 := w1 a ha0 cf c0
        rw [show z_rkv G0 Tm f a = -1 from if_neg (fun q => c0 q.2), if_neg m1, if_pos (show nI (if G 26 a = 0 then 0 else 1) = nI 1 by rw [if_neg q0])]
        exact skip
    · have q1 : ¬ nI (G 24 a) = nI f := by
        rw [z_eq (by omega) (by omega), e24]
        exact cf
      rw [show z_rkv G0 Tm f a = -1 from if_neg (fun q => cf q.1), if_neg m1, if_neg q1]
      exact skip
theorem z_st90 {NC : Nat} {H G0 : z_G} {Cd Ch : Nat → Nat → List Int32} {f : Nat} {Tm : Nat → Nat} (hT : ∀ m, Tm m ≤ 3) (hd : G0 1 8 < G0 19 f) (hf : f < 8) (hA : G0 18 9 ≤ 30) : ∀ (t n fuX fuM : Nat) (X M : x_M) (G : z_G), t ≤ 4 → t < fuX → t < fuM → z_J NC H G0 Cd Ch f Tm X M G (fun b => Tm (G0 23 b) < t) → ∃ r X' M' G', f_X11_settle_70 NC fuX X (nI f) (nI n) (z_eO t) = some (r, X') ∧ f_X12_settle_90 fuM M (nI f) (nI n) (z_eO t) = some (r, M') ∧ z_R NC X' M' G' H Cd Ch := by
  intro t
  induction t with
  | zero =>
    intro n fuX fuM X M G ht h1 h2 h
    obtain ⟨fuX, rfl⟩ : ∃ a, fuX = a + 1 := ⟨fuX - 1, by omega⟩
    obtain ⟨fuM, rfl⟩ : ∃ a, fuM = a + 1 := ⟨fuM - 1, by omega⟩
    rw [f_X11_settle_70_s, f_X12_settle_90_s, if_pos (show z_eO 0 < 0 by decide), if_pos (show z_eO 0 < 0 by decide)]
    exact ⟨_, X, M, G, rfl, rfl, h.1⟩
  | succ t ih =>
    intro n fuX fuM X M G ht h1 h2 h
    obtain ⟨fuX, rfl⟩ : ∃ a, fuX = a + 1 := ⟨fuX - 1, by omega⟩
    obtain ⟨fuM, rfl⟩ : ∃ a, fuM = a + 1 := ⟨fuM - 1, by omega⟩
    have n1 : ¬ nI t < 0 := by
      rw [z_lt0 (by omega)]
      exact id
    rw [f_X11_settle_70_s, f_X12_settle_90_s, z_eO_s, if_neg n1, if_neg n1]
    obtain ⟨X1, M1, G1, n', p1, p2, p3⟩ := z_st97 (NC := NC) (kX := f_X11_settle_70 NC fuX) (kM := f_X12_settle_90 fuM) (tier := t) hT hd hf (by omega) (G0 18 9) 0 n x_FU x_FU X M G (by omega) (by unfold x_FU; omega) (by unfold x_FU; omega) (z_J_w h (fun b hb => by omega))
    have e1 : nI t + (-1) = z_eO t := by
      by_cases c : t = 0
      · subst c
        decide
      · rw [z_m1 (by omega)]
        unfold z_eO
        rw [if_neg c]
    rw [e1] at p1 p2
    rw [p1, p2]
    exact ih n' fuX fuM X1 M1 G1 (by omega) (by omega) (by omega) p3
theorem z_R_l2 {NC : Nat} {X M X' M' : x_M} {G H : z_G} {Cd Ch : Nat → Nat → List Int32} (R : z_R NC X M G H Cd Ch) (hX : ∀ k, k < 67 ∨ (77 < k ∧ k ≠ 85) → X' k = X k) (hM : ∀ k, k < 6 ∨ 17 < k → M' k = M k) : z_R NC X' M' G H Cd Ch := by
  obtain ⟨hcl, hrs, hwy⟩ := R
  refine ⟨?_, ?_, z_wy_fr hwy (hX 78 (by omega)) (hX 79 (by omega)) rfl (fun _ => ⟨rfl, rfl, rfl⟩)⟩
  · rw [hM 1 (by omega)]
    exact z_cl_fr hcl (fun k hk => hX k (by omega)) (fun _ _ => rfl)
  · exact z_rs_fr2 hrs (fun k hk => hX k (by omega)) (hM 2 (by omega)) (by rw [hX 0 (by omega)]) (by rw [hM 0 (by omega)]) (z_sh_fr hrs.2.1 (hX 86 (by omega)) (hX 87 (by omega)) (hM 21 (by omega)) (hM 22 (by omega))) (z_wt_fr hrs.2.2.1 (by rw [hX 0 (by omega)]) (hX 84 (by omega)) (by rw [hM 0 (by omega)]) (hM 20 (by omega))) (z_tp_fr hrs.2.2.2.1 (by rw [hX 80 (by omega)]) (hX 81 (by omega)) (by rw [hM 0 (by omega)]) (hM 3 (by omega)))
theorem e_settle {NC : Nat} {X M : x_M} {G H : z_G} {Cd Ch : Nat → Nat → List Int32} (R : z_R NC X M G H Cd Ch) (a1 : Int32) : z_E NC (f_X11_settle NC X a1) (f_X12_settle M a1) := by
  have hi := R.1.2.1
  have hS := hi.1
  unfold z_IS at hS
  have hF := z_g18a R.1.1
  have hT := z_g1 R.1.1
  unfold f_X11_settle f_X12_settle f_X11_isFlight f_X12_isFlight
  simp (disch := omega) only [z_gf, z_rd, hF, hT, z_in, z_wi, z_bn, z_czi, z_ite]
  by_cases h1 : a1 < nI 0 ∨ nI (G 18 8) - nI 1 < a1
  · simp only [if_pos h1]
    exact z_same R
  simp only [if_neg h1]
  obtain ⟨f, hf, rfl⟩ := z_natm h1 (by omega)
  have g19 := z_g19 R.1.1 hf
  have J := hi.2.2.2.2.1 f hf
  unfold z_IF at J
  simp (disch := omega) only [z_mul, z_add, z_rd, g19]
  by_cases h2 : G 1 8 < G 19 f
  · have n1 : nI (G 1 8) < nI (G 19 f) := by
      rw [z_lt (by omega) (by omega)]
      exact h2
    rw [if_pos n1, if_pos n1]
    obtain ⟨X1, b1, b2, b3⟩ := z_goX (z_R_K R) (day := G 1 8) (known := G 1 8) (by omega) (by omega)
    obtain ⟨M1, d1, d2, d3⟩ := z_goM (z_R_K R) (day := G 1 8) (known := G 1 8) (by omega) (by omega)
    rw [b1, d1, z_bn, z_bn]
    have R1 := z_R_l R b3 d3
    obtain ⟨X2, p1, p2, p3⟩ := z_rkX (f := f) (by omega) (G 18 9) 0 x_FU X1 (z_R_K R1) (by omega) (by unfold x_FU; omega) b2.2.1 (fun b hb => by omega)
    obtain ⟨M2, q1, q2, q3⟩ := z_r53 (v1 := nI f) (G 2 3) 0 x_FU M1 (z_R_K R1) (by omega) (by unfold x_FU; omega) d2.2.1 (fun b hb => by omega)
    unfold f_X11_rankAsks
    rw [p1, z_bn, q1]
    have R2 : z_R NC X2 M2 G H Cd Ch := z_R_l2 R1 (fun k hk => p2 k (by omega) (by omega) (by omega)) (fun k hk => q2 k (by omega) (by omega) (by omega))
    obtain ⟨r, X3, M3, G3, s1, s2, s3⟩ := z_st90 (NC := NC) (H := H) (G0 := G) (Cd := Cd) (Ch := Ch) (f := f) (Tm := fun m => z_tier G Cd ((z_led G Cd (G 1 8) (G 1 8)).2 0) m (G 1 8)) (fun m => z_tier_b) h2 (by omega) (by omega) 4 0 x_FU x_FU X2 M2 G (by omega) (by unfold x_FU; omega) (by unfold x_FU; omega) ⟨R2, z_lX_fr b2.1 (by rw [p2 67 (by omega) (by omega) (by omega)]) (p2 70 (by omega) (by omega) (by omega)) (p2 71 (by omega) (by omega) (by omega)) (p2 72 (by omega) (by omega) (by omega)), fun _ _ _ _ _ _ => rfl, p3, q3, fun _ _ _ h => h, fun _ _ _ h _ => h⟩
    rw [show z_eO 4 = nI 3 from rfl] at s1 s2
    exact ⟨r, X3, M3, G3, H, Cd, Ch, s1, s2, s3⟩
  · have n1 : ¬ nI (G 1 8) < nI (G 19 f) := by
      rw [z_lt (by omega) (by omega)]
      exact h2
    rw [if_neg n1, if_neg n1]
    exact z_same R
