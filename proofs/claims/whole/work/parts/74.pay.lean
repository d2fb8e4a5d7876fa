/-! ===== a seat is given ===== -/
def z_sg (G : z_G) (a pr : Nat) : z_G := z_gu (z_gu G 22 (G 24 a) (G 22 (G 24 a) - 1)) 26 a (pr + 1)
theorem z_sg_o {G : z_G} {a pr k i : Nat} (h : k ≠ 22) (h2 : ¬ (k = 26 ∧ i = a)) : z_sg G a pr k i = G k i := by
  unfold z_sg
  rw [z_gun (by omega), z_gun (by omega)]
theorem z_sg_I1 {G : z_G} {f v : Nat} (h : z_I G) (hv : v ≤ 9) : z_I (z_gu G 22 f v) := by
  have e : ∀ k' i', k' ≠ 22 → z_gu G 22 f v k' i' = G k' i' := fun k' i' h' => z_gun (by omega)
  obtain ⟨g1, g2, g3, g4, g5, g6, g7⟩ := h
  unfold z_I z_IS z_IM z_IL z_IF z_IA z_IO
  unfold z_IS at g1
  unfold z_IM at g3
  unfold z_IL at g4
  unfold z_IF at g5
  unfold z_IA at g6
  unfold z_IO at g7
  simp (disch := omega) only [e]
  refine ⟨g1, g2, g3, g4, fun j hj => ?_, g6, g7⟩
  obtain ⟨q1, q2, q3, q4, q5, q6⟩ := g5 j hj
  refine ⟨q1, q2, q3, q4, q5, ?_⟩
  unfold z_gu
  split <;> omega
theorem z_sg_I2 {G : z_G} {a v : Nat} (h : z_I G) (hv : v ≤ 100000) : z_I (z_gu G 26 a v) := by
  have e : ∀ k' i', k' ≠ 26 → z_gu G 26 a v k' i' = G k' i' := fun k' i' h' => z_gun (by omega)
  obtain ⟨g1, g2, g3, g4, g5, g6, g7⟩ := h
  unfold z_I z_IS z_IM z_IL z_IF z_IA z_IO
  unfold z_IS at g1
  unfold z_IM at g3
  unfold z_IL at g4
  unfold z_IF at g5
  unfold z_IA at g6
  unfold z_IO at g7
  simp (disch := omega) only [e]
  refine ⟨g1, g2, g3, g4, g5, fun j hj => ?_, g7⟩
  obtain ⟨q1, q2, q3, q4⟩ := g6 j hj
  refine ⟨q1, q2, q3, ?_⟩
  unfold z_gu
  split <;> omega
theorem z_paid {NC : Nat} {X M : x_M} {G H : z_G} {Cd Ch : Nat → Nat → List Int32} (R : z_R NC X M G H Cd Ch) {a pr : Nat} (ha : a < G 18 9) (hp : pr ≤ 99999) : z_R NC (x_up X 26 a (nI pr)) (x_up (x_up M 1 (5338 + 5 * a + 3) (nI 1)) 1 (5338 + 5 * a + 4) (nI pr)) (z_gu G 26 a (pr + 1)) H Cd Ch := by
  obtain ⟨hcl, hrs, hwy⟩ := id R
  obtain ⟨hc, hi, ho, hf, ht⟩ := id hcl
  have hS := hi.1
  unfold z_IS at hS
  have e : ∀ k' i', k' ≠ 26 → z_gu G 26 a (pr + 1) k' i' = G k' i' := fun k' i' h' => z_gun (by omega)
  have c1 := z_cr_jk hc (p := 5338 + 5 * a + 3) (y := (nI 1)) (fun k i hb => by have j2 := (z_junk hb).2 a; omega)
  have c2 := z_cr_up c1 26 a (pr + 1) (r := 26) (x := nI pr) (p := 5338 + 5 * a + 4) (y := nI pr) (z_bA (by decide) (by decide) (by omega)) rfl rfl (by first | rfl | (simp only [z_pos]; omega)) rfl
  have oft := z_ot hcl (X' := x_up X 26 a (nI pr)) (s' := upd (upd (M 1) (5338 + 5 * a + 3) (nI 1)) (5338 + 5 * a + 4) (nI pr)) (G' := z_gu G 26 a (pr + 1)) (fun k hk => by simp (disch := omega) only [z_upn]) (fun p hp => by simp (disch := omega) only [z_un]) (fun k i hk => e k i (by omega))
  refine ⟨⟨?_, z_sg_I2 hi (by omega), oft.1, fun i hi' => ?_, ?_⟩, ?_, ?_⟩
  · simp only [z_upr]
    refine z_cr_sub c2 (fun k i hki => ?_)
    rw [z_ok_up (by omega)] at hki
    exact Or.inl hki
  · rw [e 18 9 (by omega)] at hi'
    simp only [z_upr]
    by_cases q : i = a
    · subst q
      rw [z_gus, if_neg (by omega)]
      simp (disch := omega) only [z_un]
      rw [show 5341 + 5 * i = 5338 + 5 * i + 3 by omega, z_us]
    · rw [z_gun (by omega)]
      simp (disch := omega) only [z_un]
      exact hf i hi'
  · simp only [z_upr]
    exact oft.2
  · exact z_rs_fr hrs (fun k hk => by simp (disch := omega) only [z_upn]) (fun k hk => by simp (disch := omega) only [z_upn])
  · exact z_wy_fr hwy (by simp (disch := omega) only [z_upn]) (by simp (disch := omega) only [z_upn]) (e 27 3 (by omega)) (fun i => ⟨e 28 i (by omega), e 29 i (by omega), e 30 i (by omega)⟩)
theorem z_seat {NC : Nat} {X M : x_M} {G H : z_G} {Cd Ch : Nat → Nat → List Int32} (R : z_R NC X M G H Cd Ch) (hl : z_lX X (z_led G Cd (G 1 8) (G 1 8)).1) {a pr : Nat} (ha : a < G 18 9) (hp : pr ≤ 99999) (ho : 1 ≤ G 22 (G 24 a)) : ∃ X' M', f_X11_hasSeatNow_89 NC X (nI a) (nI (G 24 a)) (nI pr) = some (nI 1, X') ∧ f_X12_pays_131 M (nI (5338 + 5 * a)) (nI (5298 + 5 * G 24 a)) (nI pr) = some (nI 1, M') ∧ z_R NC X' M' (z_sg G a pr) H Cd Ch ∧ z_lX X' (z_led (z_sg G a pr) Cd (z_sg G a pr 1 8) (z_sg G a pr 1 8)).1 ∧ X' 85 = X 85 ∧ M' 17 = M 17 := by
  have hi := R.1.2.1
  have hS := hi.1
  unfold z_IS at hS
  have I := hi.2.2.2.2.2.1 a ha
  unfold z_IA at I
  obtain ⟨I1, I2, I3, I4⟩ := I
  have J := hi.2.2.2.2.1 (G 24 a) I2
  unfold z_IF at J
  have g22 := z_g22 R.1.1 I2
  unfold f_X11_hasSeatNow_89 f_X12_pays_131
  simp only [z_add]
  rw [z_rd (by omega) (by omega), z_wr (by omega) (by omega), z_wr (by omega) (by omega), z_rd (by omega) (by omega), z_wr (by omega) (by omega), z_wr (by omega) (by omega), z_wr (by omega) (by omega), show 5298 + 5 * G 24 a + 4 = 5302 + 5 * G 24 a by omega, g22.1, g22.2, z_sub ho]
  have R1 := z_up1 R 22 (G 24 a) (G 22 (G 24 a) - 1) (p := 5302 + 5 * G 24 a) (x := nI (G 22 (G 24 a) - 1)) (y := nI (G 22 (G 24 a) - 1)) (by unfold z_ok z_okS; omega) (by omega) (z_sg_I1 hi (by omega)) rfl (by first | rfl | (simp only [z_pos]; omega)) rfl
  have R2 := z_paid R1 (a := a) (pr := pr) (by rw [z_gun (by omega)]; exact ha) hp
  have sl : z_sme G (z_sg G a pr) (G 6 9) := by
    refine ⟨?_, ?_, z_sg_o (by omega) (by omega), ?_, z_sg_o (by omega) (by omega), fun x hx k h1 h2 => z_sg_o (by omega) (by omega)⟩
    · funext i
      exact z_sg_o (by omega) (by omega)
    · funext i
      exact z_sg_o (by omega) (by omega)
    · funext i
      exact z_sg_o (by omega) (by omega)
  refine ⟨_, _, rfl, rfl, R2, ?_, ?_, ?_⟩
  · rw [z_sg_o (by omega) (by omega), z_led_c hi sl (z_sg_o (by omega) (by omega))]
    refine z_lX_fr hl ?_ ?_ ?_ ?_ <;> simp (disch := omega) only [z_upn]
  · simp (disch := omega) only [z_upn]
  · simp (disch := omega) only [z_upn]
theorem z_lge {a b : Nat} (ha : a < 2147483648) (hb : b < 2147483648) : (0 ≤ lg_cmp (lN a) ((nI b).toInt64)) = (b ≤ a) := by
  rw [← Int32.not_lt, z_lgc ha hb]
  exact propext Nat.not_lt
/-- all but what a seat changes -/
def z_stl (a : Nat) (G G' : z_G) : Prop := ∀ k i, ¬ (k = 6 ∧ i = 9) → ¬ (7 ≤ k ∧ k ≤ 14) → k ≠ 22 → ¬ (k = 26 ∧ i = a) → G' k i = G k i
theorem z_pay {NC : Nat} {X M : x_M} {G H : z_G} {Cd Ch : Nat → Nat → List Int32} (R : z_R NC X M G H Cd Ch) (hl : z_lX X (z_led G Cd (G 1 8) (G 1 8)).1) {a T : Nat} (ha : a < G 18 9) (hd : G 1 8 < G 19 (G 24 a)) (h86 : X 85 a = nI T) (h17 : M 17 (G 23 a) = nI T) : ∃ b X' M' G', f_X11_hasSeatNow NC X (nI a) (nI (G 24 a)) = some (nI b, X') ∧ f_X12_pays M (nI a) = some (nI b, M') ∧ b ≤ 1 ∧ z_R NC X' M' G' H Cd Ch ∧ z_lX X' (z_led G' Cd (G' 1 8) (G' 1 8)).1 ∧ X' 85 = X 85 ∧ M' 17 = M 17 ∧ z_stl a G G' := by
  have hi := R.1.2.1
  have hS := hi.1
  unfold z_IS at hS
  have K := z_R_K R
  have I := hi.2.2.2.2.2.1 a ha
  unfold z_IA at I
  obtain ⟨I1, I2, I3, I4⟩ := I
  have J := hi.2.2.2.2.1 (G 24 a) I2
  unfold z_IF at J
  have g22 := z_g22 R.1.1 I2
  have g24 := (z_g24 R.1.1 ha).2
  have g6 := z_g6 R.1.1
  unfold f_X11_hasSeatNow f_X12_pays f_X11_hasSeatNow_30 f_X12_pays_45
  simp only [z_mul, z_add]
  rw [z_rd (n := 8) (k := G 24 a) (by omega) (by omega), g22.1, z_rd (n := 5512) (k := 5338 + 5 * a + 1) (by omega) (by omega), show 5338 + 5 * a + 1 = 5339 + 5 * a by omega, g24, z_mul, z_add, z_add, z_rd (n := 5512) (k := 5298 + 5 * G 24 a + 4) (by omega) (by omega), show 5298 + 5 * G 24 a + 4 = 5302 + 5 * G 24 a by omega, g22.2, z_gf, g6.1, z_rd (n := 5512) (k := 5) (by omega) (by omega), g6.2]
  by_cases c1 : G 22 (G 24 a) = 0
  · rw [if_pos (by rw [z_le0 (by omega)]; exact c1), if_pos (by rw [z_eq0 (by omega)]; exact c1)]
    exact ⟨0, X, M, G, rfl, rfl, by omega, R, hl, rfl, rfl, fun _ _ _ _ _ _ => rfl⟩
  have n1 : ¬ nI (G 22 (G 24 a)) ≤ 0 := by
    rw [z_le0 (by omega)]
    exact c1
  have n2 : ¬ nI (G 22 (G 24 a)) = 0 := by
    rw [z_eq0 (by omega)]
    exact c1
  rw [if_neg n1, if_neg n2]
  by_cases c2 : G 6 9 = 100
  · have n3 : ¬ nI (G 6 9) < nI 100 := by
      rw [z_lt (by omega) (by omega)]
      omega
    rw [if_neg n3, if_pos (show nI (G 6 9) = nI 100 by rw [c2])]
    exact ⟨0, X, M, G, rfl, rfl, by omega, R, hl, rfl, rfl, fun _ _ _ _ _ _ => rfl⟩
  have n3 : nI (G 6 9) < nI 100 := by
    rw [z_lt (by omega) (by omega)]
    omega
  have n4 : ¬ nI (G 6 9) = nI 100 := by
    rw [z_eq (by omega) (by omega)]
    exact c2
  rw [if_pos n3, if_neg n4, z_rd (n := 30) (k := a) (by omega) (by omega), h86]
  obtain ⟨X1, a1, a2⟩ := z_prX K (a := a) (T := T) ha (by omega)
  obtain ⟨M1, b1, b2⟩ := z_prM K (a := a) (T := T) ha (by omega) h17
  have hpb := z_prc_b (G := G) (Cd := Cd) (T := T) (a := a)
  rw [a1, b1, z_bn, z_bn]
  generalize z_prc G Cd T a = pr at hpb a1 b1 ⊢
  have R1 : z_R NC X1 M1 G H Cd Ch := z_R_l R (fun k hk => a2 k (by omega) (by omega)) ⟨fun k k0 hk => b2 k (by omega) (by omega), fun c hc => by rw [b2 0 (by omega) (by omega)]⟩
  have hl1 : z_lX X1 (z_led G Cd (G 1 8) (G 1 8)).1 := z_lX_fr hl (by rw [a2 67 (by omega) (by omega)]) (a2 70 (by omega) (by omega)) (a2 71 (by omega) (by omega)) (a2 72 (by omega) (by omega))
  have e86 : X1 85 = X 85 := a2 85 (by omega) (by omega)
  have e17 : M1 17 = M 17 := b2 17 (by omega) (by omega)
  have t1 := (z_g1 R1.1.1).2
  obtain ⟨M2, d1, d2, d3⟩ := z_goM (z_R_K R1) (day := G 1 8) (known := G 1 8) (by omega) (by omega)
  have R2 : z_R NC X1 M2 G H Cd Ch := z_R_l R1 z_lx_r d3
  have K2 := z_R_K R2
  have hB := (z_led_B (Cd := Cd) hi (day := G 1 8) (known := G 1 8)).1
  have e17' : M2 17 = M 17 := by rw [d3.1 17 (by omega) (by omega), e17]
  have t2 := (z_g1 R2.1.1).2
  have t2x := (z_g1 R2.1.1).1
  have g23 := z_g23 R2.1.1 ha
  have g21 := z_g21 R2.1.1 I2
  have hth := z_thr_b (G := G) (day := G 1 8) (pl := 1) (m := G 23 a) hB
  rw [z_rd (n := 5512) (k := 0) (by omega) (by omega), t1, z_rd (n := 5512) (k := 0) (by omega) (by omega), t1, d1, z_bn, z_rd (n := 5512) (k := 5338 + 5 * a) (by omega) (by omega), g23.2, z_rd (n := 5512) (k := 0) (by omega) (by omega), t2, z_therM K2 d2.1 hB I1 (by omega) (by omega), z_bn]
  by_cases c3 : pr = 0
  · subst c3
    have m1 : 0 ≤ lg_cmp (lN (z_thr G (z_led G Cd (G 1 8) (G 1 8)).1 (G 1 8) 1 (G 23 a))) ((nI 0).toInt64) := by
      rw [z_lge (by omega) (by omega)]
      omega
    rw [if_pos (show nI 0 ≤ 0 by decide), if_pos m1, if_pos (show nI 0 ≤ 0 by decide)]
    obtain ⟨X5, M5, s1, s2, s3, s4, s5, s6⟩ := z_seat R2 hl1 (a := a) (pr := 0) ha hpb (by omega)
    exact ⟨1, X5, M5, _, s1, s2, by omega, s3, s4, by rw [s5, e86], by rw [s6, e17'], fun k i _ _ h3 h4 => z_sg_o h3 h4⟩
  have n5 : ¬ nI pr ≤ 0 := by
    rw [z_le0 (by omega)]
    exact c3
  rw [if_neg n5, z_rd (n := 30) (k := a) (by omega) (by omega), g23.1, z_rd (n := 8) (k := G 24 a) (by omega) (by omega), g21.1]
  unfold f_X11_isPaid
  rw [z_gf, t2x, z_ther K2 hl1 hB I1 (by omega) (by omega), z_bn]
  by_cases c4 : pr ≤ z_thr G (z_led G Cd (G 1 8) (G 1 8)).1 (G 1 8) 1 (G 23 a)
  · have n6 : nI pr ≤ nI (z_thr G (z_led G Cd (G 1 8) (G 1 8)).1 (G 1 8) 1 (G 23 a)) := by
      rw [z_le (by omega) (by omega)]
      exact c4
    have n7 : 0 ≤ lg_cmp (lN (z_thr G (z_led G Cd (G 1 8) (G 1 8)).1 (G 1 8) 1 (G 23 a))) ((nI pr).toInt64) := by
      rw [z_lge (by omega) (by omega)]
      exact c4
    rw [if_pos n6, if_pos n7, if_neg n5, z_gf, t2x]
    obtain ⟨X3, f1, f2, f3⟩ := z_takeX K2 hl1 hB (m := G 23 a) (pl := 1) (day := G 1 8) (left := pr) I1 (by omega) (by omega) (by omega)
    have R3 : z_R NC X3 M2 G H Cd Ch := z_R_l R2 (fun k hk => f3 k (by omega)) ⟨fun _ _ _ => rfl, fun _ _ => rfl⟩
    have t3x := (z_g1 R3.1.1).1
    obtain ⟨X4, M4, l1, l2, l3, l4, l5⟩ := z_line R3 (kd := 1) (mb := G 23 a) (ab := G 1 8) (am := pr) (ot := G 21 (G 24 a)) (co := 0) (by omega) (by unfold z_lc; omega)
    have ln : ∀ k i, ¬ (k = 6 ∧ i = 9) → ¬ (7 ≤ k ∧ k ≤ 14) → z_ln G 1 (G 23 a) (G 1 8) pr (G 21 (G 24 a)) 0 k i = G k i := fun k i h1 h2 => z_ln_o h1 (by omega)
    have hl4 : z_lX X4 (z_led (z_ln G 1 (G 23 a) (G 1 8) pr (G 21 (G 24 a)) 0) Cd (z_ln G 1 (G 23 a) (G 1 8) pr (G 21 (G 24 a)) 0 1 8) (z_ln G 1 (G 23 a) (G 1 8) pr (G 21 (G 24 a)) 0 1 8)).1 := by
      rw [ln 1 8 (by omega) (by omega), z_led_n hi c4]
      exact z_lX_4 (z_lX_fr f2 (by rw [l4 67 (by omega)]) (l4 70 (by omega)) (l4 71 (by omega)) (l4 72 (by omega))) (by omega)
    obtain ⟨X5, M5, s1, s2, s3, s4, s5, s6⟩ := z_seat l3 hl4 (a := a) (pr := pr) (by rw [ln 18 9 (by omega) (by omega)]; exact ha) hpb (by rw [ln 24 a (by omega) (by omega), ln 22 _ (by omega) (by omega)]; omega)
    rw [ln 24 a (by omega) (by omega)] at s1 s2
    rw [f1, z_bn, z_gf, t3x, l1, z_bn, z_bn, if_neg z_n10, s1, z_rd (n := 5512) (k := 5338 + 5 * a) (by omega) (by omega), g23.2, z_rd (n := 5512) (k := 0) (by omega) (by omega), t2, z_add, z_rd (n := 5512) (k := 5298 + 5 * G 24 a + 2) (by omega) (by omega), show 5298 + 5 * G 24 a + 2 = 5300 + 5 * G 24 a by omega, g21.2, l2, z_bn, s2]
    exact ⟨1, X5, M5, _, rfl, rfl, by omega, s3, s4, by rw [s5, l4 85 (by omega), f3 85 (by omega), e86], by rw [s6, l5 17 (by omega), e17'], fun k i h1 h2 h3 h4 => by rw [z_sg_o h3 h4, ln k i h1 h2]⟩
  · have n6 : ¬ nI pr ≤ nI (z_thr G (z_led G Cd (G 1 8) (G 1 8)).1 (G 1 8) 1 (G 23 a)) := by
      rw [z_le (by omega) (by omega)]
      exact c4
    have n7 : ¬ 0 ≤ lg_cmp (lN (z_thr G (z_led G Cd (G 1 8) (G 1 8)).1 (G 1 8) 1 (G 23 a))) ((nI pr).toInt64) := by
      rw [z_lge (by omega) (by omega)]
      exact c4
    rw [if_neg n6, if_neg n7, z_bn, if_pos z_n00]
    exact ⟨0, X1, M2, G, rfl, rfl, by omega, R2, hl1, e86, e17', fun _ _ _ _ _ _ => rfl⟩
