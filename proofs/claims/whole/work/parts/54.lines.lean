/-! ===== a number put into its place ===== -/
theorem z_sins_sorted {key : Nat → Nat} {x : Nat} : ∀ l : List Nat, l.Pairwise (fun a b => key a ≤ key b) → (z_sins key x l).Pairwise (fun a b => key a ≤ key b)
  | [], _ => by simp [z_sins]
  | y :: l, h => by
    rw [List.pairwise_cons] at h
    unfold z_sins
    split
    · rename_i hk
      rw [List.pairwise_cons]
      refine ⟨fun z hz => ?_, z_sins_sorted l h.2⟩
      rcases (z_sins_mem l).mp hz with rfl | hz
      · exact hk
      · exact h.1 z hz
    · rename_i hk
      rw [List.pairwise_cons, List.pairwise_cons]
      refine ⟨fun z hz => ?_, h⟩
      rcases List.mem_cons.mp hz with rfl | hz
      · omega
      · have := h.1 z hz
        omega
theorem z_ord_sorted {key : Nat → Nat} : ∀ n, (z_ord key n).Pairwise (fun a b => key a ≤ key b)
  | 0 => List.Pairwise.nil
  | n + 1 => z_sins_sorted _ (z_ord_sorted n)
theorem z_ord_le {key : Nat → Nat} {n a b : Nat} (h : a ≤ b) (hb : b < n) : key ((z_ord key n).getD a 0) ≤ key ((z_ord key n).getD b 0) := by
  have hl : (z_ord key n).length = n := z_ord_len n
  rcases Nat.lt_or_eq_of_le h with h | rfl
  · have hp := List.pairwise_iff_getElem.mp (z_ord_sorted (key := key) n) a b (by omega) (by omega) h
    rw [List.getD_eq_getElem?_getD, List.getD_eq_getElem?_getD, List.getElem?_eq_getElem (show a < (z_ord key n).length by omega), List.getElem?_eq_getElem (show b < (z_ord key n).length by omega)]
    exact hp
  · exact Nat.le_refl _
theorem z_ord_lt {key : Nat → Nat} {n a : Nat} (h : a < n) : (z_ord key n).getD a 0 < n := by
  have hl : (z_ord key n).length = n := z_ord_len n
  rw [List.getD_eq_getElem?_getD, List.getElem?_eq_getElem (show a < (z_ord key n).length by omega)]
  exact (z_ord_mem n).mp (List.getElem_mem _)
theorem z_sins_getD {key : Nat → Nat} {x : Nat} : ∀ (l : List Nat) (p j : Nat), p ≤ l.length → (∀ j, j < p → key (l.getD j 0) ≤ key x) → (p < l.length → key x < key (l.getD p 0)) → (z_sins key x l).getD j 0 = if j < p then l.getD j 0 else if j = p then x else l.getD (j - 1) 0
  | [], p, j, hp, _, _ => by
    have hp : p = 0 := by simpa using hp
    subst hp
    unfold z_sins
    match j with
    | 0 => simp
    | j + 1 => simp
  | y :: l, p, j, hp, h1, h2 => by
    unfold z_sins
    match p with
    | 0 =>
      have h3 := h2 (by simp)
      rw [List.getD_cons_zero] at h3
      rw [if_neg (by omega)]
      match j with
      | 0 => simp
      | j + 1 => simp
    | p + 1 =>
      have h3 := h1 0 (by omega)
      rw [List.getD_cons_zero] at h3
      rw [if_pos h3]
      match j with
      | 0 => simp
      | j + 1 =>
        rw [List.getD_cons_succ, z_sins_getD l p j (by simpa using hp) (fun i hi => by have := h1 (i + 1) (by omega); rwa [List.getD_cons_succ] at this) (fun hl => by have := h2 (by simpa using hl); rwa [List.getD_cons_succ] at this)]
        by_cases hj : j < p
        · rw [if_pos hj, if_pos (by omega), List.getD_cons_succ]
        · rw [if_neg hj, if_neg (show ¬ j + 1 < p + 1 by omega)]
          by_cases hj2 : j = p
          · rw [if_pos hj2, if_pos (show j + 1 = p + 1 by omega)]
          · rw [if_neg hj2, if_neg (show ¬ j + 1 = p + 1 by omega)]
            have e : j + 1 - 1 = (j - 1) + 1 := by omega
            rw [e, List.getD_cons_succ]
theorem z_put {key : Nat → Nat} {L : Nat} (hL : L < 100) (hb : ∀ i, i ≤ L → key i < 2147483648) {X0 : x_M} (hX9 : ∀ i, i ≤ L → X0 9 i = nI (key i)) : ∀ (p n : Nat) (X : x_M), p < n → p ≤ L → (∀ k, k ≠ 15 → X k = X0 k) → (∀ j, j < p → X 15 j = nI ((z_ord key L).getD j 0)) → (∀ j, p < j → j ≤ L → X 15 j = nI ((z_ord key L).getD (j - 1) 0)) → (p < L → key L < key ((z_ord key L).getD p 0)) → ∃ X', f_X3_putInOrder_2 n X (nI L) (nI p) = some ((), X') ∧ (∀ k, k ≠ 15 → X' k = X0 k) ∧ ∀ j, j ≤ L → X' 15 j = nI ((z_ord key (L + 1)).getD j 0) := by
  have fin : ∀ (p : Nat) (X : x_M), p ≤ L → (∀ k, k ≠ 15 → X k = X0 k) → (∀ j, j < p → X 15 j = nI ((z_ord key L).getD j 0)) → (∀ j, p < j → j ≤ L → X 15 j = nI ((z_ord key L).getD (j - 1) 0)) → (p < L → key L < key ((z_ord key L).getD p 0)) → (0 < p → key ((z_ord key L).getD (p - 1) 0) ≤ key L) → ∃ X', f_X3_putInOrder_48 X (nI L) (nI p) = some ((), X') ∧ (∀ k, k ≠ 15 → X' k = X0 k) ∧ ∀ j, j ≤ L → X' 15 j = nI ((z_ord key (L + 1)).getD j 0) := by
    intro p X hp hX h1 h2 h3 h4
    unfold f_X3_putInOrder_48
    rw [z_wr (by omega) (by omega)]
    refine ⟨_, rfl, fun k hk => by rw [z_upn hk]; exact hX k hk, fun j hj => ?_⟩
    rw [z_upr, z_ord, z_sins_getD (z_ord key L) p j (by rw [z_ord_len]; exact hp) (fun i hi => Nat.le_trans (z_ord_le (show i ≤ p - 1 by omega) (by omega)) (h4 (by omega))) (fun hl => h3 (by rw [z_ord_len] at hl; exact hl))]
    by_cases hj1 : j < p
    · rw [if_pos hj1, z_un (by omega)]
      exact h1 j hj1
    · rw [if_neg hj1]
      by_cases hj2 : j = p
      · subst hj2
        rw [if_pos rfl, z_us]
      · rw [if_neg hj2, z_un hj2]
        exact h2 j (by omega) hj
  intro p
  induction p with
  | zero =>
    intro n X hn hp hX h1 h2 h3
    obtain ⟨n, rfl⟩ : ∃ n', n = n' + 1 := ⟨n - 1, by omega⟩
    rw [f_X3_putInOrder_2_s, if_pos (by decide)]
    exact fin 0 X hp hX h1 h2 h3 (by omega)
  | succ p ih =>
    intro n X hn hp hX h1 h2 h3
    obtain ⟨n, rfl⟩ : ∃ n', n = n' + 1 := ⟨n - 1, by omega⟩
    have hq := z_ord_lt (key := key) (show p < L by omega)
    rw [f_X3_putInOrder_2_s]
    simp (disch := omega) only [z_le0, z_sub, z_rd]
    rw [if_neg (by omega), show p + 1 - 1 = p by omega, h1 p (by omega), hX 9 (by decide)]
    simp (disch := omega) only [z_rd]
    rw [hX9 _ (by omega), hX9 L (by omega)]
    simp only [z_le (hb _ (show (z_ord key L).getD p 0 ≤ L by omega)) (hb L (Nat.le_refl _))]
    by_cases hk : key ((z_ord key L).getD p 0) ≤ key L
    · rw [if_pos hk]
      exact fin (p + 1) X hp hX h1 h2 h3 (fun _ => by rw [show p + 1 - 1 = p by omega]; exact hk)
    · rw [if_neg hk]
      simp (disch := omega) only [z_wr]
      rw [z_m1 (by omega), show p + 1 - 1 = p by omega]
      refine ih n _ (by omega) (by omega) (fun k hk' => by rw [z_upn hk']; exact hX k hk') (fun j hj => ?_) (fun j hj hj2 => ?_) (fun _ => by omega)
      · rw [z_upr, z_un (by omega)]
        exact h1 j (by omega)
      · rw [z_upr]
        by_cases e : j = p + 1
        · subst e
          rw [z_us, show p + 1 - 1 = p by omega]
        · rw [z_un e]
          exact h2 j (by omega) hj2
/-! ===== a new LINE ===== -/
theorem z_okS_L {m L F A O k i : Nat} (h : z_okS m (L + 1) F A O k i) : z_okS m L F A O k i ∨ (7 ≤ k ∧ k ≤ 14 ∧ i = L) := by
  by_cases h1 : 7 ≤ k ∧ k ≤ 14 ∧ i = L
  · exact Or.inr h1
  · left
    unfold z_okS at h ⊢
    rcases h with h | h | h | h | h | h | h | h | h | h | h | h | h
    · exact Or.inl h
    · exact Or.inr (Or.inl h)
    · exact Or.inr (Or.inr (Or.inl h))
    · exact Or.inr (Or.inr (Or.inr (Or.inl h)))
    · exact Or.inr (Or.inr (Or.inr (Or.inr (Or.inl (by omega)))))
    · exact Or.inr (Or.inr (Or.inr (Or.inr (Or.inr (Or.inl h)))))
    · exact Or.inr (Or.inr (Or.inr (Or.inr (Or.inr (Or.inr (Or.inl h))))))
    · exact Or.inr (Or.inr (Or.inr (Or.inr (Or.inr (Or.inr (Or.inr (Or.inl h)))))))
    · exact Or.inr (Or.inr (Or.inr (Or.inr (Or.inr (Or.inr (Or.inr (Or.inr (Or.inl h))))))))
    · exact Or.inr (Or.inr (Or.inr (Or.inr (Or.inr (Or.inr (Or.inr (Or.inr (Or.inr (Or.inl h)))))))))
    · exact Or.inr (Or.inr (Or.inr (Or.inr (Or.inr (Or.inr (Or.inr (Or.inr (Or.inr (Or.inr (Or.inl h))))))))))
    · exact Or.inr (Or.inr (Or.inr (Or.inr (Or.inr (Or.inr (Or.inr (Or.inr (Or.inr (Or.inr (Or.inr (Or.inl h)))))))))))
    · exact Or.inr (Or.inr (Or.inr (Or.inr (Or.inr (Or.inr (Or.inr (Or.inr (Or.inr (Or.inr (Or.inr (Or.inr h)))))))))))
def z_ln (G : z_G) (kd mb ab am ot co : Nat) : z_G := z_gu (z_gu (z_gu (z_gu (z_gu (z_gu (z_gu (z_gu (z_gu G 7 (G 6 9) kd) 8 (G 6 9) mb) 9 (G 6 9) ab) 10 (G 6 9) (G 1 8)) 11 (G 6 9) 0) 12 (G 6 9) am) 13 (G 6 9) ot) 14 (G 6 9) co) 6 9 (G 6 9 + 1)
theorem z_ln_o {G : z_G} {kd mb ab am ot co k i : Nat} (h : ¬ (k = 6 ∧ i = 9)) (h2 : ¬ (7 ≤ k ∧ k ≤ 14 ∧ i = G 6 9)) : z_ln G kd mb ab am ot co k i = G k i := by
  unfold z_ln
  rw [z_gun (by omega), z_gun (by omega), z_gun (by omega), z_gun (by omega), z_gun (by omega), z_gun (by omega), z_gun (by omega), z_gun (by omega), z_gun (by omega)]
theorem z_ln_n {G : z_G} {kd mb ab am ot co : Nat} : z_ln G kd mb ab am ot co 6 9 = G 6 9 + 1 ∧ z_ln G kd mb ab am ot co 7 (G 6 9) = kd ∧ z_ln G kd mb ab am ot co 8 (G 6 9) = mb ∧ z_ln G kd mb ab am ot co 9 (G 6 9) = ab ∧ z_ln G kd mb ab am ot co 10 (G 6 9) = G 1 8 ∧ z_ln G kd mb ab am ot co 11 (G 6 9) = 0 ∧ z_ln G kd mb ab am ot co 12 (G 6 9) = am ∧ z_ln G kd mb ab am ot co 13 (G 6 9) = ot ∧ z_ln G kd mb ab am ot co 14 (G 6 9) = co := by
  unfold z_ln
  refine ⟨?_, ?_, ?_, ?_, ?_, ?_, ?_, ?_, ?_⟩ <;> simp (disch := omega) only [z_gus, z_gun]
/-- what a LINE must be -/
def z_lc (G : z_G) (kd mb ab am ot co : Nat) : Prop := kd ≤ 3 ∧ mb < G 2 3 ∧ ab ≤ G 1 8 ∧ 1 ≤ am ∧ am ≤ 99999 ∧ co ≤ 9999 ∧ ot ≤ 100 ∧ (kd = 0 → am ≤ 9999 ∧ ot ≤ 33 ∧ ot % 10 ≤ 3) ∧ (kd = 1 → ot ≤ 3) ∧ (kd = 2 → ot < G 2 3 ∧ ot ≠ mb) ∧ (kd = 3 → ot < G 6 9 ∧ G 7 ot = 1 ∧ G 9 ot ≤ ab ∧ am = G 12 ot ∧ mb = G 8 ot)
theorem z_ln_I {G : z_G} {kd mb ab am ot co : Nat} (h : z_I G) (hL : G 6 9 < 100) (hc : z_lc G kd mb ab am ot co) : z_I (z_ln G kd mb ab am ot co) := by
  have e : ∀ k i, ¬ (k = 6 ∧ i = 9) → ¬ (7 ≤ k ∧ k ≤ 14 ∧ i = G 6 9) → z_ln G kd mb ab am ot co k i = G k i := fun k i h1 h2 => z_ln_o h1 h2
  obtain ⟨n0, n7, n8, n9, n10, n11, n12, n13, n14⟩ := z_ln_n (G := G) (kd := kd) (mb := mb) (ab := ab) (am := am) (ot := ot) (co := co)
  obtain ⟨g1, g2, g3, g4, g5, g6, g7⟩ := h
  unfold z_lc at hc
  unfold z_I z_IS z_IF z_IA z_IO z_IM
  unfold z_IS at g1
  unfold z_IM at g3
  unfold z_IF at g5
  unfold z_IA at g6
  unfold z_IO at g7
  simp (disch := omega) only [e, n0]
  refine ⟨by omega, g2, g3, fun j hj => ?_, g5, g6, g7⟩
  unfold z_IL
  by_cases hj2 : j = G 6 9
  · subst hj2
    rw [n7, n8, n9, n10, n11, n12, n13, n14, e 2 3 (by omega) (by omega), e 1 8 (by omega) (by omega)]
    refine ⟨by omega, by omega, by omega, by omega, by omega, by omega, by omega, by omega, by omega, by omega, by omega, by omega, fun h3 => ?_⟩
    have h4 := hc.2.2.2.2.2.2.2.2.2.2 h3
    rw [e 7 ot (by omega) (by omega), e 9 ot (by omega) (by omega), e 12 ot (by omega) (by omega), e 8 ot (by omega) (by omega)]
    omega
  · have g := g4 j (by omega)
    unfold z_IL at g
    simp (disch := omega) only [e]
    obtain ⟨q1, q2, q3, q4, q5, q6, q7, q8, q9, q10, q11, q12, q13⟩ := g
    refine ⟨q1, q2, q3, q4, q5, q6, q7, q8, q9, q10, q11, q12, fun h3 => ?_⟩
    have h4 := q13 h3
    rw [e 7 (G 13 j) (by omega) (by omega), e 9 (G 13 j) (by omega) (by omega), e 12 (G 13 j) (by omega) (by omega), e 8 (G 13 j) (by omega) (by omega)]
    exact h4
theorem z_line {NC : Nat} {X M : x_M} {G H : z_G} {Cd Ch : Nat → Nat → List Int32} (R : z_R NC X M G H Cd Ch) {kd mb ab am ot co : Nat} (hL : G 6 9 < 100) (hlc : z_lc G kd mb ab am ot co) : ∃ X' M', f_X0_newLine X (nI kd) (nI mb) (nI ab) (nI am) (nI ot) (nI co) = some (nI (G 6 9), X') ∧ f_X12_tells M (nI kd) (nI mb) (nI ab) (nI am) (nI ot) (nI co) = some (nI (G 6 9), M') ∧ z_R NC X' M' (z_ln G kd mb ab am ot co) H Cd Ch ∧ (∀ k, ¬ (6 ≤ k ∧ k ≤ 15) → X' k = X k) ∧ ∀ k, k ≠ 1 → M' k = M k := by
  obtain ⟨hcl, hrs, hwy⟩ := id R
  obtain ⟨hc, hi, ho, hf, ht⟩ := id hcl
  have hS := hi.1
  unfold z_IS at hS
  have hm := z_g6 hc
  have hT := z_g1 hc
  have hI := z_ln_I hi hL hlc
  have e : ∀ k i, ¬ (k = 6 ∧ i = 9) → ¬ (7 ≤ k ∧ k ≤ 14 ∧ i = G 6 9) → z_ln G kd mb ab am ot co k i = G k i := fun k i h1 h2 => z_ln_o h1 h2
  obtain ⟨n0, n7, n8, n9, n10, n11, n12, n13, n14⟩ := z_ln_n (G := G) (kd := kd) (mb := mb) (ab := ab) (am := am) (ot := ot) (co := co)
  -- the class, ahead of putInOrder
  let X1 : x_M := x_up (x_up (x_up (x_up (x_up (x_up (x_up (x_up X 7 (G 6 9) (nI kd)) 8 (G 6 9) (nI mb)) 9 (G 6 9) (nI ab)) 10 (G 6 9) (nI (G 1 8))) 11 (G 6 9) (-1000000005)) 12 (G 6 9) (nI am)) 13 (G 6 9) (nI ot)) 14 (G 6 9) (nI co)
  have hX1 : ∀ k, ¬ (7 ≤ k ∧ k ≤ 14) → X1 k = X k := by
    intro k hk
    show (x_up (x_up (x_up (x_up (x_up (x_up (x_up (x_up X 7 (G 6 9) (nI kd)) 8 (G 6 9) (nI mb)) 9 (G 6 9) (nI ab)) 10 (G 6 9) (nI (G 1 8))) 11 (G 6 9) (-1000000005)) 12 (G 6 9) (nI am)) 13 (G 6 9) (nI ot)) 14 (G 6 9) (nI co)) k = X k
    rw [z_upn (by omega), z_upn (by omega), z_upn (by omega), z_upn (by omega), z_upn (by omega), z_upn (by omega), z_upn (by omega), z_upn (by omega)]
  have hX19 : X1 9 = upd (X 9) (G 6 9) (nI ab) := by
    show (x_up (x_up (x_up (x_up (x_up (x_up (x_up (x_up X 7 (G 6 9) (nI kd)) 8 (G 6 9) (nI mb)) 9 (G 6 9) (nI ab)) 10 (G 6 9) (nI (G 1 8))) 11 (G 6 9) (-1000000005)) 12 (G 6 9) (nI am)) 13 (G 6 9) (nI ot)) 14 (G 6 9) (nI co)) 9 = _
    rw [z_upn (by omega), z_upn (by omega), z_upn (by omega), z_upn (by omega), z_upn (by omega), z_upr, z_upn (by omega), z_upn (by omega)]
  have hk9 : ∀ i, i ≤ G 6 9 → z_ln G kd mb ab am ot co 9 i < 2147483648 := by
    intro i hi'
    have h1 : i < z_ln G kd mb ab am ot co 6 9 := by rw [n0]; omega
    have h2 := hI.2.2.2.1 i h1
    have h3 := hI.1
    unfold z_IL at h2
    unfold z_IS at h3
    omega
  have hord : z_ord (z_ln G kd mb ab am ot co 9) (G 6 9) = z_ord (G 9) (G 6 9) := z_ord_congr _ (fun y hy => e 9 y (by omega) (by omega))
  obtain ⟨X2, hp1, hp2, hp3⟩ := z_put (key := z_ln G kd mb ab am ot co 9) hL hk9 (X0 := X1) (fun i hi' => by
    rw [hX19]
    by_cases e1 : i = G 6 9
    · subst e1
      rw [z_us, n9]
    · rw [z_un e1, e 9 i (by omega) (by omega)]
      exact (z_g9 hc (show i < G 6 9 by omega)).1) (G 6 9) x_FU X1 (by unfold x_FU; omega) (Nat.le_refl _) (fun _ _ => rfl) (fun j hj => by
    rw [hX1 15 (by omega), hord]
    exact ho j hj) (fun j h1 h2 => by omega) (fun h => by omega)
  have hX2 : ∀ k, ¬ (7 ≤ k ∧ k ≤ 15) → X2 k = X k := fun k hk => by rw [hp2 k (by omega), hX1 k (by omega)]
  refine ⟨x_up X2 6 9 (nI (G 6 9 + 1)), x_up (x_up (x_up (x_up (x_up (x_up (x_up (x_up (x_up M 1 (50 + 10 * G 6 9) (nI kd)) 1 (51 + 10 * G 6 9) (nI mb)) 1 (52 + 10 * G 6 9) (nI ab)) 1 (53 + 10 * G 6 9) (nI (G 1 8))) 1 (54 + 10 * G 6 9) (-1)) 1 (55 + 10 * G 6 9) (nI am)) 1 (56 + 10 * G 6 9) (nI ot)) 1 (57 + 10 * G 6 9) (nI co)) 1 5 (nI (G 6 9 + 1)), ?_, ?_, ?_, ?_, ?_⟩
  · unfold f_X0_newLine f_X3_add f_X3_putInOrder
    simp (disch := omega) only [z_gf, hT, hm, z_lt, if_pos hL, z_wr, z_upn]
    rw [show x_up (x_up (x_up (x_up (x_up (x_up (x_up (x_up X 7 (G 6 9) (nI kd)) 8 (G 6 9) (nI mb)) 9 (G 6 9) (nI ab)) 10 (G 6 9) (nI (G 1 8))) 11 (G 6 9) (-1000000005)) 12 (G 6 9) (nI am)) 13 (G 6 9) (nI ot)) 14 (G 6 9) (nI co) = X1 from rfl, hp1]
    simp (disch := omega) only [z_bn, z_pf, hX2 6 (by omega), hm, z_add, z_upr, z_us, z_sub]
    rw [show G 6 9 + 1 - 1 = G 6 9 by omega]
  · unfold f_X12_tells
    simp (disch := omega) only [z_rd, hm, z_add, z_mul, z_wr, z_upr, z_un, hT, z_us, z_sub]
    rw [show 50 + 10 * G 6 9 + 1 = 51 + 10 * G 6 9 by omega, show 50 + 10 * G 6 9 + 2 = 52 + 10 * G 6 9 by omega, show 50 + 10 * G 6 9 + 3 = 53 + 10 * G 6 9 by omega, show 50 + 10 * G 6 9 + 4 = 54 + 10 * G 6 9 by omega, show 50 + 10 * G 6 9 + 5 = 55 + 10 * G 6 9 by omega, show 50 + 10 * G 6 9 + 6 = 56 + 10 * G 6 9 by omega, show 50 + 10 * G 6 9 + 7 = 57 + 10 * G 6 9 by omega, show G 6 9 + 1 - 1 = G 6 9 by omega]
  · have hb : ∀ k, 7 ≤ k → k ≤ 14 → z_bd k (G 6 9) := fun k h1 h2 => by unfold z_bd z_okS; omega
    have c1 := z_cr_up hc 7 (G 6 9) kd (r := 7) (x := (nI kd)) (p := 50 + 10 * G 6 9) (y := (nI kd)) (hb 7 (by omega) (by omega)) rfl rfl rfl rfl
    have c2 := z_cr_up c1 8 (G 6 9) mb (r := 8) (x := (nI mb)) (p := 51 + 10 * G 6 9) (y := (nI mb)) (hb 8 (by omega) (by omega)) rfl rfl rfl rfl
    have c3 := z_cr_up c2 9 (G 6 9) ab (r := 9) (x := (nI ab)) (p := 52 + 10 * G 6 9) (y := (nI ab)) (hb 9 (by omega) (by omega)) rfl rfl rfl rfl
    have c4 := z_cr_up c3 10 (G 6 9) (G 1 8) (r := 10) (x := (nI (G 1 8))) (p := 53 + 10 * G 6 9) (y := (nI (G 1 8))) (hb 10 (by omega) (by omega)) rfl rfl rfl rfl
    have c5 := z_cr_up c4 11 (G 6 9) 0 (r := 11) (x := (-1000000005)) (p := 54 + 10 * G 6 9) (y := (-1)) (hb 11 (by omega) (by omega)) rfl rfl rfl rfl
    have c6 := z_cr_up c5 12 (G 6 9) am (r := 12) (x := (nI am)) (p := 55 + 10 * G 6 9) (y := (nI am)) (hb 12 (by omega) (by omega)) rfl rfl rfl rfl
    have c7 := z_cr_up c6 13 (G 6 9) ot (r := 13) (x := (nI ot)) (p := 56 + 10 * G 6 9) (y := (nI ot)) (hb 13 (by omega) (by omega)) rfl rfl rfl rfl
    have c8 := z_cr_up c7 14 (G 6 9) co (r := 14) (x := (nI co)) (p := 57 + 10 * G 6 9) (y := (nI co)) (hb 14 (by omega) (by omega)) rfl rfl rfl rfl
    have c8 := z_cr_fr c8 (X' := X2) (fun k i hb' => by
      unfold z_bd z_okS at hb'
      rw [hp2 _ (by omega)]) (fun p _ _ => rfl)
    have c9 := z_cr_up c8 6 9 (G 6 9 + 1) (r := 6) (x := nI (G 6 9 + 1)) (p := 5) (y := nI (G 6 9 + 1)) (by unfold z_bd z_okS; omega) rfl rfl rfl rfl
    refine ⟨⟨?_, hI, ?_, ?_, ?_⟩, ?_, ?_⟩
    · simp only [z_upr]
      refine z_cr_sub c9 (fun k i hki => ?_)
      unfold z_ok at hki
      rw [n0, e 2 3 (by omega) (by omega), e 18 8 (by omega) (by omega), e 18 9 (by omega) (by omega), e 27 3 (by omega) (by omega)] at hki
      rcases z_okS_L hki with h1 | ⟨h1, h2, h3⟩
      · exact Or.inl (Or.inl (Or.inl (Or.inl (Or.inl (Or.inl (Or.inl (Or.inl (Or.inl h1))))))))
      · subst h3
        rcases (show k = 7 ∨ k = 8 ∨ k = 9 ∨ k = 10 ∨ k = 11 ∨ k = 12 ∨ k = 13 ∨ k = 14 by omega) with rfl | rfl | rfl | rfl | rfl | rfl | rfl | rfl <;> simp
    · intro i hi'
      rw [n0] at hi' ⊢
      rw [z_upn (by omega)]
      exact hp3 i (by omega)
    · intro i hi'
      rw [e 18 9 (by omega) (by omega)] at hi'
      simp (disch := omega) only [z_upr, z_un, e]
      exact hf i hi'
    · refine z_ter_fr ht (fun k hk => by rw [z_upn (by omega), hX2 k (by omega)]) (fun p h1 h2 => ?_) (e 16 2 (by omega) (by omega)) (fun i => e 34 i (by omega) (by omega)) hS.2.2.2.1 (z_ter_len ht)
      simp (disch := omega) only [z_upr, z_un]
    · refine z_rs_fr hrs (fun k hk => by rw [z_upn (by omega), hX2 k (by omega)]) (fun k hk => ?_)
      simp (disch := omega) only [z_upn]
    · exact z_wy_fr hwy (by rw [z_upn (by omega), hX2 _ (by omega)]) (by rw [z_upn (by omega), hX2 _ (by omega)]) (e _ _ (by omega) (by omega)) (fun i => ⟨e _ _ (by omega) (by omega), e _ _ (by omega) (by omega), e _ _ (by omega) (by omega)⟩)
  · intro k hk
    rw [z_upn (by omega), hX2 k (by omega)]
  · intro k hk
    simp (disch := omega) only [z_upn]
