/-! ===== all LINES happen: the reference ===== -/
theorem z_i120 {NC : Nat} {X M0 : x_M} {G : z_G} {Cd : Nat → Nat → List Int32} (h : z_K NC X M0 G Cd) {q : List Nat} {x : Nat} {d k : Int32} (hx : x < G 6 9) (hq : q.length < 100) (hqm : ∀ y, y ∈ q → y < G 6 9) (hs : q.Pairwise (fun a b => G 9 a ≤ G 9 b)) {k58 : x_M → Int32 → Int32 → Int32 → Int32 → Option (Unit × x_M)} : ∀ (p fu : Nat) (M : x_M), p < fu → p ≤ q.length → (∀ k, k ≠ 15 → M k = M0 k) → (∀ j, j < p → M 15 j = nI (q.getD j 0)) → (∀ j, p < j → j ≤ q.length → M 15 j = nI (q.getD (j - 1) 0)) → (p < q.length → G 9 x < G 9 (q.getD p 0)) → ∃ M', f_X12_stand_120 k58 fu M d k (nI q.length) (nI x) (nI p) = k58 M' d k (nI (q.length + 1)) (nI (x + 1)) ∧ (∀ k, k ≠ 15 → M' k = M0 k) ∧ ∀ j, j ≤ q.length → M' 15 j = nI ((z_sins (G 9) x q).getD j 0) := by
  have hL100 : G 6 9 ≤ 100 := h.1.2.1.1.2.2.1
  have hday : G 1 8 ≤ 1200 := h.1.2.1.1.1
  have hb9 : ∀ y, y < G 6 9 → G 9 y ≤ 1200 := fun y hy => by
    have I := h.1.2.1.2.2.2.1 y hy
    unfold z_IL at I
    omega
  have hqd : ∀ j, j < q.length → q.getD j 0 < G 6 9 := fun j hj => by
    rw [List.getD_eq_getElem?_getD, List.getElem?_eq_getElem hj]
    exact hqm _ (List.getElem_mem _)
  have hle : ∀ a b, a ≤ b → b < q.length → G 9 (q.getD a 0) ≤ G 9 (q.getD b 0) := fun a b hab hb => by
    rcases Nat.lt_or_eq_of_le hab with h1 | rfl
    · have hp := List.pairwise_iff_getElem.mp hs a b (by omega) hb h1
      rw [List.getD_eq_getElem?_getD, List.getD_eq_getElem?_getD, List.getElem?_eq_getElem (show a < q.length by omega), List.getElem?_eq_getElem hb]
      exact hp
    · exact Nat.le_refl _
  have fin : ∀ (p : Nat) (M : x_M), p ≤ q.length → (∀ k, k ≠ 15 → M k = M0 k) → (∀ j, j < p → M 15 j = nI (q.getD j 0)) → (∀ j, p < j → j ≤ q.length → M 15 j = nI (q.getD (j - 1) 0)) → (p < q.length → G 9 x < G 9 (q.getD p 0)) → (0 < p → G 9 (q.getD (p - 1) 0) ≤ G 9 x) → ∃ M', f_X12_stand_187 k58 M d k (nI q.length) (nI x) (nI p) = k58 M' d k (nI (q.length + 1)) (nI (x + 1)) ∧ (∀ k, k ≠ 15 → M' k = M0 k) ∧ ∀ j, j ≤ q.length → M' 15 j = nI ((z_sins (G 9) x q).getD j 0) := by
    intro p M hp hM h1 h2 h3 h4
    unfold f_X12_stand_187 f_X12_stand_199
    rw [z_wr (by omega) (by omega), z_add, z_add]
    refine ⟨_, rfl, fun k hk => by rw [z_upn hk]; exact hM k hk, fun j hj => ?_⟩
    rw [z_upr, z_sins_getD q p j hp (fun i hi => Nat.le_trans (hle i (p - 1) (by omega) (by omega)) (h4 (by omega))) h3]
    by_cases hj1 : j < p
    · rw [if_pos hj1, z_un (by omega)]
      exact h1 j hj1
    · rw [if_neg hj1]
      by_cases hj2 : j = p
      · rw [if_pos hj2, hj2, z_us]
      · rw [if_neg hj2, z_un hj2]
        exact h2 j (by omega) hj
  intro p
  induction p with
  | zero =>
    intro fu M hfu hp hM h1 h2 h3
    obtain ⟨fu, rfl⟩ : ∃ a, fu = a + 1 := ⟨fu - 1, by omega⟩
    rw [f_X12_stand_120_s, if_pos (by decide)]
    exact fin 0 M hp hM h1 h2 h3 (by omega)
  | succ p ih =>
    intro fu M hfu hp hM h1 h2 h3
    obtain ⟨fu, rfl⟩ : ∃ a, fu = a + 1 := ⟨fu - 1, by omega⟩
    have hy := hqd p (by omega)
    have m1 : M 1 = M0 1 := hM 1 (by omega)
    have gx : M 1 (52 + 10 * x) = nI (G 9 x) := by
      rw [m1]
      exact (z_g9 h.1.1 hx).2
    have gy : M 1 (52 + 10 * q.getD p 0) = nI (G 9 (q.getD p 0)) := by
      rw [m1]
      exact (z_g9 h.1.1 hy).2
    have bx := hb9 x hx
    have by' := hb9 _ hy
    rw [f_X12_stand_120_s, if_neg (by rw [z_le0 (by omega)]; omega), z_sub (by omega), show p + 1 - 1 = p by omega, z_rd (by omega) (by omega), h1 p (by omega), z_mul, z_add, z_add, show 50 + 10 * q.getD p 0 + 2 = 52 + 10 * q.getD p 0 by omega, z_rd (by omega) (by omega), gy, z_mul, z_add, z_add, show 50 + 10 * x + 2 = 52 + 10 * x by omega, z_rd (by omega) (by omega), gx]
    by_cases hk : G 9 (q.getD p 0) ≤ G 9 x
    · rw [if_pos (by rw [z_le (by omega) (by omega)]; exact hk)]
      exact fin (p + 1) M hp hM h1 h2 h3 (fun _ => by rw [show p + 1 - 1 = p by omega]; exact hk)
    · rw [if_neg (by rw [z_le (by omega) (by omega)]; exact hk), z_rd (by omega) (by omega), h1 p (by omega), z_wr (by omega) (by omega), z_m1 (by omega), show p + 1 - 1 = p by omega]
      refine ih fu _ (by omega) (by omega) (fun k hk' => by rw [z_upn hk']; exact hM k hk') (fun j hj => ?_) (fun j hj hj2 => ?_) (fun _ => by omega)
      · rw [z_upr, z_un (by omega)]
        exact h1 j (by omega)
      · rw [z_upr]
        by_cases e : j = p + 1
        · rw [e, z_us, show p + 1 - 1 = p by omega]
        · rw [z_un e]
          exact h2 j (by omega) hj2
theorem z_sins_fil {key : Nat → Nat} {P : Nat → Bool} {x : Nat} : ∀ l : List Nat, l.Pairwise (fun a b => key a ≤ key b) → (z_sins key x l).filter P = if P x = true then z_sins key x (l.filter P) else l.filter P
  | [], _ => by
    unfold z_sins
    by_cases c : P x = true
    · rw [if_pos c, List.filter_cons_of_pos c]
      rfl
    · rw [if_neg c, List.filter_cons_of_neg c]
  | y :: l, h => by
    have hs := List.pairwise_cons.mp h
    have ih := z_sins_fil (key := key) (P := P) (x := x) l hs.2
    rw [z_sins]
    by_cases ck : key y ≤ key x
    · rw [if_pos ck]
      by_cases cy : P y = true
      · rw [List.filter_cons_of_pos cy, List.filter_cons_of_pos cy, ih]
        by_cases c : P x = true
        · rw [if_pos c, if_pos c, z_sins, if_pos ck]
        · rw [if_neg c, if_neg c]
      · rw [List.filter_cons_of_neg cy, List.filter_cons_of_neg cy, ih]
    · rw [if_neg ck]
      by_cases c : P x = true
      · rw [if_pos c, List.filter_cons_of_pos c]
        cases hfl : (y :: l).filter P with
        | nil => rfl
        | cons z m =>
          have hz : z ∈ (y :: l).filter P := by rw [hfl]; simp
          have hz2 := (List.mem_filter.mp hz).1
          have hkz : key y ≤ key z := by
            rcases List.mem_cons.mp hz2 with e | e
            · rw [e]
              exact Nat.le_refl _
            · exact hs.1 z e
          rw [z_sins, if_neg (by omega)]
      · rw [if_neg c, List.filter_cons_of_neg c]
