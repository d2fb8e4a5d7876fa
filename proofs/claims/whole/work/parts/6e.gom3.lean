/-! ===== the reference's stand ===== -/
def z_qf (G : z_G) (day known i : Nat) : List Nat := (z_ord (G 9) i).filter (z_cd G day known)
theorem z_qf_len {G : z_G} {day known i : Nat} : (z_qf G day known i).length ≤ i := by
  unfold z_qf
  have h1 := List.length_filter_le (z_cd G day known) (z_ord (G 9) i)
  rw [z_ord_len] at h1
  exact h1
theorem z_qf_mem {G : z_G} {day known i y : Nat} (h : y ∈ z_qf G day known i) : y < i := (z_ord_mem _).mp (List.mem_filter.mp h).1
theorem z_qf_s {G : z_G} {day known i : Nat} : z_qf G day known (i + 1) = if z_cd G day known i = true then z_sins (G 9) i (z_qf G day known i) else z_qf G day known i := by
  unfold z_qf
  rw [z_ord, z_sins_fil _ (z_ord_sorted i)]
theorem z_qf_so {G : z_G} {day known i : Nat} : (z_qf G day known i).Pairwise (fun a b => G 9 a ≤ G 9 b) := List.Pairwise.filter _ (z_ord_sorted i)
theorem z_s58 {NC : Nat} {X : x_M} {G : z_G} {Cd : Nat → Nat → List Int32} {day known : Nat} (hd : day ≤ 1200) (hk : known ≤ 1200) : ∀ (e i fu : Nat) (M : x_M), z_K NC X M G Cd → G 6 9 = i + e → e < fu → (∀ j, j < (z_qf G day known i).length → M 15 j = nI ((z_qf G day known i).getD j 0)) → (∀ t, t < i → M 14 t = nI 0 ∧ M 16 t = nI 0) → ∃ M', f_X12_stand_58 fu M (nI day) (nI known) (nI (z_qf G day known i).length) (nI i) = f_X12_stand_208 x_FU M' (nI (z_qf G day known (G 6 9)).length) (nI 0) ∧ (∀ j, j < (z_qf G day known (G 6 9)).length → M' 15 j = nI ((z_qf G day known (G 6 9)).getD j 0)) ∧ (∀ t, t < G 6 9 → M' 14 t = nI 0 ∧ M' 16 t = nI 0) ∧ ∀ k, k ≠ 14 → k ≠ 15 → k ≠ 16 → M' k = M k := by
  intro e
  induction e with
  | zero =>
    intro i fu M h hi hfu h15 h14
    obtain ⟨fu, rfl⟩ : ∃ a, fu = a + 1 := ⟨fu - 1, by omega⟩
    have hL100 : G 6 9 ≤ 100 := h.1.2.1.1.2.2.1
    have hi' : i = G 6 9 := by omega
    subst hi'
    rw [f_X12_stand_58_s, z_rd (by omega) (by omega), (z_g6 h.1.1).2, if_pos (by rw [z_le (by omega) (by omega)]; omega)]
    exact ⟨M, rfl, h15, h14, fun _ _ _ _ => rfl⟩
  | succ e ih =>
    intro i fu M h hi hfu h15 h14
    obtain ⟨fu, rfl⟩ : ∃ a, fu = a + 1 := ⟨fu - 1, by omega⟩
    have hL100 : G 6 9 ≤ 100 := h.1.2.1.1.2.2.1
    have hday : G 1 8 ≤ 1200 := h.1.2.1.1.1
    have hil : i < G 6 9 := by omega
    have I := h.1.2.1.2.2.2.1 i hil
    unfold z_IL at I
    have hlen := z_qf_len (G := G) (day := day) (known := known) (i := i)
    rw [f_X12_stand_58_s, z_rd (by omega) (by omega), (z_g6 h.1.1).2, if_neg (by rw [z_le (by omega) (by omega)]; omega), show vp_nar .boolean (nI 0) = nI 0 by decide, z_wr (by omega) (by omega), z_wr (by omega) (by omega)]
    have key : ∀ M1 : x_M, (∀ k, k ≠ 14 → k ≠ 16 → M1 k = M k) → (∀ t, t < i + 1 → M1 14 t = nI 0 ∧ M1 16 t = nI 0) → ∃ M', x_bn (f_X12_isKnown M1 (nI i) (nI known)) (fun r89 M => if r89 = 0 then f_X12_stand_199 (f_X12_stand_58 fu) M (nI day) (nI known) (nI (z_qf G day known i).length) (nI i) else x_rd 5512 (M 1) (((nI 50) + ((nI 10) * (nI i))) + (nI 2)) (fun r109 => if r109 ≤ (nI day) then f_X12_stand_120 (f_X12_stand_58 fu) x_FU M (nI day) (nI known) (nI (z_qf G day known i).length) (nI i) (nI (z_qf G day known i).length) else f_X12_stand_199 (f_X12_stand_58 fu) M (nI day) (nI known) (nI (z_qf G day known i).length) (nI i))) = f_X12_stand_208 x_FU M' (nI (z_qf G day known (G 6 9)).length) (nI 0) ∧ (∀ j, j < (z_qf G day known (G 6 9)).length → M' 15 j = nI ((z_qf G day known (G 6 9)).getD j 0)) ∧ (∀ t, t < G 6 9 → M' 14 t = nI 0 ∧ M' 16 t = nI 0) ∧ ∀ k, k ≠ 14 → k ≠ 15 → k ≠ 16 → M' k = M k := by
      intro M1 f1 f2
      have K1 : z_K NC X M1 G Cd := z_K_fr h (fun _ _ => rfl) (f1 1 (by omega) (by omega))
      have g9 := (z_g9 K1.1.1 hil).2
      have skip : z_cd G day known i = false → ∃ M', f_X12_stand_199 (f_X12_stand_58 fu) M1 (nI day) (nI known) (nI (z_qf G day known i).length) (nI i) = f_X12_stand_208 x_FU M' (nI (z_qf G day known (G 6 9)).length) (nI 0) ∧ (∀ j, j < (z_qf G day known (G 6 9)).length → M' 15 j = nI ((z_qf G day known (G 6 9)).getD j 0)) ∧ (∀ t, t < G 6 9 → M' 14 t = nI 0 ∧ M' 16 t = nI 0) ∧ ∀ k, k ≠ 14 → k ≠ 15 → k ≠ 16 → M' k = M k := by
        intro hno
        have eq : z_qf G day known (i + 1) = z_qf G day known i := by rw [z_qf_s, hno]; rfl
        unfold f_X12_stand_199
        rw [z_add, ← eq]
        obtain ⟨M', a1, a2, a3, a4⟩ := ih (i + 1) fu M1 K1 (by omega) (by omega) (by rw [eq, f1 15 (by omega) (by omega)]; exact h15) f2
        exact ⟨M', a1, a2, a3, fun k k1 k2 k3 => by rw [a4 k k1 k2 k3, f1 k k1 k3]⟩
      rw [z_knM K1 hil hk, z_bn]
      by_cases c2 : z_kn G known i = true
      · rw [if_pos c2, if_neg z_n10, z_mul, z_add, z_add, z_rd (by omega) (by omega), show 50 + 10 * i + 2 = 52 + 10 * i by omega, g9]
        by_cases c1 : G 9 i ≤ day
        · have hyes : z_cd G day known i = true := by
            unfold z_cd
            rw [decide_eq_true c1, c2]
            rfl
          have eq : z_qf G day known (i + 1) = z_sins (G 9) i (z_qf G day known i) := by rw [z_qf_s, if_pos hyes]
          have el : (z_qf G day known (i + 1)).length = (z_qf G day known i).length + 1 := by rw [eq, z_sins_len]
          rw [if_pos (by rw [z_le (by omega) (by omega)]; exact c1)]
          obtain ⟨M2, b1, b2, b3⟩ := z_i120 K1 (q := z_qf G day known i) (x := i) (d := nI day) (k := nI known) hil (by omega) (fun y hy => by have := z_qf_mem hy; omega) z_qf_so (k58 := f_X12_stand_58 fu) (z_qf G day known i).length x_FU M1 (by unfold x_FU; omega) (Nat.le_refl _) (fun _ _ => rfl) (by rw [f1 15 (by omega) (by omega)]; exact h15) (fun j q1 q2 => by omega) (fun q1 => by omega)
          rw [b1, ← el]
          obtain ⟨M', a1, a2, a3, a4⟩ := ih (i + 1) fu M2 (z_K_fr K1 (fun _ _ => rfl) (b2 1 (by omega))) (by omega) (by omega) (fun j hj => by rw [eq]; exact b3 j (by omega)) (fun t ht => by rw [b2 14 (by omega), b2 16 (by omega)]; exact f2 t ht)
          exact ⟨M', a1, a2, a3, fun k k1 k2 k3 => by rw [a4 k k1 k2 k3, b2 k k2, f1 k k1 k3]⟩
        · rw [if_neg (by rw [z_le (by omega) (by omega)]; exact c1)]
          exact skip (by unfold z_cd; rw [decide_eq_false c1, Bool.false_and])
      · rw [if_neg c2, if_pos z_n00]
        exact skip (by unfold z_cd; rw [Bool.and_eq_false_iff]; exact Or.inr (by simpa using c2))
    refine key _ (fun k k1 k2 => by rw [z_upn k2, z_upn k1]) (fun t ht => ?_)
    rw [z_upn (by omega), z_upr, z_upr, z_upn (by omega)]
    by_cases e1 : t = i
    · rw [e1, z_us, z_us]
      exact ⟨rfl, rfl⟩
    · rw [z_un e1, z_un e1]
      exact h14 t (by omega)
