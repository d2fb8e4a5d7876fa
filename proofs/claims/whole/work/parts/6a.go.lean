/-! ===== all LINES happen: the class ===== -/
def z_gof (G : z_G) (Cd : Nat → Nat → List Int32) : List Nat → z_G → z_PP → z_G × z_PP
  | [], S, P => (S, P)
  | x :: l, S, P => z_gof G Cd l (z_hapS G Cd S P x) (z_hapP G Cd S P x)
def z_cd (G : z_G) (day known i : Nat) : Bool := decide (G 9 i ≤ day) && z_kn G known i
theorem z_gX {NC : Nat} {M : x_M} {G : z_G} {Cd : Nat → Nat → List Int32} {day known : Nat} (hd : day ≤ 1200) (hk : known ≤ 1200) : ∀ (l : List Nat) (j c fu : Nat) (S : z_G) (P : z_PP) (X : x_M), z_K NC X M G Cd → z_LX X S P → z_iv G S c → c + l.length ≤ 100 → (∀ t, t < l.length → (z_ord (G 9) (G 6 9)).getD (j + t) 0 = l.getD t 0) → G 6 9 = j + l.length → l.Pairwise (fun a b => a ≠ b) → (∀ x, x ∈ l → x < G 6 9 ∧ S 4 x = 0) → l.length < fu → ∃ X', f_X2_goThrough_67_1_54 NC fu X (nI day) (nI known) (nI j) = some ((), X') ∧ z_LX X' (z_gof G Cd (l.filter (z_cd G day known)) S P).1 (z_gof G Cd (l.filter (z_cd G day known)) S P).2 ∧ z_lx X X' := by
  intro l
  induction l with
  | nil =>
    intro j c fu S P X h hL hv hc hl1 hj hnd hx hfu
    obtain ⟨fu, rfl⟩ : ∃ a, fu = a + 1 := ⟨fu - 1, by omega⟩
    have hL100 : G 6 9 ≤ 100 := h.1.2.1.1.2.2.1
    rw [List.length_nil] at hj
    rw [f_X2_goThrough_67_1_54_s, z_gf, (z_g6 h.1.1).1, if_pos (by rw [z_le (by omega) (by omega)]; omega)]
    exact ⟨X, rfl, hL, z_lx_r⟩
  | cons x l ih =>
    intro j c fu S P X h hL hv hc hl1 hj hnd hx hfu
    obtain ⟨fu, rfl⟩ : ∃ a, fu = a + 1 := ⟨fu - 1, by omega⟩
    have hL100 : G 6 9 ≤ 100 := h.1.2.1.1.2.2.1
    have hday : G 1 8 ≤ 1200 := h.1.2.1.1.1
    rw [List.length_cons] at hj hc hfu
    obtain ⟨hxl, hx0⟩ := hx x (by simp)
    have I := h.1.2.1.2.2.2.1 x hxl
    unfold z_IL at I
    have ex : (z_ord (G 9) (G 6 9)).getD j 0 = x := hl1 0 (by rw [List.length_cons]; omega)
    have h15 : X 15 j = nI x := by
      have := h.1.2.2.1 j (by omega)
      rw [ex] at this
      exact this
    have hl2 : ∀ t, t < l.length → (z_ord (G 9) (G 6 9)).getD (j + 1 + t) 0 = l.getD t 0 := fun t ht => by
      have := hl1 (t + 1) (by rw [List.length_cons]; omega)
      rw [show j + 1 + t = j + (t + 1) by omega, this]
      rfl
    have hnd' := List.pairwise_cons.mp hnd
    have g9 := (z_g9 h.1.1 hxl).1
    have g7 := (z_g7 h.1.1 hxl).1
    have skip : z_cd G day known x = false → ∃ X', f_X2_goThrough_67_1_54 NC fu X (nI day) (nI known) (nI j + nI 1) = some ((), X') ∧ z_LX X' (z_gof G Cd ((x :: l).filter (z_cd G day known)) S P).1 (z_gof G Cd ((x :: l).filter (z_cd G day known)) S P).2 ∧ z_lx X X' := by
      intro hno
      rw [List.filter_cons_of_neg (by rw [hno]; decide), z_add]
      exact ih (j + 1) c fu S P X h hL hv (by omega) hl2 (by omega) hnd'.2 (fun y hy => hx y (by simp [hy])) (by omega)
    rw [f_X2_goThrough_67_1_54_s, z_gf, (z_g6 h.1.1).1, if_neg (by rw [z_le (by omega) (by omega)]; omega), z_rd (by omega) (by omega), h15, z_rd (by omega) (by omega), g9]
    unfold f_X2_goThrough_67_1_197
    by_cases c1 : day < G 9 x
    · rw [if_pos (by rw [z_lt (by omega) (by omega)]; exact c1)]
      exact skip (by unfold z_cd; rw [decide_eq_false (by omega), Bool.false_and])
    · rw [if_neg (by rw [z_lt (by omega) (by omega)]; exact c1), z_knX h hxl hk, z_bn]
      by_cases c2 : z_kn G known x = true
      · have hyes : z_cd G day known x = true := by
          unfold z_cd
          rw [decide_eq_true (by omega), c2]
          rfl
        rw [if_pos c2, if_neg z_n10, z_rd (by omega) (by omega), g7, List.filter_cons_of_pos hyes]
        obtain ⟨X1, a1, a2, a3⟩ := z_hpX h hL hv (by omega) hxl hx0 (K := fun M => f_X2_goThrough_67_1_54 NC fu M (nI day) (nI known) (nI j + nI 1))
        rw [a1, z_add]
        obtain ⟨v1, v2⟩ := z_hap_iv (P := P) (Cd := Cd) h.1.2.1 hv (by omega) hxl
        obtain ⟨X2, b1, b2, b3⟩ := ih (j + 1) (c + 1) fu _ _ X1 (z_lx_K h a3 z_lm_r) a2 v1 (by omega) hl2 (by omega) hnd'.2 (fun y hy => ⟨(hx y (by simp [hy])).1, by rw [v2 y (fun e => hnd'.1 y hy e.symm)]; exact (hx y (by simp [hy])).2⟩) (by omega)
        exact ⟨X2, b1, b2, z_lx_t a3 b3⟩
      · rw [if_neg c2, if_pos z_n00]
        exact skip (by unfold z_cd; rw [Bool.and_eq_false_iff]; exact Or.inr (by simpa using c2))
