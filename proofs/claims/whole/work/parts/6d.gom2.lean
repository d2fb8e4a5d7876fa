/-! ===== the reference goes through them ===== -/
theorem z_s208 {NC : Nat} {X : x_M} {G : z_G} {Cd : Nat → Nat → List Int32} {n : Nat} (hn : n ≤ 100) : ∀ (l : List Nat) (j c fu : Nat) (S : z_G) (P : z_PP) (M : x_M), z_K NC X M G Cd → z_LM (G 6 9) M S P → z_iv G S c → c + l.length ≤ 100 → (∀ t, t < l.length → M 15 (j + t) = nI (l.getD t 0)) → n = j + l.length → (∀ x, x ∈ l → x < G 6 9) → l.length < fu → ∃ M', f_X12_stand_208 fu M (nI n) (nI j) = some ((), M') ∧ z_LM (G 6 9) M' (z_gof G Cd l S P).1 (z_gof G Cd l S P).2 ∧ z_lm M M' := by
  intro l
  induction l with
  | nil =>
    intro j c fu S P M h hL hv hc hl1 hj hx hfu
    obtain ⟨fu, rfl⟩ : ∃ a, fu = a + 1 := ⟨fu - 1, by omega⟩
    rw [List.length_nil] at hj
    rw [f_X12_stand_208_s, if_pos (by rw [z_le (by omega) (by omega)]; omega)]
    exact ⟨M, rfl, hL, z_lm_r⟩
  | cons x l ih =>
    intro j c fu S P M h hL hv hc hl1 hj hx hfu
    obtain ⟨fu, rfl⟩ : ∃ a, fu = a + 1 := ⟨fu - 1, by omega⟩
    rw [List.length_cons] at hj hc hfu
    have hxl := hx x (by simp)
    have h15 : M 15 j = nI x := hl1 0 (by rw [List.length_cons]; omega)
    obtain ⟨v1, v2⟩ := z_hap_iv (P := P) (Cd := Cd) h.1.2.1 hv (by omega) hxl
    have I := h.1.2.1.2.2.2.1 x hxl
    unfold z_IL at I
    have hS0 := hv.2.1
    obtain ⟨M1, a1, a2, a3⟩ := z_hpM h hL hv.1 (by omega) hxl (fun k3 => hv.2.2.2 _ (by have := I.2.2.2.2.2.2.2.2.2.2.2.2 k3; omega) (I.2.2.2.2.2.2.2.2.2.2.2.2 k3).2.1) hv.2.2.1
    rw [f_X12_stand_208_s, if_neg (by rw [z_le (by omega) (by omega)]; omega), z_rd (by omega) (by omega), h15, a1, z_bn, z_add]
    obtain ⟨M2, b1, b2, b3⟩ := ih (j + 1) (c + 1) fu _ _ M1 (z_lx_K h z_lx_r a3) a2 v1 (by omega) (fun t ht => by
      rw [a3.1 15 (by omega) (by omega), show j + 1 + t = j + (t + 1) by omega, hl1 (t + 1) (by rw [List.length_cons]; omega)]
      rfl) (by omega) (fun y hy => hx y (by simp [hy])) (by omega)
    exact ⟨M2, b1, b2, z_lm_t a3 b3⟩
