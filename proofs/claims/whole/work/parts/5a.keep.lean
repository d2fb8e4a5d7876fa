/-! ===== keep, again ===== -/
theorem z_ow {n k0 k1 : Nat} {M : x_M} (hn : n < 1000000) : x_ac n n M k0 (nI 0) k1 (nI 0) (if (nI n) < (nI n) then (nI n) else (nI n)) (fun M => some ((), M)) = some ((), va_up M k1 (va_cpy (M k0) (M k1) 0 0 n)) := by
  rw [ite_self, z_ac (by omega) (by omega) (by omega)]
theorem z_cp0 {f g : Nat → Int32} {n i : Nat} (h : i < n) : va_cpy f g 0 0 n i = f i := by
  rw [pk_cpy_in (by omega) (by omega)]
  congr 1
  omega
theorem z_xtk {α : Type} {NC r : Nat} {K : Option α} (h : z_tk NC r) (hN : NC ≤ 100000) : x_tk NC (nI r) K = K := by
  unfold z_tk at h
  unfold x_tk
  rw [nI_clamp (by omega), if_pos (by omega)]
theorem z_bm_k (X : x_M) : ∃ X', f_X4_become_35_2 X = some ((), X') ∧ (∀ k, k < 35 ∨ 38 < k → X' k = X k) ∧ (∀ i, i < 10 → X' 36 i = X 3 i) ∧ (∀ i, i < 10 → X' 37 i = X 4 i) ∧ (∀ i, i < 10 → X' 38 i = X 5 i) ∧ X' 35 3 = X 2 3 := by
  unfold f_X4_become_35_2 f_X0_overwrite_36_3 f_X0_overwrite_37_4 f_X0_overwrite_38_5
  simp (disch := omega) only [z_ow, z_bn, z_gf, z_pf]
  refine ⟨_, rfl, fun k hk => ?_, fun i hi => ?_, fun i hi => ?_, fun i hi => ?_, ?_⟩
  · simp (disch := omega) only [z_upn, z_vn]
  · simp (disch := omega) only [z_upn, z_vn, z_vr, z_cp0]
  · simp (disch := omega) only [z_upn, z_vn, z_vr, z_cp0]
  · simp (disch := omega) only [z_upn, z_vn, z_vr, z_cp0]
  · simp (disch := omega) only [z_upn, z_vn, z_upr, z_us, z_un]
theorem z_bl_k (X : x_M) : ∃ X', f_X3_become_39_6 X = some ((), X') ∧ (∀ k, k < 39 ∨ 48 < k → X' k = X k) ∧ (∀ i, i < 100 → X' 40 i = X 7 i) ∧ (∀ i, i < 100 → X' 41 i = X 8 i) ∧ (∀ i, i < 100 → X' 42 i = X 9 i) ∧ (∀ i, i < 100 → X' 43 i = X 10 i) ∧ (∀ i, i < 100 → X' 44 i = X 11 i) ∧ (∀ i, i < 100 → X' 45 i = X 12 i) ∧ (∀ i, i < 100 → X' 46 i = X 13 i) ∧ (∀ i, i < 100 → X' 47 i = X 14 i) ∧ (∀ i, i < 100 → X' 48 i = X 15 i) ∧ X' 39 9 = X 6 9 := by
  unfold f_X3_become_39_6 f_X0_overwrite_40_7 f_X0_overwrite_41_8 f_X0_overwrite_42_9 f_X0_overwrite_43_10 f_X0_overwrite_44_11 f_X0_overwrite_45_12 f_X0_overwrite_46_13 f_X0_overwrite_47_14 f_X0_overwrite_48_15
  simp (disch := omega) only [z_ow, z_bn, z_gf, z_pf]
  refine ⟨_, rfl, fun k hk => ?_, fun i hi => ?_, fun i hi => ?_, fun i hi => ?_, fun i hi => ?_, fun i hi => ?_, fun i hi => ?_, fun i hi => ?_, fun i hi => ?_, fun i hi => ?_, ?_⟩
  · simp (disch := omega) only [z_upn, z_vn]
  · simp (disch := omega) only [z_upn, z_vn, z_vr, z_cp0]
  · simp (disch := omega) only [z_upn, z_vn, z_vr, z_cp0]
  · simp (disch := omega) only [z_upn, z_vn, z_vr, z_cp0]
  · simp (disch := omega) only [z_upn, z_vn, z_vr, z_cp0]
  · simp (disch := omega) only [z_upn, z_vn, z_vr, z_cp0]
  · simp (disch := omega) only [z_upn, z_vn, z_vr, z_cp0]
  · simp (disch := omega) only [z_upn, z_vn, z_vr, z_cp0]
  · simp (disch := omega) only [z_upn, z_vn, z_vr, z_cp0]
  · simp (disch := omega) only [z_upn, z_vn, z_vr, z_cp0]
  · simp (disch := omega) only [z_upn, z_vn, z_upr, z_us, z_un]
theorem z_bs_k (X : x_M) : ∃ X', f_X6_become_51_18 X = some ((), X') ∧ (∀ k, k < 51 ∨ 59 < k → X' k = X k) ∧ (∀ i, i < 8 → X' 52 i = X 19 i) ∧ (∀ i, i < 8 → X' 53 i = X 20 i) ∧ (∀ i, i < 8 → X' 54 i = X 21 i) ∧ (∀ i, i < 8 → X' 55 i = X 22 i) ∧ (∀ i, i < 30 → X' 56 i = X 23 i) ∧ (∀ i, i < 30 → X' 57 i = X 24 i) ∧ (∀ i, i < 30 → X' 58 i = X 25 i) ∧ (∀ i, i < 30 → X' 59 i = X 26 i) ∧ X' 51 8 = X 18 8 ∧ X' 51 9 = X 18 9 := by
  unfold f_X6_become_51_18 f_X0_overwrite_52_19 f_X0_overwrite_53_20 f_X0_overwrite_54_21 f_X0_overwrite_55_22 f_X0_overwrite_56_23 f_X0_overwrite_57_24 f_X0_overwrite_58_25 f_X0_overwrite_59_26
  simp (disch := omega) only [z_ow, z_bn, z_gf, z_pf]
  refine ⟨_, rfl, fun k hk => ?_, fun i hi => ?_, fun i hi => ?_, fun i hi => ?_, fun i hi => ?_, fun i hi => ?_, fun i hi => ?_, fun i hi => ?_, fun i hi => ?_, ?_, ?_⟩
  · simp (disch := omega) only [z_upn, z_vn]
  · simp (disch := omega) only [z_upn, z_vn, z_vr, z_cp0]
  · simp (disch := omega) only [z_upn, z_vn, z_vr, z_cp0]
  · simp (disch := omega) only [z_upn, z_vn, z_vr, z_cp0]
  · simp (disch := omega) only [z_upn, z_vn, z_vr, z_cp0]
  · simp (disch := omega) only [z_upn, z_vn, z_vr, z_cp0]
  · simp (disch := omega) only [z_upn, z_vn, z_vr, z_cp0]
  · simp (disch := omega) only [z_upn, z_vn, z_vr, z_cp0]
  · simp (disch := omega) only [z_upn, z_vn, z_vr, z_cp0]
  · simp (disch := omega) only [z_upn, z_vn, z_upr, z_us, z_un]
  · simp (disch := omega) only [z_upn, z_vn, z_upr, z_us, z_un]
theorem z_bo_k (X : x_M) : ∃ X', f_X5_become_60_27 X = some ((), X') ∧ (∀ k, k < 60 ∨ 63 < k → X' k = X k) ∧ (∀ i, i < 8 → X' 61 i = X 28 i) ∧ (∀ i, i < 8 → X' 62 i = X 29 i) ∧ (∀ i, i < 8 → X' 63 i = X 30 i) ∧ X' 60 3 = X 27 3 := by
  unfold f_X5_become_60_27 f_X0_overwrite_61_28 f_X0_overwrite_62_29 f_X0_overwrite_63_30
  simp (disch := omega) only [z_ow, z_bn, z_gf, z_pf]
  refine ⟨_, rfl, fun k hk => ?_, fun i hi => ?_, fun i hi => ?_, fun i hi => ?_, ?_⟩
  · simp (disch := omega) only [z_upn, z_vn]
  · simp (disch := omega) only [z_upn, z_vn, z_vr, z_cp0]
  · simp (disch := omega) only [z_upn, z_vn, z_vr, z_cp0]
  · simp (disch := omega) only [z_upn, z_vn, z_vr, z_cp0]
  · simp (disch := omega) only [z_upn, z_vn, z_upr, z_us, z_un]
theorem z_bt_k {NC : Nat} (hN : NC ≤ 100000) : ∀ (d j n : Nat) (X : x_M), 4 = j + d → d < n → (∀ i, X 17 i = 0 ∨ ∃ r, X 17 i = nI r ∧ z_tk NC r) → ∃ X', f_X9_become_49_16_2 NC n X (nI j) = some ((), X') ∧ (∀ k, k ≠ 49 → k ≠ 50 → X' k = X k) ∧ (∀ i, X' 50 i = if j ≤ i ∧ i < 4 then X 17 i else X 50 i) ∧ X' 49 2 = X 16 2 := by
  intro d
  induction d with
  | zero =>
    intro j n X hj hn hv
    obtain ⟨n, rfl⟩ : ∃ a, n = a + 1 := ⟨n - 1, by omega⟩
    rw [f_X9_become_49_16_2_s]
    simp (disch := omega) only [z_le]
    rw [if_pos (by omega)]
    simp only [z_gf, z_pf]
    exact ⟨_, rfl, fun k q1 q2 => z_upn q1, fun i => by rw [if_neg (by omega), z_upn (by omega)], by rw [z_upr, z_us]⟩
  | succ d ih =>
    intro j n X hj hn hv
    obtain ⟨n, rfl⟩ : ∃ a, n = a + 1 := ⟨n - 1, by omega⟩
    have step : ∃ X', f_X9_become_49_16_2 NC n (x_up X 50 j (X 17 j)) (nI (j + 1)) = some ((), X') ∧ (∀ k, k ≠ 49 → k ≠ 50 → X' k = X k) ∧ (∀ i, X' 50 i = if j ≤ i ∧ i < 4 then X 17 i else X 50 i) ∧ X' 49 2 = X 16 2 := by
      obtain ⟨X', e1, e2, e3, e4⟩ := ih (j + 1) n (x_up X 50 j (X 17 j)) (by omega) (by omega) (by rw [z_upn (by omega)]; exact hv)
      refine ⟨X', e1, fun k q1 q2 => by rw [e2 k q1 q2, z_upn q2], fun i => ?_, by rw [e4, z_upn (by omega)]⟩
      rw [e3 i, z_upn (by omega), z_upr]
      by_cases h : i = j
      · subst h
        rw [if_neg (by omega), if_pos (by omega), z_us]
      · by_cases h2 : j + 1 ≤ i ∧ i < 4
        · rw [if_pos h2, if_pos (by omega)]
        · rw [if_neg h2, if_neg (by omega), z_un h]
    rw [f_X9_become_49_16_2_s]
    simp (disch := omega) only [z_le, z_rd, z_add, z_wr]
    rw [if_neg (by omega)]
    rcases hv j with h | ⟨r, h, hr⟩
    · rw [if_pos h, ← h]
      exact step
    · have hr2 := hr
      unfold z_tk at hr2
      rw [if_neg (by rw [h]; exact nI_ne0 (by omega) (by omega))]
      rw [h] at step ⊢
      rw [z_xtk hr hN]
      exact step
theorem z_bc_k {NC : Nat} (hN : NC ≤ 100000) (X : x_M) (hv : ∀ i, X 17 i = 0 ∨ ∃ r, X 17 i = nI r ∧ z_tk NC r) : ∃ X', f_X0_become_34_1 NC X = some ((), X') ∧ (∀ k, k < 34 ∨ 66 < k → X' k = X k) ∧ (∀ k i, z_bd k i → X' (k + 33) i = X (k + 0) i) ∧ (∀ i, i < 100 → X' 48 i = X 15 i) ∧ ∀ i, X' 50 i = if i < 4 then X 17 i else X 50 i := by
  obtain ⟨X1, a1, a2, a3⟩ := z_bm_k X
  obtain ⟨X2, b1, b2, b3⟩ := z_bl_k X1
  obtain ⟨X3, c1, c2, c3, c4⟩ := z_bt_k hN 4 0 x_FU X2 (by omega) (by unfold x_FU; omega) (by rw [b2 17 (by omega), a2 17 (by omega)]; exact hv)
  obtain ⟨X4, d1, d2, d3⟩ := z_bs_k X3
  obtain ⟨X5, e1, e2, e3⟩ := z_bo_k X4
  unfold f_X0_become_34_1 f_X9_become_49_16 f_X0_overwrite_64_31 f_X0_overwrite_65_32 f_X0_overwrite_66_33
  rw [a1, z_bn, b1, z_bn, c1, z_bn, d1, z_bn, e1, z_bn]
  simp (disch := omega) only [z_ow, z_bn, z_gf, z_pf]
  refine ⟨_, rfl, fun k hk => ?_, fun k i hb => ?_, fun i hi => ?_, fun i => ?_⟩
  · simp (disch := omega) only [z_upn, z_vn]
    rw [e2 k (by omega), d2 k (by omega), c2 k (by omega) (by omega), b2 k (by omega), a2 k (by omega)]
  · unfold z_bd z_okS at hb
    rcases hb with ⟨rfl, rfl⟩ | ⟨rfl, rfl⟩ | ⟨q1, q2, q3⟩ | ⟨rfl, rfl⟩ | ⟨q1, q2, q3⟩ | ⟨rfl, rfl⟩ | ⟨rfl, q1⟩ | ⟨q1, q2, q3⟩ | ⟨q1, q2, q3⟩ | ⟨rfl, rfl⟩ | ⟨q1, q2, q3⟩ | ⟨rfl, q1⟩ | ⟨q1, q2, q3, q4⟩
    · show (x_up _ 34 8 _) 34 8 = X 1 8
      rw [z_upr, z_us]
      simp (disch := omega) only [z_vn]
      rw [e2 1 (by omega), d2 1 (by omega), c2 1 (by omega) (by omega), b2 1 (by omega), a2 1 (by omega)]
    · show _ = X 2 3
      simp (disch := omega) only [z_upn, z_vn]
      rw [e2 35 (by omega), d2 35 (by omega), c2 35 (by omega) (by omega), b2 35 (by omega), a3.2.2.2]
    · rcases (show k = 3 ∨ k = 4 ∨ k = 5 by omega) with rfl | rfl | rfl
      · show _ = X 3 i
        simp (disch := omega) only [z_upn, z_vn]
        rw [e2 36 (by omega), d2 36 (by omega), c2 36 (by omega) (by omega), b2 36 (by omega), a3.1 i (by omega)]
      · show _ = X 4 i
        simp (disch := omega) only [z_upn, z_vn]
        rw [e2 37 (by omega), d2 37 (by omega), c2 37 (by omega) (by omega), b2 37 (by omega), a3.2.1 i (by omega)]
      · show _ = X 5 i
        simp (disch := omega) only [z_upn, z_vn]
        rw [e2 38 (by omega), d2 38 (by omega), c2 38 (by omega) (by omega), b2 38 (by omega), a3.2.2.1 i (by omega)]
    · show _ = X 6 9
      simp (disch := omega) only [z_upn, z_vn]
      rw [e2 39 (by omega), d2 39 (by omega), c2 39 (by omega) (by omega), b3.2.2.2.2.2.2.2.2.2, a2 6 (by omega)]
    · rcases (show k = 7 ∨ k = 8 ∨ k = 9 ∨ k = 10 ∨ k = 11 ∨ k = 12 ∨ k = 13 ∨ k = 14 by omega) with rfl | rfl | rfl | rfl | rfl | rfl | rfl | rfl
      · show _ = X 7 i
        simp (disch := omega) only [z_upn, z_vn]
        rw [e2 40 (by omega), d2 40 (by omega), c2 40 (by omega) (by omega), b3.1 i (by omega), a2 7 (by omega)]
      · show _ = X 8 i
        simp (disch := omega) only [z_upn, z_vn]
        rw [e2 41 (by omega), d2 41 (by omega), c2 41 (by omega) (by omega), b3.2.1 i (by omega), a2 8 (by omega)]
      · show _ = X 9 i
        simp (disch := omega) only [z_upn, z_vn]
        rw [e2 42 (by omega), d2 42 (by omega), c2 42 (by omega) (by omega), b3.2.2.1 i (by omega), a2 9 (by omega)]
      · show _ = X 10 i
        simp (disch := omega) only [z_upn, z_vn]
        rw [e2 43 (by omega), d2 43 (by omega), c2 43 (by omega) (by omega), b3.2.2.2.1 i (by omega), a2 10 (by omega)]
      · show _ = X 11 i
        simp (disch := omega) only [z_upn, z_vn]
        rw [e2 44 (by omega), d2 44 (by omega), c2 44 (by omega) (by omega), b3.2.2.2.2.1 i (by omega), a2 11 (by omega)]
      · show _ = X 12 i
        simp (disch := omega) only [z_upn, z_vn]
        rw [e2 45 (by omega), d2 45 (by omega), c2 45 (by omega) (by omega), b3.2.2.2.2.2.1 i (by omega), a2 12 (by omega)]
      · show _ = X 13 i
        simp (disch := omega) only [z_upn, z_vn]
        rw [e2 46 (by omega), d2 46 (by omega), c2 46 (by omega) (by omega), b3.2.2.2.2.2.2.1 i (by omega), a2 13 (by omega)]
      · show _ = X 14 i
        simp (disch := omega) only [z_upn, z_vn]
        rw [e2 47 (by omega), d2 47 (by omega), c2 47 (by omega) (by omega), b3.2.2.2.2.2.2.2.1 i (by omega), a2 14 (by omega)]
    · show _ = X 16 2
      simp (disch := omega) only [z_upn, z_vn]
      rw [e2 49 (by omega), d2 49 (by omega), c4, b2 16 (by omega), a2 16 (by omega)]
    · rcases q1 with rfl | rfl
      · show _ = X 18 8
        simp (disch := omega) only [z_upn, z_vn]
        rw [e2 51 (by omega), d3.2.2.2.2.2.2.2.2.1, c2 18 (by omega) (by omega), b2 18 (by omega), a2 18 (by omega)]
      · show _ = X 18 9
        simp (disch := omega) only [z_upn, z_vn]
        rw [e2 51 (by omega), d3.2.2.2.2.2.2.2.2.2, c2 18 (by omega) (by omega), b2 18 (by omega), a2 18 (by omega)]
    · rcases (show k = 19 ∨ k = 20 ∨ k = 21 ∨ k = 22 by omega) with rfl | rfl | rfl | rfl
      · show _ = X 19 i
        simp (disch := omega) only [z_upn, z_vn]
        rw [e2 52 (by omega), d3.1 i (by omega), c2 19 (by omega) (by omega), b2 19 (by omega), a2 19 (by omega)]
      · show _ = X 20 i
        simp (disch := omega) only [z_upn, z_vn]
        rw [e2 53 (by omega), d3.2.1 i (by omega), c2 20 (by omega) (by omega), b2 20 (by omega), a2 20 (by omega)]
      · show _ = X 21 i
        simp (disch := omega) only [z_upn, z_vn]
        rw [e2 54 (by omega), d3.2.2.1 i (by omega), c2 21 (by omega) (by omega), b2 21 (by omega), a2 21 (by omega)]
      · show _ = X 22 i
        simp (disch := omega) only [z_upn, z_vn]
        rw [e2 55 (by omega), d3.2.2.2.1 i (by omega), c2 22 (by omega) (by omega), b2 22 (by omega), a2 22 (by omega)]
    · rcases (show k = 23 ∨ k = 24 ∨ k = 25 ∨ k = 26 by omega) with rfl | rfl | rfl | rfl
      · show _ = X 23 i
        simp (disch := omega) only [z_upn, z_vn]
        rw [e2 56 (by omega), d3.2.2.2.2.1 i (by omega), c2 23 (by omega) (by omega), b2 23 (by omega), a2 23 (by omega)]
      · show _ = X 24 i
        simp (disch := omega) only [z_upn, z_vn]
        rw [e2 57 (by omega), d3.2.2.2.2.2.1 i (by omega), c2 24 (by omega) (by omega), b2 24 (by omega), a2 24 (by omega)]
      · show _ = X 25 i
        simp (disch := omega) only [z_upn, z_vn]
        rw [e2 58 (by omega), d3.2.2.2.2.2.2.1 i (by omega), c2 25 (by omega) (by omega), b2 25 (by omega), a2 25 (by omega)]
      · show _ = X 26 i
        simp (disch := omega) only [z_upn, z_vn]
        rw [e2 59 (by omega), d3.2.2.2.2.2.2.2.1 i (by omega), c2 26 (by omega) (by omega), b2 26 (by omega), a2 26 (by omega)]
    · show _ = X 27 3
      simp (disch := omega) only [z_upn, z_vn]
      rw [e3.2.2.2, d2 27 (by omega), c2 27 (by omega) (by omega), b2 27 (by omega), a2 27 (by omega)]
    · rcases (show k = 28 ∨ k = 29 ∨ k = 30 by omega) with rfl | rfl | rfl
      · show _ = X 28 i
        simp (disch := omega) only [z_upn, z_vn]
        rw [e3.1 i (by omega), d2 28 (by omega), c2 28 (by omega) (by omega), b2 28 (by omega), a2 28 (by omega)]
      · show _ = X 29 i
        simp (disch := omega) only [z_upn, z_vn]
        rw [e3.2.1 i (by omega), d2 29 (by omega), c2 29 (by omega) (by omega), b2 29 (by omega), a2 29 (by omega)]
      · show _ = X 30 i
        simp (disch := omega) only [z_upn, z_vn]
        rw [e3.2.2.1 i (by omega), d2 30 (by omega), c2 30 (by omega) (by omega), b2 30 (by omega), a2 30 (by omega)]
    · show _ = X 31 i
      simp (disch := omega) only [z_upn, z_vn, z_vr, z_cp0]
      rw [e2 31 (by omega), d2 31 (by omega), c2 31 (by omega) (by omega), b2 31 (by omega), a2 31 (by omega)]
    · rcases (show k = 32 ∨ k = 33 by omega) with rfl | rfl
      · show _ = X 32 i
        simp (disch := omega) only [z_upn, z_vn, z_vr, z_cp0]
        rw [e2 32 (by omega), d2 32 (by omega), c2 32 (by omega) (by omega), b2 32 (by omega), a2 32 (by omega)]
      · show _ = X 33 i
        simp (disch := omega) only [z_upn, z_vn, z_vr, z_cp0]
        rw [e2 33 (by omega), d2 33 (by omega), c2 33 (by omega) (by omega), b2 33 (by omega), a2 33 (by omega)]
  · show _ = X 15 i
    simp (disch := omega) only [z_upn, z_vn]
    rw [e2 48 (by omega), d2 48 (by omega), c2 48 (by omega) (by omega), b3.2.2.2.2.2.2.2.2.1 i (by omega), a2 15 (by omega)]
  · simp (disch := omega) only [z_upn, z_vn]
    rw [e2 50 (by omega), d2 50 (by omega), c3 i]
    by_cases h : i < 4
    · rw [if_pos (by omega), if_pos h, b2 17 (by omega), a2 17 (by omega)]
    · rw [if_neg (by omega), if_neg h, b2 50 (by omega), a2 50 (by omega)]
theorem z_bm_a (X : x_M) : ∃ X', f_X4_become_2_35 X = some ((), X') ∧ (∀ k, k < 2 ∨ 5 < k → X' k = X k) ∧ (∀ i, i < 10 → X' 3 i = X 36 i) ∧ (∀ i, i < 10 → X' 4 i = X 37 i) ∧ (∀ i, i < 10 → X' 5 i = X 38 i) ∧ X' 2 3 = X 35 3 := by
  unfold f_X4_become_2_35 f_X0_overwrite_3_36 f_X0_overwrite_4_37 f_X0_overwrite_5_38
  simp (disch := omega) only [z_ow, z_bn, z_gf, z_pf]
  refine ⟨_, rfl, fun k hk => ?_, fun i hi => ?_, fun i hi => ?_, fun i hi => ?_, ?_⟩
  · simp (disch := omega) only [z_upn, z_vn]
  · simp (disch := omega) only [z_upn, z_vn, z_vr, z_cp0]
  · simp (disch := omega) only [z_upn, z_vn, z_vr, z_cp0]
  · simp (disch := omega) only [z_upn, z_vn, z_vr, z_cp0]
  · simp (disch := omega) only [z_upn, z_vn, z_upr, z_us, z_un]
theorem z_bl_a (X : x_M) : ∃ X', f_X3_become_6_39 X = some ((), X') ∧ (∀ k, k < 6 ∨ 15 < k → X' k = X k) ∧ (∀ i, i < 100 → X' 7 i = X 40 i) ∧ (∀ i, i < 100 → X' 8 i = X 41 i) ∧ (∀ i, i < 100 → X' 9 i = X 42 i) ∧ (∀ i, i < 100 → X' 10 i = X 43 i) ∧ (∀ i, i < 100 → X' 11 i = X 44 i) ∧ (∀ i, i < 100 → X' 12 i = X 45 i) ∧ (∀ i, i < 100 → X' 13 i = X 46 i) ∧ (∀ i, i < 100 → X' 14 i = X 47 i) ∧ (∀ i, i < 100 → X' 15 i = X 48 i) ∧ X' 6 9 = X 39 9 := by
  unfold f_X3_become_6_39 f_X0_overwrite_7_40 f_X0_overwrite_8_41 f_X0_overwrite_9_42 f_X0_overwrite_10_43 f_X0_overwrite_11_44 f_X0_overwrite_12_45 f_X0_overwrite_13_46 f_X0_overwrite_14_47 f_X0_overwrite_15_48
  simp (disch := omega) only [z_ow, z_bn, z_gf, z_pf]
  refine ⟨_, rfl, fun k hk => ?_, fun i hi => ?_, fun i hi => ?_, fun i hi => ?_, fun i hi => ?_, fun i hi => ?_, fun i hi => ?_, fun i hi => ?_, fun i hi => ?_, fun i hi => ?_, ?_⟩
  · simp (disch := omega) only [z_upn, z_vn]
  · simp (disch := omega) only [z_upn, z_vn, z_vr, z_cp0]
  · simp (disch := omega) only [z_upn, z_vn, z_vr, z_cp0]
  · simp (disch := omega) only [z_upn, z_vn, z_vr, z_cp0]
  · simp (disch := omega) only [z_upn, z_vn, z_vr, z_cp0]
  · simp (disch := omega) only [z_upn, z_vn, z_vr, z_cp0]
  · simp (disch := omega) only [z_upn, z_vn, z_vr, z_cp0]
  · simp (disch := omega) only [z_upn, z_vn, z_vr, z_cp0]
  · simp (disch := omega) only [z_upn, z_vn, z_vr, z_cp0]
  · simp (disch := omega) only [z_upn, z_vn, z_vr, z_cp0]
  · simp (disch := omega) only [z_upn, z_vn, z_upr, z_us, z_un]
theorem z_bs_a (X : x_M) : ∃ X', f_X6_become_18_51 X = some ((), X') ∧ (∀ k, k < 18 ∨ 26 < k → X' k = X k) ∧ (∀ i, i < 8 → X' 19 i = X 52 i) ∧ (∀ i, i < 8 → X' 20 i = X 53 i) ∧ (∀ i, i < 8 → X' 21 i = X 54 i) ∧ (∀ i, i < 8 → X' 22 i = X 55 i) ∧ (∀ i, i < 30 → X' 23 i = X 56 i) ∧ (∀ i, i < 30 → X' 24 i = X 57 i) ∧ (∀ i, i < 30 → X' 25 i = X 58 i) ∧ (∀ i, i < 30 → X' 26 i = X 59 i) ∧ X' 18 8 = X 51 8 ∧ X' 18 9 = X 51 9 := by
  unfold f_X6_become_18_51 f_X0_overwrite_19_52 f_X0_overwrite_20_53 f_X0_overwrite_21_54 f_X0_overwrite_22_55 f_X0_overwrite_23_56 f_X0_overwrite_24_57 f_X0_overwrite_25_58 f_X0_overwrite_26_59
  simp (disch := omega) only [z_ow, z_bn, z_gf, z_pf]
  refine ⟨_, rfl, fun k hk => ?_, fun i hi => ?_, fun i hi => ?_, fun i hi => ?_, fun i hi => ?_, fun i hi => ?_, fun i hi => ?_, fun i hi => ?_, fun i hi => ?_, ?_, ?_⟩
  · simp (disch := omega) only [z_upn, z_vn]
  · simp (disch := omega) only [z_upn, z_vn, z_vr, z_cp0]
  · simp (disch := omega) only [z_upn, z_vn, z_vr, z_cp0]
  · simp (disch := omega) only [z_upn, z_vn, z_vr, z_cp0]
  · simp (disch := omega) only [z_upn, z_vn, z_vr, z_cp0]
  · simp (disch := omega) only [z_upn, z_vn, z_vr, z_cp0]
  · simp (disch := omega) only [z_upn, z_vn, z_vr, z_cp0]
  · simp (disch := omega) only [z_upn, z_vn, z_vr, z_cp0]
  · simp (disch := omega) only [z_upn, z_vn, z_vr, z_cp0]
  · simp (disch := omega) only [z_upn, z_vn, z_upr, z_us, z_un]
  · simp (disch := omega) only [z_upn, z_vn, z_upr, z_us, z_un]
theorem z_bo_a (X : x_M) : ∃ X', f_X5_become_27_60 X = some ((), X') ∧ (∀ k, k < 27 ∨ 30 < k → X' k = X k) ∧ (∀ i, i < 8 → X' 28 i = X 61 i) ∧ (∀ i, i < 8 → X' 29 i = X 62 i) ∧ (∀ i, i < 8 → X' 30 i = X 63 i) ∧ X' 27 3 = X 60 3 := by
  unfold f_X5_become_27_60 f_X0_overwrite_28_61 f_X0_overwrite_29_62 f_X0_overwrite_30_63
  simp (disch := omega) only [z_ow, z_bn, z_gf, z_pf]
  refine ⟨_, rfl, fun k hk => ?_, fun i hi => ?_, fun i hi => ?_, fun i hi => ?_, ?_⟩
  · simp (disch := omega) only [z_upn, z_vn]
  · simp (disch := omega) only [z_upn, z_vn, z_vr, z_cp0]
  · simp (disch := omega) only [z_upn, z_vn, z_vr, z_cp0]
  · simp (disch := omega) only [z_upn, z_vn, z_vr, z_cp0]
  · simp (disch := omega) only [z_upn, z_vn, z_upr, z_us, z_un]
theorem z_bt_a {NC : Nat} (hN : NC ≤ 100000) : ∀ (d j n : Nat) (X : x_M), 4 = j + d → d < n → (∀ i, X 50 i = 0 ∨ ∃ r, X 50 i = nI r ∧ z_tk NC r) → ∃ X', f_X9_become_16_49_2 NC n X (nI j) = some ((), X') ∧ (∀ k, k ≠ 16 → k ≠ 17 → X' k = X k) ∧ (∀ i, X' 17 i = if j ≤ i ∧ i < 4 then X 50 i else X 17 i) ∧ X' 16 2 = X 49 2 := by
  intro d
  induction d with
  | zero =>
    intro j n X hj hn hv
    obtain ⟨n, rfl⟩ : ∃ a, n = a + 1 := ⟨n - 1, by omega⟩
    rw [f_X9_become_16_49_2_s]
    simp (disch := omega) only [z_le]
    rw [if_pos (by omega)]
    simp only [z_gf, z_pf]
    exact ⟨_, rfl, fun k q1 q2 => z_upn q1, fun i => by rw [if_neg (by omega), z_upn (by omega)], by rw [z_upr, z_us]⟩
  | succ d ih =>
    intro j n X hj hn hv
    obtain ⟨n, rfl⟩ : ∃ a, n = a + 1 := ⟨n - 1, by omega⟩
    have step : ∃ X', f_X9_become_16_49_2 NC n (x_up X 17 j (X 50 j)) (nI (j + 1)) = some ((), X') ∧ (∀ k, k ≠ 16 → k ≠ 17 → X' k = X k) ∧ (∀ i, X' 17 i = if j ≤ i ∧ i < 4 then X 50 i else X 17 i) ∧ X' 16 2 = X 49 2 := by
      obtain ⟨X', e1, e2, e3, e4⟩ := ih (j + 1) n (x_up X 17 j (X 50 j)) (by omega) (by omega) (by rw [z_upn (by omega)]; exact hv)
      refine ⟨X', e1, fun k q1 q2 => by rw [e2 k q1 q2, z_upn q2], fun i => ?_, by rw [e4, z_upn (by omega)]⟩
      rw [e3 i, z_upn (by omega), z_upr]
      by_cases h : i = j
      · subst h
        rw [if_neg (by omega), if_pos (by omega), z_us]
      · by_cases h2 : j + 1 ≤ i ∧ i < 4
        · rw [if_pos h2, if_pos (by omega)]
        · rw [if_neg h2, if_neg (by omega), z_un h]
    rw [f_X9_become_16_49_2_s]
    simp (disch := omega) only [z_le, z_rd, z_add, z_wr]
    rw [if_neg (by omega)]
    rcases hv j with h | ⟨r, h, hr⟩
    · rw [if_pos h, ← h]
      exact step
    · have hr2 := hr
      unfold z_tk at hr2
      rw [if_neg (by rw [h]; exact nI_ne0 (by omega) (by omega))]
      rw [h] at step ⊢
      rw [z_xtk hr hN]
      exact step
theorem z_bc_a {NC : Nat} (hN : NC ≤ 100000) (X : x_M) (hv : ∀ i, X 50 i = 0 ∨ ∃ r, X 50 i = nI r ∧ z_tk NC r) : ∃ X', f_X0_become_1_34 NC X = some ((), X') ∧ (∀ k, k = 0 ∨ 33 < k → X' k = X k) ∧ (∀ k i, z_bd k i → X' (k + 0) i = X (k + 33) i) ∧ (∀ i, i < 100 → X' 15 i = X 48 i) ∧ ∀ i, X' 17 i = if i < 4 then X 50 i else X 17 i := by
  obtain ⟨X1, a1, a2, a3⟩ := z_bm_a X
  obtain ⟨X2, b1, b2, b3⟩ := z_bl_a X1
  obtain ⟨X3, c1, c2, c3, c4⟩ := z_bt_a hN 4 0 x_FU X2 (by omega) (by unfold x_FU; omega) (by rw [b2 50 (by omega), a2 50 (by omega)]; exact hv)
  obtain ⟨X4, d1, d2, d3⟩ := z_bs_a X3
  obtain ⟨X5, e1, e2, e3⟩ := z_bo_a X4
  unfold f_X0_become_1_34 f_X9_become_16_49 f_X0_overwrite_31_64 f_X0_overwrite_32_65 f_X0_overwrite_33_66
  rw [a1, z_bn, b1, z_bn, c1, z_bn, d1, z_bn, e1, z_bn]
  simp (disch := omega) only [z_ow, z_bn, z_gf, z_pf]
  refine ⟨_, rfl, fun k hk => ?_, fun k i hb => ?_, fun i hi => ?_, fun i => ?_⟩
  · simp (disch := omega) only [z_upn, z_vn]
    rw [e2 k (by omega), d2 k (by omega), c2 k (by omega) (by omega), b2 k (by omega), a2 k (by omega)]
  · unfold z_bd z_okS at hb
    rcases hb with ⟨rfl, rfl⟩ | ⟨rfl, rfl⟩ | ⟨q1, q2, q3⟩ | ⟨rfl, rfl⟩ | ⟨q1, q2, q3⟩ | ⟨rfl, rfl⟩ | ⟨rfl, q1⟩ | ⟨q1, q2, q3⟩ | ⟨q1, q2, q3⟩ | ⟨rfl, rfl⟩ | ⟨q1, q2, q3⟩ | ⟨rfl, q1⟩ | ⟨q1, q2, q3, q4⟩
    · show (x_up _ 1 8 _) 1 8 = X 34 8
      rw [z_upr, z_us]
      simp (disch := omega) only [z_vn]
      rw [e2 34 (by omega), d2 34 (by omega), c2 34 (by omega) (by omega), b2 34 (by omega), a2 34 (by omega)]
    · show _ = X 35 3
      simp (disch := omega) only [z_upn, z_vn]
      rw [e2 2 (by omega), d2 2 (by omega), c2 2 (by omega) (by omega), b2 2 (by omega), a3.2.2.2]
    · rcases (show k = 3 ∨ k = 4 ∨ k = 5 by omega) with rfl | rfl | rfl
      · show _ = X 36 i
        simp (disch := omega) only [z_upn, z_vn]
        rw [e2 3 (by omega), d2 3 (by omega), c2 3 (by omega) (by omega), b2 3 (by omega), a3.1 i (by omega)]
      · show _ = X 37 i
        simp (disch := omega) only [z_upn, z_vn]
        rw [e2 4 (by omega), d2 4 (by omega), c2 4 (by omega) (by omega), b2 4 (by omega), a3.2.1 i (by omega)]
      · show _ = X 38 i
        simp (disch := omega) only [z_upn, z_vn]
        rw [e2 5 (by omega), d2 5 (by omega), c2 5 (by omega) (by omega), b2 5 (by omega), a3.2.2.1 i (by omega)]
    · show _ = X 39 9
      simp (disch := omega) only [z_upn, z_vn]
      rw [e2 6 (by omega), d2 6 (by omega), c2 6 (by omega) (by omega), b3.2.2.2.2.2.2.2.2.2, a2 39 (by omega)]
    · rcases (show k = 7 ∨ k = 8 ∨ k = 9 ∨ k = 10 ∨ k = 11 ∨ k = 12 ∨ k = 13 ∨ k = 14 by omega) with rfl | rfl | rfl | rfl | rfl | rfl | rfl | rfl
      · show _ = X 40 i
        simp (disch := omega) only [z_upn, z_vn]
        rw [e2 7 (by omega), d2 7 (by omega), c2 7 (by omega) (by omega), b3.1 i (by omega), a2 40 (by omega)]
      · show _ = X 41 i
        simp (disch := omega) only [z_upn, z_vn]
        rw [e2 8 (by omega), d2 8 (by omega), c2 8 (by omega) (by omega), b3.2.1 i (by omega), a2 41 (by omega)]
      · show _ = X 42 i
        simp (disch := omega) only [z_upn, z_vn]
        rw [e2 9 (by omega), d2 9 (by omega), c2 9 (by omega) (by omega), b3.2.2.1 i (by omega), a2 42 (by omega)]
      · show _ = X 43 i
        simp (disch := omega) only [z_upn, z_vn]
        rw [e2 10 (by omega), d2 10 (by omega), c2 10 (by omega) (by omega), b3.2.2.2.1 i (by omega), a2 43 (by omega)]
      · show _ = X 44 i
        simp (disch := omega) only [z_upn, z_vn]
        rw [e2 11 (by omega), d2 11 (by omega), c2 11 (by omega) (by omega), b3.2.2.2.2.1 i (by omega), a2 44 (by omega)]
      · show _ = X 45 i
        simp (disch := omega) only [z_upn, z_vn]
        rw [e2 12 (by omega), d2 12 (by omega), c2 12 (by omega) (by omega), b3.2.2.2.2.2.1 i (by omega), a2 45 (by omega)]
      · show _ = X 46 i
        simp (disch := omega) only [z_upn, z_vn]
        rw [e2 13 (by omega), d2 13 (by omega), c2 13 (by omega) (by omega), b3.2.2.2.2.2.2.1 i (by omega), a2 46 (by omega)]
      · show _ = X 47 i
        simp (disch := omega) only [z_upn, z_vn]
        rw [e2 14 (by omega), d2 14 (by omega), c2 14 (by omega) (by omega), b3.2.2.2.2.2.2.2.1 i (by omega), a2 47 (by omega)]
    · show _ = X 49 2
      simp (disch := omega) only [z_upn, z_vn]
      rw [e2 16 (by omega), d2 16 (by omega), c4, b2 49 (by omega), a2 49 (by omega)]
    · rcases q1 with rfl | rfl
      · show _ = X 51 8
        simp (disch := omega) only [z_upn, z_vn]
        rw [e2 18 (by omega), d3.2.2.2.2.2.2.2.2.1, c2 51 (by omega) (by omega), b2 51 (by omega), a2 51 (by omega)]
      · show _ = X 51 9
        simp (disch := omega) only [z_upn, z_vn]
        rw [e2 18 (by omega), d3.2.2.2.2.2.2.2.2.2, c2 51 (by omega) (by omega), b2 51 (by omega), a2 51 (by omega)]
    · rcases (show k = 19 ∨ k = 20 ∨ k = 21 ∨ k = 22 by omega) with rfl | rfl | rfl | rfl
      · show _ = X 52 i
        simp (disch := omega) only [z_upn, z_vn]
        rw [e2 19 (by omega), d3.1 i (by omega), c2 52 (by omega) (by omega), b2 52 (by omega), a2 52 (by omega)]
      · show _ = X 53 i
        simp (disch := omega) only [z_upn, z_vn]
        rw [e2 20 (by omega), d3.2.1 i (by omega), c2 53 (by omega) (by omega), b2 53 (by omega), a2 53 (by omega)]
      · show _ = X 54 i
        simp (disch := omega) only [z_upn, z_vn]
        rw [e2 21 (by omega), d3.2.2.1 i (by omega), c2 54 (by omega) (by omega), b2 54 (by omega), a2 54 (by omega)]
      · show _ = X 55 i
        simp (disch := omega) only [z_upn, z_vn]
        rw [e2 22 (by omega), d3.2.2.2.1 i (by omega), c2 55 (by omega) (by omega), b2 55 (by omega), a2 55 (by omega)]
    · rcases (show k = 23 ∨ k = 24 ∨ k = 25 ∨ k = 26 by omega) with rfl | rfl | rfl | rfl
      · show _ = X 56 i
        simp (disch := omega) only [z_upn, z_vn]
        rw [e2 23 (by omega), d3.2.2.2.2.1 i (by omega), c2 56 (by omega) (by omega), b2 56 (by omega), a2 56 (by omega)]
      · show _ = X 57 i
        simp (disch := omega) only [z_upn, z_vn]
        rw [e2 24 (by omega), d3.2.2.2.2.2.1 i (by omega), c2 57 (by omega) (by omega), b2 57 (by omega), a2 57 (by omega)]
      · show _ = X 58 i
        simp (disch := omega) only [z_upn, z_vn]
        rw [e2 25 (by omega), d3.2.2.2.2.2.2.1 i (by omega), c2 58 (by omega) (by omega), b2 58 (by omega), a2 58 (by omega)]
      · show _ = X 59 i
        simp (disch := omega) only [z_upn, z_vn]
        rw [e2 26 (by omega), d3.2.2.2.2.2.2.2.1 i (by omega), c2 59 (by omega) (by omega), b2 59 (by omega), a2 59 (by omega)]
    · show _ = X 60 3
      simp (disch := omega) only [z_upn, z_vn]
      rw [e3.2.2.2, d2 60 (by omega), c2 60 (by omega) (by omega), b2 60 (by omega), a2 60 (by omega)]
    · rcases (show k = 28 ∨ k = 29 ∨ k = 30 by omega) with rfl | rfl | rfl
      · show _ = X 61 i
        simp (disch := omega) only [z_upn, z_vn]
        rw [e3.1 i (by omega), d2 61 (by omega), c2 61 (by omega) (by omega), b2 61 (by omega), a2 61 (by omega)]
      · show _ = X 62 i
        simp (disch := omega) only [z_upn, z_vn]
        rw [e3.2.1 i (by omega), d2 62 (by omega), c2 62 (by omega) (by omega), b2 62 (by omega), a2 62 (by omega)]
      · show _ = X 63 i
        simp (disch := omega) only [z_upn, z_vn]
        rw [e3.2.2.1 i (by omega), d2 63 (by omega), c2 63 (by omega) (by omega), b2 63 (by omega), a2 63 (by omega)]
    · show _ = X 64 i
      simp (disch := omega) only [z_upn, z_vn, z_vr, z_cp0]
      rw [e2 64 (by omega), d2 64 (by omega), c2 64 (by omega) (by omega), b2 64 (by omega), a2 64 (by omega)]
    · rcases (show k = 32 ∨ k = 33 by omega) with rfl | rfl
      · show _ = X 65 i
        simp (disch := omega) only [z_upn, z_vn, z_vr, z_cp0]
        rw [e2 65 (by omega), d2 65 (by omega), c2 65 (by omega) (by omega), b2 65 (by omega), a2 65 (by omega)]
      · show _ = X 66 i
        simp (disch := omega) only [z_upn, z_vn, z_vr, z_cp0]
        rw [e2 66 (by omega), d2 66 (by omega), c2 66 (by omega) (by omega), b2 66 (by omega), a2 66 (by omega)]
  · show _ = X 48 i
    simp (disch := omega) only [z_upn, z_vn]
    rw [e2 15 (by omega), d2 15 (by omega), c2 15 (by omega) (by omega), b3.2.2.2.2.2.2.2.2.1 i (by omega), a2 48 (by omega)]
  · simp (disch := omega) only [z_upn, z_vn]
    rw [e2 17 (by omega), d2 17 (by omega), c3 i]
    by_cases h : i < 4
    · rw [if_pos (by omega), if_pos h, b2 50 (by omega), a2 50 (by omega)]
    · rw [if_neg (by omega), if_neg h, b2 17 (by omega), a2 17 (by omega)]
theorem z_cl_tr {NC o o' : Nat} {X X' : x_M} {s s' : Nat → Int32} {G : z_G} {Cd : Nat → Nat → List Int32} (h : z_cl NC X o s G Cd) (h1 : ∀ k i, z_bd k i → X' (k + o') i = X (k + o) i) (h2 : ∀ i, i < 100 → X' (15 + o') i = X (15 + o) i) (h3 : ∀ i, i < 4 → X' (17 + o') i = X (17 + o) i) (h3' : ∀ i, X' (17 + o') i = 0 ∨ ∃ r, X' (17 + o') i = nI r ∧ z_tk NC r) (h4 : ∀ k, 88 ≤ k → X' k = X k) (h5 : ∀ p, p < 5512 → s' p = s p) : z_cl NC X' o' s' G Cd := by
  obtain ⟨g1, g2, g3, g4, g5⟩ := h
  have hS := g2.1
  unfold z_IS at hS
  have hlen := z_ter_len g5
  refine ⟨fun k i hk => ?_, g2, fun i hi => ?_, fun i hi => ?_, h3', fun i hi => ?_⟩
  · obtain ⟨q1, q2, q3⟩ := g1 k i hk
    exact ⟨q1, by rw [h1 k i q1]; exact q2, by rw [h5 _ (z_pos_lt q1).1]; exact q3⟩
  · rw [h2 i (by omega)]
    exact g3 i hi
  · rw [h5 _ (by omega)]
    exact g4 i hi
  · obtain ⟨q1, q2, q3, q4, r, q5, q6, q7, q8⟩ := g5.2 i hi
    have q6' := q6
    unfold z_tk at q6'
    refine ⟨q1, by rw [h5 _ (by omega)]; exact q2, fun w hw => ?_, q4, r, by rw [h3 i (by omega)]; exact q5, q6, by rw [h4 _ (by omega)]; exact q7, z_code_fr q8 (h4 _ (by omega)) (h4 _ (by omega))⟩
    obtain ⟨p1, p2⟩ := q3 w hw
    have hl := hlen i hi w hw
    refine ⟨by rw [h5 _ (by omega)]; exact p1, fun j hj => ?_⟩
    rw [h5 _ (by omega), h5 _ (by omega)]
    exact p2 j hj
theorem z_kpM : ∀ (d j n : Nat) (M : x_M), 5512 = j + d → d < n → ∃ M', f_X12_keep_2 n M (nI j) = some (M 1 0, M') ∧ (∀ q, q ≠ 0 → q ≠ 2 → M' q = M q) ∧ (∀ i, i ≠ 2 → M' 0 i = M 0 i) ∧ M' 0 2 = nI 1 ∧ ∀ i, M' 2 i = if j ≤ i ∧ i < 5512 then M 1 i else M 2 i := by
  intro d
  induction d with
  | zero =>
    intro j n M hj hn
    obtain ⟨n, rfl⟩ : ∃ a, n = a + 1 := ⟨n - 1, by omega⟩
    rw [f_X12_keep_2_s]
    simp (disch := omega) only [z_le]
    rw [if_pos (by omega)]
    simp (disch := omega) only [z_cz1, z_pf, z_rd, z_upn]
    exact ⟨_, rfl, fun q q1 q2 => z_upn q1, fun i hi => by rw [z_upr, z_un hi], by rw [z_upr, z_us], fun i => by rw [if_neg (by omega), z_upn (by omega)]⟩
  | succ d ih =>
    intro j n M hj hn
    obtain ⟨n, rfl⟩ : ∃ a, n = a + 1 := ⟨n - 1, by omega⟩
    rw [f_X12_keep_2_s]
    simp (disch := omega) only [z_le, z_rd, z_wr, z_add]
    rw [if_neg (by omega)]
    obtain ⟨M', e1, e2, e3, e4, e5⟩ := ih (j + 1) n (x_up M 2 j (M 1 j)) (by omega) (by omega)
    refine ⟨M', by rw [e1, z_upn (by omega)], fun q q1 q2 => by rw [e2 q q1 q2, z_upn q2], fun i hi => by rw [e3 i hi, z_upn (by omega)], e4, fun i => ?_⟩
    rw [e5 i, z_upn (by omega), z_upr]
    by_cases h : i = j
    · subst h
      rw [if_neg (by omega), if_pos (by omega), z_us]
    · by_cases h2 : j + 1 ≤ i ∧ i < 5512
      · rw [if_pos h2, if_pos (by omega)]
      · rw [if_neg h2, if_neg (by omega), z_un h]
theorem z_agM : ∀ (d j n : Nat) (M : x_M), 5512 = j + d → d < n → ∃ M', f_X12_again_12 n M (nI j) = some (M' 1 0, M') ∧ (∀ q, q ≠ 1 → M' q = M q) ∧ ∀ i, M' 1 i = if j ≤ i ∧ i < 5512 then M 2 i else M 1 i := by
  intro d
  induction d with
  | zero =>
    intro j n M hj hn
    obtain ⟨n, rfl⟩ : ∃ a, n = a + 1 := ⟨n - 1, by omega⟩
    rw [f_X12_again_12_s]
    simp (disch := omega) only [z_le]
    rw [if_pos (by omega)]
    simp (disch := omega) only [z_rd]
    exact ⟨M, rfl, fun q q1 => rfl, fun i => by rw [if_neg (by omega)]⟩
  | succ d ih =>
    intro j n M hj hn
    obtain ⟨n, rfl⟩ : ∃ a, n = a + 1 := ⟨n - 1, by omega⟩
    rw [f_X12_again_12_s]
    simp (disch := omega) only [z_le, z_rd, z_wr, z_add]
    rw [if_neg (by omega)]
    obtain ⟨M', e1, e2, e5⟩ := ih (j + 1) n (x_up M 1 j (M 2 j)) (by omega) (by omega)
    refine ⟨M', e1, fun q q1 => by rw [e2 q q1, z_upn q1], fun i => ?_⟩
    rw [e5 i, z_upn (by omega), z_upr]
    by_cases h : i = j
    · subst h
      rw [if_neg (by omega), if_pos (by omega), z_us]
    · by_cases h2 : j + 1 ≤ i ∧ i < 5512
      · rw [if_pos h2, if_pos (by omega)]
      · rw [if_neg h2, if_neg (by omega), z_un h]
theorem e_keep {NC : Nat} {X M : x_M} {G H : z_G} {Cd Ch : Nat → Nat → List Int32} (R : z_R NC X M G H Cd Ch) : z_E NC (f_X11_keep NC X) (f_X12_keep M) := by
  obtain ⟨hcl, hrs, hwy⟩ := id R
  obtain ⟨hc, hi, ho, hf, ht⟩ := id hcl
  have hS := hi.1
  unfold z_IS at hS
  obtain ⟨hk, hsh, hwt, htp, hpl⟩ := id hrs
  obtain ⟨X', x1, x2, x3, x4, x5⟩ := z_bc_k hpl.2.1 X ht.1
  obtain ⟨M', m1, m2, m3, m4, m5⟩ := z_kpM 5512 0 x_FU M (by omega) (by unfold x_FU; omega)
  unfold f_X11_keep f_X12_keep
  rw [x1, z_bn, m1]
  simp only [z_cz1, z_pf, z_gf]
  have hT := z_g1 hc
  have yX : ∀ k, (1 ≤ k ∧ k ≤ 33) ∨ 66 < k → (x_up X' 0 10 (nI 1)) k = X k := fun k hk => by rw [z_upn (by omega), x2 k (by omega)]
  have h17 : ∀ i, (x_up X' 0 10 (nI 1)) 50 i = 0 ∨ ∃ r, (x_up X' 0 10 (nI 1)) 50 i = nI r ∧ z_tk NC r := by
    intro i
    rw [z_upn (by omega), x5 i]
    by_cases h : i < 4
    · rw [if_pos h]
      exact ht.1 i
    · rw [if_neg h]
      exact hpl.2.2.2.2.2 i
  refine ⟨_, _, M', G, G, Cd, Cd, rfl, ?_, ?_, ⟨⟨?_, Or.inr ⟨m4, ?_⟩⟩, ?_, ?_, ?_, ?_⟩, ?_⟩
  · rw [z_upn (by omega), x2 1 (by omega), hT.1, hT.2]
  · refine z_cl_fr hcl (fun k hk => yX k (by omega)) (fun p hp => ?_)
    rw [m2 1 (by omega) (by omega)]
  · rw [z_upr, z_us, m4]
  · refine z_cl_tr (o := 0) hcl (fun k i hb => ?_) (fun i hi' => ?_) (fun i hi' => ?_) h17 (fun k hk => yX k (by omega)) (fun p hp => ?_)
    · rw [z_upn (by omega)]
      exact x3 k i hb
    · rw [z_upn (by omega)]
      exact x4 i hi'
    · rw [z_upn (by omega)]
      show X' 50 i = X 17 i
      rw [x5 i, if_pos hi']
    · rw [m5 p, if_pos (by omega)]
  · exact z_sh_fr hsh (yX 86 (by omega)) (yX 87 (by omega)) (m2 21 (by omega) (by omega)) (m2 22 (by omega) (by omega))
  · exact z_wt_fr hwt (by rw [z_upr, z_un (by omega), x2 0 (by omega)]) (yX 84 (by omega)) (m3 35 (by omega)) (m2 20 (by omega) (by omega))
  · exact z_tp_fr htp (by rw [yX 80 (by omega)]) (yX 81 (by omega)) (m3 4 (by omega)) (m2 3 (by omega) (by omega))
  · obtain ⟨g1, g2, g3, g4, g5, g6⟩ := hpl
    exact ⟨g1, g2, g3, by rw [yX 88 (by omega)]; exact g4, z_code_fr g5 (yX 89 (by omega)) (yX 90 (by omega)), h17⟩
  · exact z_wy_fr hwy (yX 78 (by omega)) (yX 79 (by omega)) rfl (fun _ => ⟨rfl, rfl, rfl⟩)
theorem e_again {NC : Nat} {X M : x_M} {G H : z_G} {Cd Ch : Nat → Nat → List Int32} (R : z_R NC X M G H Cd Ch) : z_E NC (f_X11_again NC X) (f_X12_again M) := by
  obtain ⟨hcl, hrs, hwy⟩ := id R
  obtain ⟨hc, hi, ho, hf, ht⟩ := id hcl
  have hS := hi.1
  unfold z_IS at hS
  obtain ⟨⟨k1, k2⟩, hsh, hwt, htp, hpl⟩ := id hrs
  unfold f_X11_again f_X12_again
  simp only [z_gf, k1]
  rcases k2 with k2 | ⟨k2, k3⟩
  · rw [k2, if_pos z_n00, if_pos z_n00]
    exact z_same R
  · rw [k2, if_neg z_n10, if_neg z_n10]
    obtain ⟨X', x1, x2, x3, x4, x5⟩ := z_bc_a hpl.2.1 X hpl.2.2.2.2.2
    obtain ⟨M', m1, m2, m5⟩ := z_agM 5512 0 x_FU M (by omega) (by unfold x_FU; omega)
    rw [x1, z_bn, m1]
    unfold f_X10_forget
    simp only [z_pf, z_bn, z_gf]
    have yX : ∀ k, k = 0 ∨ (33 < k ∧ k ≠ 78) → (x_up X' 78 1 (-1)) k = X k := fun k hk => by rw [z_upn (by omega), x2 k (by omega)]
    have hT := (k3.1 1 8 (by unfold z_ok z_okS; exact Or.inl ⟨rfl, rfl⟩)).2
    refine ⟨_, _, M', H, H, Ch, Ch, rfl, ?_, ?_, ⟨⟨?_, Or.inr ⟨by rw [m2 0 (by omega)]; exact k2, ?_⟩⟩, ?_, ?_, ?_, ?_⟩, Or.inl (by rw [z_upr, z_us])⟩
    · rw [z_upn (by omega), show X' 1 8 = X 34 8 from x3 1 8 (Or.inl ⟨rfl, rfl⟩), m5 0, if_pos (by omega)]
      have h1 : X 34 8 = nI (H 1 8) := hT.1
      have h2 : M 2 0 = nI (H 1 8) := hT.2
      rw [h1, h2]
    · refine z_cl_tr (o := 33) k3 (fun k i hb => ?_) (fun i hi' => ?_) (fun i hi' => ?_) (fun i => ?_) (fun k hk => yX k (by omega)) (fun p hp => ?_)
      · have hb2 := hb
        unfold z_bd z_okS at hb2
        rw [z_upn (by omega)]
        exact x3 k i hb
      · rw [z_upn (by omega)]
        exact x4 i hi'
      · rw [z_upn (by omega)]
        show X' 17 i = X 50 i
        rw [x5 i, if_pos hi']
      · rw [z_upn (by omega)]
        show X' 17 i = 0 ∨ _
        rw [show X' (17 + 0) i = X' 17 i from rfl, x5 i]
        by_cases h : i < 4
        · rw [if_pos h]
          exact hpl.2.2.2.2.2 i
        · rw [if_neg h]
          exact ht.1 i
      · rw [m5 p, if_pos (by omega)]
    · rw [yX 0 (by omega), m2 0 (by omega)]
      exact k1
    · refine z_cl_fr k3 (fun k hk => yX k (by omega)) (fun p hp => ?_)
      rw [m2 2 (by omega)]
    · exact z_sh_fr hsh (yX 86 (by omega)) (yX 87 (by omega)) (m2 21 (by omega)) (m2 22 (by omega))
    · exact z_wt_fr hwt (by rw [yX 0 (by omega)]) (yX 84 (by omega)) (by rw [m2 0 (by omega)]) (m2 20 (by omega))
    · exact z_tp_fr htp (by rw [yX 80 (by omega)]) (yX 81 (by omega)) (by rw [m2 0 (by omega)]) (m2 3 (by omega))
    · exact z_pl_fr hpl (fun k hk => yX k (by omega))
