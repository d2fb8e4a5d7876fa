/-! ===== ring ===== -/
def z_cn (s : Nat) : Nat → Nat → Nat
  | 0, _ => 0
  | d + 1, o => s / 2 ^ o % 2 + z_cn s d (o + 1)
theorem z_cn_le {s : Nat} : ∀ d o, z_cn s d o ≤ d
  | 0, _ => Nat.le_refl _
  | d + 1, o => by
    have h1 := z_cn_le (s := s) d (o + 1)
    have h2 : s / 2 ^ o % 2 < 2 := Nat.mod_lt _ (by omega)
    rw [z_cn]
    omega
theorem z_bc0 : ∀ s, s < 1024 → (f_J6_bitCount_0f7a4 (fun _ _ => 0) (nI s)).map (fun x => x.1) = some (nI (z_cn s 10 0)) := by decide +kernel
theorem z_bcn {M : x_M} {s : Nat} (hs : s < 1024) : f_J6_bitCount_0f7a4 M (nI s) = some (nI (z_cn s 10 0), M) := by
  have h := z_bc0 s hs
  unfold f_J6_bitCount_0f7a4 at h ⊢
  simp only [Option.map_some, Option.some.injEq] at h
  rw [h]
theorem z_rg34 {M : x_M} {s : Nat} (hs : s < 1024) {k11 : x_M → Int32 → Int32 → Option (Int32 × x_M)} {v2 v3 : Int32} : ∀ (d o n c : Nat), 10 = o + d → d < n → c ≤ o → f_X12_ring_34 k11 n M v2 v3 (nI s) (nI c) (nI o) = (if nI (c + z_cn s d o) < (nI 3) then f_X12_ring_89 k11 M v2 v3 else if (nI s &&& (((nI 1) <<< (v3 &&& 31)) - (nI 1))) = 0 then if v2 = 0 then some (nI s, M) else f_X12_ring_89 k11 M (v2 + (-1)) v3 else f_X12_ring_89 k11 M v2 v3) := by
  intro d
  induction d with
  | zero =>
    intro o n c ho hn hc
    obtain ⟨n, rfl⟩ : ∃ a, n = a + 1 := ⟨n - 1, by omega⟩
    rw [f_X12_ring_34_s, if_pos (by rw [z_le (by omega) (by omega)]; omega)]
    rfl
  | succ d ih =>
    intro o n c ho hn hc
    obtain ⟨n, rfl⟩ : ∃ a, n = a + 1 := ⟨n - 1, by omega⟩
    have h2 : s / 2 ^ o % 2 < 2 := Nat.mod_lt _ (by omega)
    rw [f_X12_ring_34_s, if_neg (by rw [z_le (by omega) (by omega)]; omega), z_sr hs (by omega), z_add, z_add, ih (o + 1) n _ (by omega) (by omega) (by omega), z_cn, Nat.add_assoc]
theorem z_rings {X M : x_M} {m v : Nat} {mk : Nat → Nat} (hm : m ≤ 10) (hv : v < 2147483648) (hk : ∀ i, i < m → mk i < 4096) (hX : X 2 3 = nI m) (hX4 : ∀ i, i < m → X 4 i = nI (mk i)) (hM : M 1 4 = nI m) (hM4 : ∀ i, i < m → M 1 (21 + 3 * i) = nI (mk i)) : ∀ (d k n n' seen rings : Nat), m = k + d → d < n → d < n' → rings ≤ v → rings ≤ k → seen < 1024 → (∀ i, seen.testBit i = true ↔ ∃ j, j < k ∧ z_cmp m mk j i) → ∃ r, f_X4_ringAt_7 n X (nI v) (nI seen) (nI rings) (nI k) = some (r, X) ∧ f_X12_ring_11 n' M (nI (v - rings)) (nI k) = some (r, M) := by
  intro d
  induction d with
  | zero =>
    intro k n n' seen rings h1 hn hn' hr hrk hse hs
    obtain ⟨n, rfl⟩ : ∃ a, n = a + 1 := ⟨n - 1, by omega⟩
    obtain ⟨n', rfl⟩ : ∃ a, n' = a + 1 := ⟨n' - 1, by omega⟩
    rw [f_X4_ringAt_7_s, f_X12_ring_11_s]
    simp (disch := omega) only [z_gf, hX, z_rd, hM, z_le]
    rw [if_pos (by omega), if_pos (by omega)]
    exact ⟨_, rfl, rfl⟩
  | succ d ih =>
    intro k n n' seen rings h1 hn hn' hr hrk hse hs
    obtain ⟨n, rfl⟩ : ∃ a, n = a + 1 := ⟨n - 1, by omega⟩
    obtain ⟨n', rfl⟩ : ∃ a, n' = a + 1 := ⟨n' - 1, by omega⟩
    obtain ⟨s, s1, s2, s3⟩ := z_hw (a := k) hm (by omega) hk hX hX4
    obtain ⟨t, t1, t2, t3⟩ := z_ro (a := k) hm (by omega) hk hM hM4
    have est := z_isC_eq t3 s3
    subst est
    have hcn := z_cn_le (s := t) 10 0
    have hp : 0 < 2 ^ k := Nat.pow_pos (by omega)
    have hpl : 2 ^ k < 1024 := z_pw (by omega)
    have hq : seen / 2 ^ k % 2 < 2 := Nat.mod_lt _ (by omega)
    have hlow : (t &&& (2 ^ k - 1) = 0) ↔ ¬ ∃ j, j < k ∧ z_cmp m mk j k := by
      constructor
      · rintro h ⟨j, hj, hc⟩
        refine z_share.mpr ⟨j, (t3 j).mpr (z_cmp_sy hc), ?_⟩ h
        rw [Nat.testBit_two_pow_sub_one, decide_eq_true_eq]
        exact hj
      · intro h
        by_cases h0 : t &&& (2 ^ k - 1) = 0
        · exact h0
        · obtain ⟨j, q1, q2⟩ := z_share.mp h0
          rw [Nat.testBit_two_pow_sub_one, decide_eq_true_eq] at q2
          exact absurd ⟨j, q2, z_cmp_sy ((t3 j).mp q1)⟩ h
    rw [f_X4_ringAt_7_s, f_X12_ring_11_s]
    unfold f_X4_ringAt_58
    simp (disch := omega) only [z_gf, hX, z_rd, hM, z_le, z_sr, z_eq0, z_add]
    simp only [if_neg (show ¬ m ≤ k by omega)]
    rw [t2, s2, z_bn, z_bn, z_rg34 t1 10 0 x_FU 0 (by omega) (by unfold x_FU; omega) (by omega), z_bcn t1, z_bn]
    unfold f_X12_ring_89
    simp (disch := omega) only [z_sl, z_sub, z_and0, z_lt, z_add, z_or32, z_eq, Nat.zero_add]
    have R0 : ∀ (sn : Nat), sn < 1024 → (∀ i, sn.testBit i = true ↔ ∃ j, j < k + 1 ∧ z_cmp m mk j i) → ∃ r, f_X4_ringAt_7 n X (nI v) (nI sn) (nI rings) (nI (k + 1)) = some (r, X) ∧ f_X12_ring_11 n' M (nI (v - rings)) (nI (k + 1)) = some (r, M) := fun sn q1 q2 => ih (k + 1) n n' sn rings (by omega) (by omega) (by omega) hr (by omega) q1 q2
    by_cases hse2 : seen / 2 ^ k % 2 = 0
    · rw [if_pos hse2]
      have hno : ¬ ∃ j, j < k ∧ z_cmp m mk j k := by
        intro h
        have := z_tb.mp ((hs k).mpr h)
        omega
      rw [if_pos (hlow.mpr hno)]
      have hsn : ∀ i, (seen ||| t).testBit i = true ↔ ∃ j, j < k + 1 ∧ z_cmp m mk j i := by
        intro i
        rw [Nat.testBit_or, Bool.or_eq_true, hs i, t3 i]
        constructor
        · rintro (⟨j, q1, q2⟩ | q)
          · exact ⟨j, by omega, q2⟩
          · exact ⟨k, by omega, q⟩
        · rintro ⟨j, q1, q2⟩
          by_cases e : j = k
          · subst e
            exact Or.inr q2
          · exact Or.inl ⟨j, by omega, q2⟩
      by_cases h3 : z_cn t 10 0 < 3
      · rw [if_pos h3, if_pos h3]
        exact R0 _ (z_orlt hse t1) hsn
      · rw [if_neg h3, if_neg h3]
        by_cases h4 : rings = v
        · rw [if_pos h4, if_pos (by rw [h4, Nat.sub_self]; rfl)]
          exact ⟨_, rfl, rfl⟩
        · rw [if_neg h4, if_neg (by rw [z_eq0 (by omega)]; omega), z_m1 (by omega)]
          rw [show v - rings - 1 = v - (rings + 1) by omega]
          exact ih (k + 1) n n' _ (rings + 1) (by omega) (by omega) (by omega) (by omega) (by omega) (z_orlt hse t1) hsn
    · rw [if_neg hse2]
      have hyes : ∃ j, j < k ∧ z_cmp m mk j k := (hs k).mp (z_tb.mpr (by omega))
      have hsn : ∀ i, seen.testBit i = true ↔ ∃ j, j < k + 1 ∧ z_cmp m mk j i := by
        intro i
        rw [hs i]
        constructor
        · rintro ⟨j, q1, q2⟩
          exact ⟨j, by omega, q2⟩
        · rintro ⟨j, q1, q2⟩
          by_cases e : j = k
          · subst e
            obtain ⟨l, p1, p2⟩ := hyes
            exact ⟨l, p1, z_cmp_tr p2 q2⟩
          · exact ⟨j, by omega, q2⟩
      simp only [if_neg (fun h => (hlow.mp h) hyes), ite_self]
      exact R0 _ hse hsn
theorem e_ring {NC : Nat} {X M : x_M} {G H : z_G} {Cd Ch : Nat → Nat → List Int32} (R : z_R NC X M G H Cd Ch) (a1 : Int32) : z_E NC (f_X11_ring X a1) (f_X12_ring M a1) := by
  obtain ⟨hcl, hrs, hwy⟩ := id R
  obtain ⟨hc, hi, ho, hf, ht⟩ := id hcl
  have hS := hi.1
  unfold z_IS at hS
  unfold f_X11_ring f_X12_ring f_X4_ringAt
  by_cases h : 0 ≤ a1
  · simp only [if_pos h, z_bnid]
    obtain ⟨v, hv, rfl⟩ := nI_of (x := a1) (fun h2 => by rw [Int32.lt_iff_toInt_lt] at h2; rw [Int32.le_iff_toInt_le] at h; omega)
    obtain ⟨r, e1, e2⟩ := z_rings (X := X) (M := M) (m := G 2 3) (v := v) (mk := G 4) (by omega) hv (fun i hi' => by have := (hi.2.2.1 i hi').2.1; omega) (z_g2 hc).1 (fun i hi' => (z_g4 hc hi').1) (z_g2 hc).2 (fun i hi' => (z_g4 hc hi').2) (G 2 3) 0 x_FU x_FU 0 0 (by omega) (by unfold x_FU; omega) (by unfold x_FU; omega) (by omega) (by omega) (by omega) (fun i => by
      rw [Nat.zero_testBit]
      constructor
      · intro h
        cases h
      · rintro ⟨j, hj, -⟩
        omega)
    rw [Nat.sub_zero] at e2
    rw [e1, e2]
    exact z_same R
  · simp only [if_neg h]
    exact z_same R
