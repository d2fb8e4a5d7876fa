/-! ===== THE WAY: numbers ===== -/
theorem z_B_le {R : Nat → Nat} {P w n : Nat} : ∀ (k t : Nat), t ≤ k → z_B R P w k n ≤ R (n - t * P) + t * w
  | 0, t, h => by
    have : t = 0 := by omega
    subst this
    rw [z_B, Nat.zero_mul, Nat.zero_mul]
    exact Nat.le_refl _
  | k + 1, t, h => by
    rw [z_B]
    by_cases e : t = k + 1
    · subst e
      exact Nat.min_le_right _ _
    · exact Nat.le_trans (Nat.min_le_left _ _) (z_B_le k t (by omega))
theorem z_B_at {R : Nat → Nat} {P w n : Nat} : ∀ k, ∃ t, t ≤ k ∧ z_B R P w k n = R (n - t * P) + t * w
  | 0 => ⟨0, Nat.le_refl _, by rw [z_B, Nat.zero_mul, Nat.zero_mul]; rfl⟩
  | k + 1 => by
    obtain ⟨t, h1, h2⟩ := z_B_at (R := R) (P := P) (w := w) (n := n) k
    rw [z_B]
    rcases Nat.le_total (z_B R P w k n) (R (n - (k + 1) * P) + (k + 1) * w) with h | h
    · exact ⟨t, by omega, by rw [Nat.min_eq_left h]; exact h2⟩
    · exact ⟨k + 1, Nat.le_refl _, by rw [Nat.min_eq_right h]⟩
/-- a pack of c takings -/
theorem z_B_pack {R : Nat → Nat} {P w k c n : Nat} (hc : c ≤ k + 1) : min (z_B R P w k n) (z_B R P w k (n - c * P) + c * w) = z_B R P w (k + c) n := by
  refine Nat.le_antisymm ?_ (Nat.le_min.mpr ⟨?_, ?_⟩)
  · obtain ⟨t, h1, h2⟩ := z_B_at (R := R) (P := P) (w := w) (n := n) (k + c)
    rw [h2]
    by_cases h : t ≤ k
    · exact Nat.le_trans (Nat.min_le_left _ _) (z_B_le k t h)
    · refine Nat.le_trans (Nat.min_le_right _ _) ?_
      have h3 := z_B_le (R := R) (P := P) (w := w) (n := n - c * P) k (t - c) (by omega)
      have e1 : n - c * P - (t - c) * P = n - t * P := by rw [Nat.sub_sub, ← Nat.add_mul]; congr 2; omega
      have e2 : (t - c) * w + c * w = t * w := by rw [← Nat.add_mul]; congr 1; omega
      rw [e1] at h3
      omega
  · obtain ⟨t, h1, h2⟩ := z_B_at (R := R) (P := P) (w := w) (n := n) k
    rw [h2]
    exact z_B_le (k + c) t (by omega)
  · obtain ⟨t, h1, h2⟩ := z_B_at (R := R) (P := P) (w := w) (n := n - c * P) k
    rw [h2]
    have h3 := z_B_le (R := R) (P := P) (w := w) (n := n) (k + c) (c + t) (by omega)
    have e1 : n - c * P - t * P = n - (c + t) * P := by rw [Nat.sub_sub, ← Nat.add_mul]
    have e2 : t * w + c * w = (c + t) * w := by rw [← Nat.add_mul]; congr 1; omega
    rw [e1]
    omega
/-- two weights tell the same coins and takings, or there is no way -/
def z_rho (d x y : Nat) : Prop := (x = 1000000000 ∧ y = 1000000000) ∨ ∃ c t, t ≤ 9 * d ∧ c ≤ 89991 * d ∧ x = 128 * c + t ∧ y = 100 * c + t
theorem z_rho_min {d x y x' y' : Nat} (hd : d ≤ 8) (h : z_rho d x y) (h' : (1000000000 ≤ x' ∧ 1000000000 ≤ y') ∨ ∃ c t, t ≤ 9 * d ∧ c ≤ 89991 * d ∧ x' = 128 * c + t ∧ y' = 100 * c + t) : z_rho d (min x x') (min y y') := by
  rcases h with ⟨rfl, rfl⟩ | ⟨c, t, h1, h2, rfl, rfl⟩
  · rcases h' with ⟨h3, h4⟩ | ⟨c, t, h1, h2, rfl, rfl⟩
    · exact Or.inl ⟨Nat.min_eq_left h3, Nat.min_eq_left h4⟩
    · refine Or.inr ⟨c, t, h1, h2, Nat.min_eq_right (by omega), Nat.min_eq_right (by omega)⟩
  · rcases h' with ⟨h3, h4⟩ | ⟨c', t', h3, h4, rfl, rfl⟩
    · exact Or.inr ⟨c, t, h1, h2, Nat.min_eq_left (by omega), Nat.min_eq_left (by omega)⟩
    · by_cases h5 : 128 * c + t ≤ 128 * c' + t'
      · exact Or.inr ⟨c, t, h1, h2, Nat.min_eq_left h5, Nat.min_eq_left (by omega)⟩
      · exact Or.inr ⟨c', t', h3, h4, Nat.min_eq_right (by omega), Nat.min_eq_right (by omega)⟩
theorem z_rho_B {R S : Nat → Nat} {d P c T : Nat} (hd : d + 1 ≤ 8) (hc : c ≤ 9999) (hT : T ≤ 9) (h : ∀ n, z_rho d (R n) (S n)) : ∀ k n, k ≤ T → z_rho (d + 1) (z_B R P (128 * c + 1) k n) (z_B S P (100 * c + 1) k n) := by
  intro k
  induction k with
  | zero =>
    intro n hk
    rw [z_B, z_B]
    rcases h n with h | ⟨c', t, h1, h2, h3, h4⟩
    · exact Or.inl h
    · exact Or.inr ⟨c', t, by omega, by omega, h3, h4⟩
  | succ k ih =>
    intro n hk
    rw [z_B, z_B]
    refine z_rho_min hd (ih n (by omega)) ?_
    rcases h (n - (k + 1) * P) with ⟨h1, h2⟩ | ⟨c', t, h1, h2, h3, h4⟩
    · left
      omega
    · right
      refine ⟨c' + (k + 1) * c, t + (k + 1), by omega, ?_, ?_, ?_⟩
      · have : (k + 1) * c ≤ 9 * 9999 := Nat.mul_le_mul (by omega) hc
        omega
      · rw [h3, Nat.mul_add (k + 1), Nat.mul_one, Nat.mul_add 128, Nat.mul_left_comm (k + 1) 128 c]
        omega
      · rw [h4, Nat.mul_add (k + 1), Nat.mul_one, Nat.mul_add 100, Nat.mul_left_comm (k + 1) 100 c]
        omega
theorem z_rho_D {G : z_G} {O : Nat} (hO : O ≤ 8) (hI : ∀ i, i < O → z_IO G i) : ∀ d n, d ≤ O → z_rho d (z_D 128 G O d n) (z_D 100 G O d n) := by
  intro d
  induction d with
  | zero =>
    intro n hd
    rw [z_D, z_D]
    by_cases h : n = 0
    · rw [if_pos h]
      exact Or.inr ⟨0, 0, by omega, by omega, rfl, rfl⟩
    · rw [if_neg h]
      exact Or.inl ⟨rfl, rfl⟩
  | succ d ih =>
    intro n hd
    have q := hI (O - (d + 1)) (by omega)
    unfold z_IO at q
    rw [z_D, z_D]
    exact z_rho_B (by omega) q.2.1 q.2.2.2.2.2 (fun n => ih n (by omega)) _ n (Nat.le_refl _)
theorem z_rho_b {d x y : Nat} (hd : d ≤ 8) (h : z_rho d x y) : x ≤ 1000000000 ∧ y ≤ 1000000000 ∧ (x = 1000000000 ↔ y = 1000000000) ∧ (x ≠ 1000000000 → x ≤ 92151000 ∧ y ≤ 92151000 ∧ x / 128 = y / 100) := by
  rcases h with ⟨rfl, rfl⟩ | ⟨c, t, h1, h2, rfl, rfl⟩
  · omega
  · omega
theorem z_rho_eq {d x y x' y' : Nat} (hd : d ≤ 8) (h : z_rho d x y) (h' : z_rho d x' y') : x = x' ↔ y = y' := by
  rcases h with ⟨rfl, rfl⟩ | ⟨c, t, h1, h2, rfl, rfl⟩ <;> rcases h' with ⟨rfl, rfl⟩ | ⟨c', t', h3, h4, rfl, rfl⟩ <;> omega
/-! ===== THE WAY: the class ===== -/
theorem z_ap {row most p w : Nat} {f : Nat → Nat} (hr : row + most < 27009) (hp : 1 ≤ p) (hp2 : p < 1000000) (hw : w ≤ 20000000) (hf : ∀ n, f n ≤ 1000000000) : ∀ (n fu : Nat) (X : x_M), n < fu → n ≤ most → (∀ j, j ≤ n → X 79 (row + j) = nI (f j)) → (∀ j, n < j → j ≤ most → X 79 (row + j) = nI (min (f j) (f (j - p) + w))) → f 0 ≤ f 0 + w → ∃ X', f_X10_addPack_3 fu X (nI row) (nI p) (nI w) (nI n) = some ((), X') ∧ (∀ k, k ≠ 79 → X' k = X k) ∧ (∀ i, i < row ∨ row + most < i → X' 79 i = X 79 i) ∧ X' 79 row = nI (f 0) ∧ ∀ j, 1 ≤ j → j ≤ most → X' 79 (row + j) = nI (min (f j) (f (j - p) + w)) := by
  intro n
  induction n with
  | zero =>
    intro fu X hfu hn h1 h2 h0
    obtain ⟨fu, rfl⟩ : ∃ a, fu = a + 1 := ⟨fu - 1, by omega⟩
    rw [f_X10_addPack_3_s, if_pos (by decide)]
    exact ⟨X, rfl, fun _ _ => rfl, fun _ _ => rfl, h1 0 (Nat.le_refl _), fun j q1 q2 => h2 j q1 q2⟩
  | succ n ih =>
    intro fu X hfu hn h1 h2 h0
    obtain ⟨fu, rfl⟩ : ∃ a, fu = a + 1 := ⟨fu - 1, by omega⟩
    have b1 := hf (n + 1)
    have b2 := hf (n + 1 - p)
    have key : ∀ t : Nat, t = n + 1 - p → ∃ X', f_X10_addPack_27 (f_X10_addPack_3 fu) X (nI row) (nI p) (nI w) (nI (n + 1)) (nI row) (nI t) = some ((), X') ∧ (∀ k, k ≠ 79 → X' k = X k) ∧ (∀ i, i < row ∨ row + most < i → X' 79 i = X 79 i) ∧ X' 79 row = nI (f 0) ∧ ∀ j, 1 ≤ j → j ≤ most → X' 79 (row + j) = nI (min (f j) (f (j - p) + w)) := by
      intro t ht
      unfold f_X10_addPack_27 f_X10_addPack_59
      simp (disch := omega) only [z_add, z_rd]
      have b3 := hf t
      rw [h1 t (by omega), h1 (n + 1) (Nat.le_refl _)]
      simp (disch := omega) only [z_add, z_le, z_wr]
      rw [z_m1 (by omega), show n + 1 - 1 = n by omega]
      by_cases hc : f (n + 1) ≤ f t + w
      · rw [if_pos hc]
        refine ih fu X (by omega) (by omega) (fun j hj => h1 j (by omega)) (fun j q1 q2 => ?_) h0
        by_cases e : j = n + 1
        · subst e
          rw [h1 (n + 1) (Nat.le_refl _), Nat.min_eq_left (by rw [← ht]; exact hc)]
        · exact h2 j (by omega) q2
      · rw [if_neg hc]
        obtain ⟨X', e1, e2, e3, e4, e5⟩ := ih fu (x_up X 79 (row + (n + 1)) (nI (f t + w))) (by omega) (by omega) (fun j hj => by rw [z_upr, z_un (by omega)]; exact h1 j (by omega)) (fun j q1 q2 => by
          rw [z_upr]
          by_cases e : j = n + 1
          · subst e
            rw [z_us, Nat.min_eq_right (by rw [← ht]; omega), ht]
          · rw [z_un (by omega)]
            exact h2 j (by omega) q2) h0
        exact ⟨X', e1, fun k hk => by rw [e2 k hk, z_upn hk], fun i hi => by rw [e3 i hi, z_upr, z_un (by omega)], e4, e5⟩
    rw [f_X10_addPack_3_s]
    simp (disch := omega) only [z_le0, z_le]
    rw [if_neg (by omega)]
    by_cases hp3 : n + 1 ≤ p
    · rw [if_pos hp3]
      exact key 0 (by omega)
    · rw [if_neg hp3]
      simp (disch := omega) only [z_sub]
      exact key _ rfl
/-- an OFFER's packs -/
theorem z_pk {o most P C T : Nat} {R : Nat → Nat} (ho : o < 8) (hmo : most ≤ 3000) (hP : 1 ≤ P ∧ P ≤ 999) (hC : 1 ≤ C ∧ C ≤ 9999) (hT : 1 ≤ T ∧ T ≤ 9) (hR : ∀ n, R n ≤ 1000000000) (hR0 : R 0 = 0) {k50 : x_M → Int32 → Int32 → Option (Unit × x_M)} : ∀ (e pk k fu : Nat) (X : x_M), (pk = 1 ∨ pk = 2 ∨ pk = 4 ∨ pk = 8 ∨ pk = 16) → k = min (pk - 1) T → 17 ≤ pk + e → e < fu → X 30 o = nI T → X 29 o = nI P → X 28 o = nI C → (∀ n, n ≤ most → X 79 (3001 * o + n) = nI (z_B R P (128 * C + 1) k n)) → ∃ X', f_X10_solve_78_27_95 k50 fu X (nI most) (nI o) (nI (T - k)) (nI pk) = k50 X' (nI most) (nI o + (-1)) ∧ (∀ q, q ≠ 79 → X' q = X q) ∧ (∀ i, i < 3001 * o ∨ 3001 * o + most < i → X' 79 i = X 79 i) ∧ ∀ n, n ≤ most → X' 79 (3001 * o + n) = nI (z_B R P (128 * C + 1) T n) := by
  intro e
  induction e with
  | zero =>
    intro pk k fu X hpk hk he hfu hX30 hX29 hX28 hX
    omega
  | succ e ih =>
    intro pk k fu X hpk hk he hfu hX30 hX29 hX28 hX
    obtain ⟨fu, rfl⟩ : ∃ a, fu = a + 1 := ⟨fu - 1, by omega⟩
    rw [f_X10_solve_78_27_95_s]
    simp (disch := omega) only [z_rd, hX30, hX29, z_lt]
    by_cases h : T < pk
    · rw [if_pos h]
      have : k = T := by omega
      subst this
      exact ⟨X, rfl, fun _ _ => rfl, fun _ _ => rfl, hX⟩
    · rw [if_neg h]
      have hk1 : k = pk - 1 := by omega
      have hB : ∀ n, z_B R P (128 * C + 1) k n ≤ 1000000000 := fun n => by
        have h1 := z_B_le (R := R) (P := P) (w := 128 * C + 1) (n := n) k 0 (by omega)
        rw [Nat.zero_mul, Nat.zero_mul] at h1
        exact Nat.le_trans h1 (hR n)
      have hB0 : z_B R P (128 * C + 1) k 0 = 0 := by
        have h1 := z_B_le (R := R) (P := P) (w := 128 * C + 1) (n := 0) k 0 (by omega)
        rw [Nat.zero_mul, Nat.zero_mul, Nat.sub_zero, hR0] at h1
        omega
      unfold f_X10_weight_27 f_X10_addPack
      simp (disch := omega) only [z_rd, hX28, z_bn, z_mul, z_add]
      have fin : ∀ c : Nat, 1 ≤ c → c ≤ k + 1 → k + c = min (pk * 2 - 1) T → ∃ X', x_bn (f_X10_addPack_3 x_FU X (nI (o * 3001)) (nI c * nI P) (nI c * nI (C * 128 + 1)) (nI most)) (fun _ M => f_X10_solve_78_27_95 k50 fu M (nI most) (nI o) (nI (T - k) - nI c) (nI (pk * 2))) = k50 X' (nI most) (nI o + (-1)) ∧ (∀ q, q ≠ 79 → X' q = X q) ∧ (∀ i, i < 3001 * o ∨ 3001 * o + most < i → X' 79 i = X 79 i) ∧ ∀ n, n ≤ most → X' 79 (3001 * o + n) = nI (z_B R P (128 * C + 1) T n) := by
        intro c c1 c2 c3
        have hcP : 1 ≤ c * P ∧ c * P ≤ 9 * 999 := ⟨Nat.mul_le_mul c1 hP.1, Nat.mul_le_mul (by omega) hP.2⟩
        have hcw : c * (C * 128 + 1) ≤ 9 * 1279873 := Nat.mul_le_mul (by omega) (by omega)
        simp (disch := omega) only [z_mul, z_sub]
        obtain ⟨X1, a1, a2, a3, a4, a5⟩ := z_ap (row := o * 3001) (most := most) (p := c * P) (w := c * (C * 128 + 1)) (f := z_B R P (128 * C + 1) k) (by omega) hcP.1 (by omega) (by omega) hB most x_FU X (by unfold x_FU; omega) (Nat.le_refl _) (fun j hj => by rw [show o * 3001 + j = 3001 * o + j by omega]; exact hX j hj) (fun j q1 q2 => by omega) (by omega)
        rw [a1, z_bn, show T - k - c = T - (k + c) by omega]
        obtain ⟨X2, b1, b2, b3, b4⟩ := ih (pk * 2) (k + c) fu X1 (by omega) c3 (by omega) (by omega) (by rw [a2 30 (by omega)]; exact hX30) (by rw [a2 29 (by omega)]; exact hX29) (by rw [a2 28 (by omega)]; exact hX28) (fun n hn => by
          rw [← z_B_pack c2]
          by_cases h0 : n = 0
          · subst h0
            rw [show 3001 * o + 0 = o * 3001 by omega, a4, hB0, Nat.zero_sub, hB0]
            rw [Nat.min_eq_left (by omega)]
          · rw [show 3001 * o + n = o * 3001 + n by omega, a5 n (by omega) hn, show C * 128 + 1 = 128 * C + 1 by omega])
        exact ⟨X2, b1, fun q hq => by rw [b2 q hq, a2 q hq], fun i hi => by rw [b3 i hi, a3 i (by omega)], b4⟩
      by_cases hl : T - k < pk
      · simp only [if_pos hl]
        exact fin (T - k) (by omega) (by omega) (by omega)
      · simp only [if_neg hl]
        exact fin pk (by omega) (by omega) (by omega)
