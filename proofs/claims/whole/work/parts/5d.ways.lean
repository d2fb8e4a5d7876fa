/-! ===== THE WAY: numbers ===== -/
theorem z_B_le {R : Nat → Nat} {P w n : Nat} : ∀ (k t : Nat), t ≤ k → z_B R P w k n ≤ R (n - t * P) + t * w
  | 0, t, h => by
    have : t = 0 := by omega
    subst this
    rw [z_B, Nat.zero_mul, Nat.zero_mul]
    exact Nat.le_refl _
  | k + 1, t, h => by
    rw [z_B]
    by_cases e : t = k + 1
    · subst e
      exact Nat.min_le_right _ _
    · exact Nat.le_trans (Nat.min_le_left _ _) (z_B_le k t (by omega))
theorem z_B_at {R : Nat → Nat} {P w n : Nat} : ∀ k, ∃ t, t ≤ k ∧ z_B R P w k n = R (n - t * P) + t * w
  | 0 => ⟨0, Nat.le_refl _, by rw [z_B, Nat.zero_mul, Nat.zero_mul]; rfl⟩
  | k + 1 => by
    obtain ⟨t, h1, h2⟩ := z_B_at (R := R) (P := P) (w := w) (n := n) k
    rw [z_B]
    rcases Nat.le_total (z_B R P w k n) (R (n - (k + 1) * P) + (k + 1) * w) with h | h
    · exact ⟨t, by omega, by rw [Nat.min_eq_left h]; exact h2⟩
    · exact ⟨k + 1, Nat.le_refl _, by rw [Nat.min_eq_right h]⟩
/-- a pack of c takings -/
theorem z_B_pack {R : Nat → Nat} {P w k c n : Nat} (hc : c ≤ k + 1) : min (z_B R P w k n) (z_B R P w k (n - c * P) + c * w) = z_B R P w (k + c) n := by
  refine Nat.le_antisymm ?_ (Nat.le_min.mpr ⟨?_, ?_⟩)
  · obtain ⟨t, h1, h2⟩ := z_B_at (R := R) (P := P) (w := w) (n := n) (k + c)
    rw [h2]
    by_cases h : t ≤ k
    · exact Nat.le_trans (Nat.min_le_left _ _) (z_B_le k t h)
    · refine Nat.le_trans (Nat.min_le_right _ _) ?_
      have h3 := z_B_le (R := R) (P := P) (w := w) (n := n - c * P) k (t - c) (by omega)
      have e1 : n - c * P - (t - c) * P = n - t * P := by rw [Nat.sub_sub, ← Nat.add_mul]; congr 2; omega
      have e2 : (t - c) * w + c * w = t * w := by rw [← Nat.add_mul]; congr 1; omega
      rw [e1] at h3
      omega
  · obtain ⟨t, h1, h2⟩ := z_B_at (R := R) (P := P) (w := w) (n := n) k
    rw [h2]
    exact z_B_le (k + c) t (by omega)
  · obtain ⟨t, h1, h2⟩ := z_B_at (R := R) (P := P) (w := w) (n := n - c * P) k
    rw [h2]
    have h3 := z_B_le (R := R) (P := P) (w := w) (n := n) (k + c) (c + t) (by omega)
    have e1 : n - c * P - t * P = n - (c + t) * P := by rw [Nat.sub_sub, ← Nat.add_mul]
    have e2 : t * w + c * w = (c + t) * w := by rw [← Nat.add_mul]; congr 1; omega
    rw [e1]
    omega
theorem z_B_0 {R : Nat → Nat} {P w : Nat} : ∀ k, z_B R P w k 0 = R 0
  | 0 => rfl
  | k + 1 => by
    rw [z_B, z_B_0 k, Nat.zero_sub]
    exact Nat.min_eq_left (by omega)
theorem z_B_leR {R : Nat → Nat} {P w n : Nat} (k : Nat) : z_B R P w k n ≤ R n := by
  have h1 := z_B_le (R := R) (P := P) (w := w) (n := n) k 0 (by omega)
  rw [Nat.zero_mul, Nat.zero_mul] at h1
  exact h1
theorem z_B_comm_le {R : Nat → Nat} {P w T P' w' T' n : Nat} : z_B (z_B R P w T) P' w' T' n ≤ z_B (z_B R P' w' T') P w T n := by
  obtain ⟨t, h1, h2⟩ := z_B_at (R := z_B R P' w' T') (P := P) (w := w) (n := n) T
  obtain ⟨t', h3, h4⟩ := z_B_at (R := R) (P := P') (w := w') (n := n - t * P) T'
  have h5 := z_B_le (R := z_B R P w T) (P := P') (w := w') (n := n) T' t' h3
  have h6 := z_B_le (R := R) (P := P) (w := w) (n := n - t' * P') T t h1
  rw [show n - t' * P' - t * P = n - t * P - t' * P' by omega] at h6
  rw [h2, h4]
  omega
theorem z_B_comm {R : Nat → Nat} {P w T P' w' T' : Nat} : z_B (z_B R P w T) P' w' T' = z_B (z_B R P' w' T') P w T := by
  funext n
  exact Nat.le_antisymm z_B_comm_le z_B_comm_le
/-- the best with the last d of O OFFERS, ahead of what R says -/
def zw_V (G : z_G) (O : Nat) (R : Nat → Nat) : Nat → Nat → Nat
  | 0, n => R n
  | d + 1, n => z_B (zw_V G O R d) (G 29 (O - (d + 1))) (zw_W G (O - (d + 1))) (G 30 (O - (d + 1))) n
theorem zw_push {G : z_G} {O P w T : Nat} {R : Nat → Nat} : ∀ d, z_B (zw_V G O R d) P w T = zw_V G O (z_B R P w T) d
  | 0 => rfl
  | d + 1 => by
    have e : zw_V G O R (d + 1) = z_B (zw_V G O R d) (G 29 (O - (d + 1))) (zw_W G (O - (d + 1))) (G 30 (O - (d + 1))) := rfl
    have e' : zw_V G O (z_B R P w T) (d + 1) = z_B (zw_V G O (z_B R P w T) d) (G 29 (O - (d + 1))) (zw_W G (O - (d + 1))) (G 30 (O - (d + 1))) := rfl
    rw [e, e', z_B_comm, zw_push d]
/-- the first OFFERS first, or the last first: it is the same -/
theorem zw_turn {G : z_G} {O : Nat} : ∀ j, j ≤ O → zw_V G O (zw_F G j) (O - j) = zw_V G O (zw_F G 0) O
  | 0, _ => rfl
  | j + 1, h => by
    rw [← zw_turn j (by omega), show O - j = (O - (j + 1)) + 1 by omega]
    have e : zw_V G O (zw_F G j) (O - (j + 1) + 1) = z_B (zw_V G O (zw_F G j) (O - (j + 1))) (G 29 (O - (O - (j + 1) + 1))) (zw_W G (O - (O - (j + 1) + 1))) (G 30 (O - (O - (j + 1) + 1))) := rfl
    rw [e, show O - (O - (j + 1) + 1) = j by omega, zw_push]
    rfl
theorem zw_all {G : z_G} {O : Nat} : zw_F G O = zw_V G O (zw_F G 0) O := by
  have h := zw_turn (G := G) (O := O) O (Nat.le_refl _)
  rw [Nat.sub_self] at h
  exact h
theorem z_D_le {K : Nat} {G : z_G} {O : Nat} : ∀ d n, z_D K G O d n ≤ 1000000000
  | 0, n => by
    rw [z_D]
    split <;> omega
  | d + 1, n => by
    rw [z_D]
    exact Nat.le_trans (z_B_leR _) (z_D_le d n)
theorem z_D_s {K : Nat} {G : z_G} {O o n : Nat} (ho : o < O) : z_D K G O (O - o) n = z_B (z_D K G O (O - (o + 1))) (G 29 o) (K * G 28 o + 1) (G 30 o) n := by
  rw [show O - o = (O - (o + 1)) + 1 by omega, z_D, show O - (O - (o + 1) + 1) = o by omega]
theorem zw_V_s {G : z_G} {R : Nat → Nat} {O o n : Nat} (ho : o < O) : zw_V G O R (O - o) n = z_B (zw_V G O R (O - (o + 1))) (G 29 o) (zw_W G o) (G 30 o) n := by
  rw [show O - o = (O - (o + 1)) + 1 by omega, zw_V, show O - (O - (o + 1) + 1) = o by omega]
theorem zw_F_le {G : z_G} : ∀ d n, zw_F G d n ≤ 4611686018427387904
  | 0, n => by
    rw [zw_F]
    split <;> omega
  | d + 1, n => by
    rw [zw_F]
    exact Nat.le_trans (z_B_leR _) (zw_F_le d n)
/-- a best one x of the class and a least weight y of the reference tell the same COINS c and takings k, or there is no WAY; s bounds the takings' digits -/
def zw_rho (d s x y : Nat) : Prop := (x = 4611686018427387904 ∧ y = 1000000000) ∨ ∃ c k g, k ≤ 9 * d ∧ c ≤ 89991 * d ∧ g < s ∧ x + g = 2576980377 + 1099511627776 * c + 4294967296 * k ∧ y = 100 * c + k
/-- one candidate -/
theorem zw_cand {G : z_G} {d s o t x y : Nat} (hd : d ≤ 7) (hs : s = 16 ^ (7 - o)) (hC : G 28 o ≤ 9999) (ht : t ≤ 9) (h : zw_rho d s x y) : (4611686018427387904 ≤ x + t * zw_W G o ∧ 1000000000 ≤ y + t * (100 * G 28 o + 1) ∧ y = 1000000000) ∨ ∃ c k g, k ≤ 9 * (d + 1) ∧ c ≤ 89991 * (d + 1) ∧ g < s ∧ (x + t * zw_W G o) + (t * s + g) = 2576980377 + 1099511627776 * c + 4294967296 * k ∧ y + t * (100 * G 28 o + 1) = 100 * c + k ∧ y ≠ 1000000000 := by
  rcases h with ⟨h1, h2⟩ | ⟨c, k, g, h1, h2, h3, h4, h5⟩
  · left
    omega
  · right
    have b := z_16 (o := o)
    rw [← hs] at b
    have e1 : t * zw_W G o + t * s = 1099511627776 * (t * G 28 o) + 4294967296 * t := by
      unfold zw_W
      rw [← hs, ← Nat.mul_add, show 1099511627776 * G 28 o + (4294967296 - s) + s = 1099511627776 * G 28 o + 4294967296 by omega, Nat.mul_add, Nat.mul_left_comm, Nat.mul_comm t 4294967296]
    have e2 : t * (100 * G 28 o + 1) = 100 * (t * G 28 o) + t := by
      rw [Nat.mul_add, Nat.mul_left_comm, Nat.mul_one]
    have e3 : t * G 28 o ≤ 9 * 9999 := Nat.mul_le_mul ht hC
    exact ⟨c + t * G 28 o, k + t, g, by omega, by omega, h3, by omega, by omega, by omega⟩
/-- the best of all candidates, on both sides -/
theorem zw_best {G : z_G} {R S : Nat → Nat} {d s o T n : Nat} (hd : d ≤ 7) (hs : s = 16 ^ (7 - o)) (hC : G 28 o ≤ 9999) (hT : T ≤ 9) (h : ∀ n, zw_rho d s (R n) (S n)) : (z_B R (G 29 o) (zw_W G o) T n = 4611686018427387904 ∧ z_B S (G 29 o) (100 * G 28 o + 1) T n = 1000000000) ∨ ∃ t c k g, t ≤ T ∧ k ≤ 9 * (d + 1) ∧ c ≤ 89991 * (d + 1) ∧ g < s ∧ z_B R (G 29 o) (zw_W G o) T n = R (n - t * G 29 o) + t * zw_W G o ∧ z_B R (G 29 o) (zw_W G o) T n + (t * s + g) = 2576980377 + 1099511627776 * c + 4294967296 * k ∧ S (n - t * G 29 o) + t * (100 * G 28 o + 1) = 100 * c + k ∧ z_B S (G 29 o) (100 * G 28 o + 1) T n = 100 * c + k := by
  obtain ⟨t, a1, a2⟩ := z_B_at (R := R) (P := G 29 o) (w := zw_W G o) (n := n) T
  obtain ⟨u, b1, b2⟩ := z_B_at (R := S) (P := G 29 o) (w := 100 * G 28 o + 1) (n := n) T
  have a3 := z_B_le (R := S) (P := G 29 o) (w := 100 * G 28 o + 1) (n := n) T t a1
  have b3 := z_B_le (R := R) (P := G 29 o) (w := zw_W G o) (n := n) T u b1
  have c1 := zw_cand hd hs hC (show t ≤ 9 by omega) (h (n - t * G 29 o))
  have c2 := zw_cand hd hs hC (show u ≤ 9 by omega) (h (n - u * G 29 o))
  have r0 := z_B_leR (R := R) (P := G 29 o) (w := zw_W G o) (n := n) T
  have s0 := z_B_leR (R := S) (P := G 29 o) (w := 100 * G 28 o + 1) (n := n) T
  have bb := z_16 (o := o)
  rw [← hs] at bb
  have q : R n ≤ 4611686018427387904 ∧ S n ≤ 1000000000 := by
    rcases h n with ⟨q1, q2⟩ | ⟨c, k, g, q1, q2, q3, q4, q5⟩ <;> omega
  rw [← a2] at c1
  rw [← b2] at c2
  rcases c1 with ⟨d1, d2, d3⟩ | ⟨c, k, g, d1, d2, d3, d4, d5, d6⟩
  · left
    rcases c2 with ⟨f1, f2, f3⟩ | ⟨c', k', g', f1, f2, f3, f4, f5, f6⟩
    · exact ⟨by omega, by omega⟩
    · exfalso
      have : u * s ≤ 9 * s := Nat.mul_le_mul (by omega) (Nat.le_refl _)
      omega
  · right
    have ts : t * s ≤ 9 * s := Nat.mul_le_mul (by omega) (Nat.le_refl _)
    have us : u * s ≤ 9 * s := Nat.mul_le_mul (by omega) (Nat.le_refl _)
    rcases c2 with ⟨f1, f2, f3⟩ | ⟨c', k', g', f1, f2, f3, f4, f5, f6⟩
    · exfalso
      omega
    · have e1 : c = c' ∧ k = k' := by omega
      exact ⟨t, c, k, g, a1, d1, d2, d3, a2, d4, d5, by omega⟩
theorem zw_rho_V {G : z_G} {O : Nat} (hO : O ≤ 8) (hI : ∀ i, i < O → z_IO G i) : ∀ d n, d ≤ O → zw_rho d (16 ^ (8 - (O - d))) (zw_V G O (zw_F G 0) d n) (z_D 100 G O d n) := by
  intro d
  induction d with
  | zero =>
    intro n hd
    rw [zw_V, zw_F, z_D]
    by_cases h : n = 0
    · rw [if_pos h, if_pos h]
      exact Or.inr ⟨0, 0, 0, by omega, by omega, Nat.pow_pos (by omega), rfl, rfl⟩
    · rw [if_neg h, if_neg h]
      exact Or.inl ⟨rfl, rfl⟩
  | succ d ih =>
    intro n hd
    have q := hI (O - (d + 1)) (by omega)
    unfold z_IO at q
    rw [zw_V, z_D]
    have e : 8 - (O - d) = 7 - (O - (d + 1)) := by omega
    have e' : 16 ^ (8 - (O - (d + 1))) = 16 * 16 ^ (7 - (O - (d + 1))) := by
      rw [show 8 - (O - (d + 1)) = (7 - (O - (d + 1))) + 1 by omega, Nat.pow_succ, Nat.mul_comm]
    rcases zw_best (G := G) (R := zw_V G O (zw_F G 0) d) (S := z_D 100 G O d) (d := d) (s := 16 ^ (7 - (O - (d + 1)))) (o := O - (d + 1)) (T := G 30 (O - (d + 1))) (n := n) (by omega) rfl q.2.1 q.2.2.2.2.2 (fun n => by rw [← e]; exact ih n (by omega)) with ⟨h1, h2⟩ | ⟨t, c, k, g, h1, h2, h3, h4, h5, h6, h7, h8⟩
    · exact Or.inl ⟨h1, h2⟩
    · have ts : t * 16 ^ (7 - (O - (d + 1))) ≤ 9 * 16 ^ (7 - (O - (d + 1))) := Nat.mul_le_mul (by omega) (Nat.le_refl _)
      refine Or.inr ⟨c, k, t * 16 ^ (7 - (O - (d + 1))) + g, h2, h3, ?_, h6, h8⟩
      rw [e']
      omega
/-- the most takings that the reference finds are the class's too -/
theorem zw_step {G : z_G} {O o p t0 : Nat} (hO : O ≤ 8) (hI : ∀ i, i < O → z_IO G i) (ho : o < O) (ht : t0 ≤ G 30 o) (hne : z_D 100 G O (O - o) p ≠ 1000000000) (hat : z_D 100 G O (O - (o + 1)) (p - t0 * G 29 o) + t0 * (100 * G 28 o + 1) = z_D 100 G O (O - o) p) (hno : ∀ t, t0 < t → t ≤ G 30 o → ¬ z_D 100 G O (O - (o + 1)) (p - t * G 29 o) + t * (100 * G 28 o + 1) = z_D 100 G O (O - o) p) : zw_V G O (zw_F G 0) (O - o) p = zw_V G O (zw_F G 0) (O - (o + 1)) (p - t0 * G 29 o) + t0 * zw_W G o := by
  have q := hI o ho
  unfold z_IO at q
  have hr : ∀ n, zw_rho (O - (o + 1)) (16 ^ (7 - o)) (zw_V G O (zw_F G 0) (O - (o + 1)) n) (z_D 100 G O (O - (o + 1)) n) := fun n => by
    have := zw_rho_V hO hI (O - (o + 1)) n (by omega)
    rw [show 8 - (O - (O - (o + 1))) = 7 - o by omega] at this
    exact this
  rw [z_D_s ho] at hne hat hno
  rw [zw_V_s ho]
  have le := z_B_le (R := zw_V G O (zw_F G 0) (O - (o + 1))) (P := G 29 o) (w := zw_W G o) (n := p) (G 30 o) t0 ht
  have hDl := z_D_le (K := 100) (G := G) (O := O) (O - (o + 1)) (p - t0 * G 29 o)
  have hBl := Nat.le_trans (z_B_leR (R := z_D 100 G O (O - (o + 1))) (P := G 29 o) (w := 100 * G 28 o + 1) (n := p) (G 30 o)) (z_D_le (O - (o + 1)) p)
  rcases zw_best (G := G) (R := zw_V G O (zw_F G 0) (O - (o + 1))) (S := z_D 100 G O (O - (o + 1))) (d := O - (o + 1)) (s := 16 ^ (7 - o)) (o := o) (T := G 30 o) (n := p) (by omega) rfl q.2.1 q.2.2.2.2.2 hr with ⟨h1, h2⟩ | ⟨t, c, k, g, h1, h2, h3, h4, h5, h6, h7, h8⟩
  · exact absurd h2 hne
  · rcases zw_cand (G := G) (o := o) (t := t0) (show O - (o + 1) ≤ 7 by omega) rfl q.2.1 (show t0 ≤ 9 by omega) (hr (p - t0 * G 29 o)) with ⟨f1, f2, f3⟩ | ⟨c', k', g', f1, f2, f3, f4, f5, f6⟩
    · omega
    · have htt : t ≤ t0 := by
        by_cases hlt : t0 < t
        · exact absurd (h7.trans h8.symm) (hno t hlt h1)
        · omega
      by_cases e : t = t0
      · rw [h5, e]
      · exfalso
        have hm : (t + 1) * 16 ^ (7 - o) ≤ t0 * 16 ^ (7 - o) := Nat.mul_le_mul (by omega) (Nat.le_refl _)
        rw [Nat.add_mul, Nat.one_mul] at hm
        have e1 : c = c' ∧ k = k' := by omega
        omega
