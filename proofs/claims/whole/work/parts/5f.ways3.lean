/-! ===== THE WAY: both trace it ===== -/
theorem z_posp {p x : Nat} (hp : p ≤ 3000) (hx : x < 1000000) : (if (nI 0) < (nI p - nI x) then (nI p - nI x) else nI 0) = nI (p - x) := by
  by_cases h : x ≤ p
  · rw [z_sub h]
    by_cases h0 : p - x = 0
    · rw [h0, if_neg (by decide)]
    · rw [if_pos (by rw [z_lt (by omega) (by omega)]; omega)]
  · have h1 : nI p - nI x < 0 := pk_sneg (by omega) (by omega)
    rw [if_neg (fun h2 => by
      rw [Int32.lt_iff_toInt_lt] at h2 h1
      rw [show (nI 0).toInt = 0 by decide] at h2
      rw [show (0 : Int32).toInt = 0 by decide] at h1
      omega), show p - x = 0 by omega]
def z_tx (K : Nat) (G : z_G) (O n : Nat) (row : Nat → Int32) : Prop := ∀ o, o ≤ O → ∀ p, p ≤ n → row (3001 * o + p) = nI (z_D K G O (O - o) p)
/-- t takings fit on one side as they fit on the other -/
theorem z_fit {G : z_G} {O o p t : Nat} (hO : O ≤ 8) (hI : ∀ i, i < O → z_IO G i) (ho : o < O) (ht : t ≤ G 30 o) (hD : z_D 128 G O (O - o) p ≠ 1000000000) : (z_D 128 G O (O - (o + 1)) (p - t * G 29 o) + t * (128 * G 28 o + 1) = z_D 128 G O (O - o) p) ↔ (z_cap (z_D 100 G O (O - (o + 1)) (p - t * G 29 o)) (t * (100 * G 28 o + 1)) = z_D 100 G O (O - o) p) := by
  have q := hI o ho
  unfold z_IO at q
  have r1 := z_rho_D hO hI (O - o) p (by omega)
  have r2 := z_rho_D hO hI (O - (o + 1)) (p - t * G 29 o) (by omega)
  have b1 := z_rho_b (by omega) r1
  have b2 := z_rho_b (by omega) r2
  have b3 := b1.2.2.2 hD
  unfold z_cap
  by_cases h : z_D 100 G O (O - (o + 1)) (p - t * G 29 o) = 1000000000
  · rw [if_pos h]
    have := b2.2.2.1.mpr h
    constructor <;> intro h' <;> omega
  · rw [if_neg h]
    refine z_rho_eq (d := O - o) (by omega) ?_ r1
    rcases r2 with ⟨e1, e2⟩ | ⟨c, u, h1, h2, h3, h4⟩
    · exact absurd e2 h
    · right
      refine ⟨c + t * G 28 o, u + t, by omega, ?_, ?_, ?_⟩
      · have : t * G 28 o ≤ 9 * 9999 := Nat.mul_le_mul (by omega) (by omega)
        omega
      · rw [h3, Nat.mul_add t, Nat.mul_one, Nat.mul_add 128, Nat.mul_left_comm t 128]
        omega
      · rw [h4, Nat.mul_add t, Nat.mul_one, Nat.mul_add 100, Nat.mul_left_comm t 100]
        omega
theorem z_tri {X M : x_M} {G : z_G} {O o p n v : Nat} (hof : z_of X G O) (hom : z_om2 M G O) (ho : o < O) (hn : n ≤ 3000) (hp : p ≤ n) (hX : z_tx 128 G O n (X 79)) (hM : z_tx 100 G O n (M 18)) (hD : z_D 128 G O (O - o) p ≠ 1000000000) {k5 : x_M → Int32 → Int32 → Option (Unit × x_M)} {k17 : x_M → Int32 → Int32 → Int32 → Option (Int32 × x_M)} : ∀ (t fu fu' : Nat), t ≤ G 30 o → t < fu → t < fu' → (∀ t', t < t' → t' ≤ G 30 o → ¬ z_D 128 G O (O - (o + 1)) (p - t' * G 29 o) + t' * (128 * G 28 o + 1) = z_D 128 G O (O - o) p) → ∃ t0, t0 ≤ t ∧ z_D 128 G O (O - (o + 1)) (p - t0 * G 29 o) + t0 * (128 * G 28 o + 1) = z_D 128 G O (O - o) p ∧ f_X10_trace_78_27_38 k5 fu X (nI p) (nI o) (nI (z_D 128 G O (O - o) p)) (nI t) = k5 (x_up X 80 o (nI t0)) (nI (p - t0 * G 29 o)) (nI (o + 1)) ∧ f_X12_findWay_53 k17 fu' M (nI v) (nI p) (nI o) (nI t) = k17 (x_up M 19 o (nI t0)) (nI v) (nI (p - t0 * G 29 o)) (nI (o + 1)) := by
  have hO := hof.1
  obtain ⟨hIO, g28, g29, g30⟩ := hof.2.2 o ho
  obtain ⟨-, m28, m29, m30⟩ := hom.2.2 o ho
  have hI : ∀ i, i < O → z_IO G i := fun i hi => (hof.2.2 i hi).1
  unfold z_IO at hIO
  have hit : ∀ t, t ≤ G 30 o → f_X10_trace_78_27_64 k5 X (nI p) (nI o) (nI t) = k5 (x_up X 80 o (nI t)) (nI (p - t * G 29 o)) (nI (o + 1)) := by
    intro t ht
    have htP : t * G 29 o ≤ 9 * 999 := Nat.mul_le_mul (by omega) (by omega)
    unfold f_X10_trace_78_27_64
    rw [z_wr (by omega) (by omega), z_rd (by omega) (by omega), z_upn (by omega), g29, z_mul, z_posp (by omega) (by omega), z_add]
  have hitM : ∀ t, t ≤ G 30 o → x_wr 8 M 19 (nI o) (nI t) (fun M => x_rd 5512 (M 1) (((nI 5488) + ((nI 3) * (nI o))) + (nI 1)) (fun r111 => x_bn (f_X12_more M (nI 0) (nI p - (nI t * r111))) (fun r114 M => k17 M (nI v) r114 (nI o + (nI 1))))) = k17 (x_up M 19 o (nI t)) (nI v) (nI (p - t * G 29 o)) (nI (o + 1)) := by
    intro t ht
    have htP : t * G 29 o ≤ 9 * 999 := Nat.mul_le_mul (by omega) (by omega)
    rw [z_wr (by omega) (by omega), z_mul, z_add, z_add, z_rd (by omega) (by omega), z_upn (by omega), show 5488 + 3 * o + 1 = 5489 + 3 * o by omega, m29, z_mul, z_more (by omega) (by omega), z_bn, z_add]
  have hwb : ∀ t, t ≤ G 30 o → f_X12_wayBy M (nI o) (nI p) (nI t) = some (nI (z_cap (z_D 100 G O (O - (o + 1)) (p - t * G 29 o)) (t * (100 * G 28 o + 1))), M) := fun t ht => z_wb hom ho (by omega) (by omega) (fun p' hp' => hM (o + 1) (by omega) p' (by omega)) (fun p' => z_D_le _ p')
  have hcb : ∀ t, t ≤ G 30 o → z_cap (z_D 100 G O (O - (o + 1)) (p - t * G 29 o)) (t * (100 * G 28 o + 1)) < 2147483648 := by
    intro t ht
    have h2 : t * (100 * G 28 o + 1) ≤ 9 * 999901 := Nat.mul_le_mul (by omega) (by omega)
    have h3 := z_D_le (K := 100) (G := G) (O := O) (O - (o + 1)) (p - t * G 29 o)
    unfold z_cap
    split <;> omega
  have hDb := z_D_le (K := 128) (G := G) (O := O) (O - o) p
  have hDb' := z_D_le (K := 100) (G := G) (O := O) (O - o) p
  intro t
  induction t with
  | zero =>
    intro fu fu' ht hfu hfu' hno
    obtain ⟨fu, rfl⟩ : ∃ a, fu = a + 1 := ⟨fu - 1, by omega⟩
    obtain ⟨fu', rfl⟩ : ∃ a, fu' = a + 1 := ⟨fu' - 1, by omega⟩
    have hat : z_D 128 G O (O - (o + 1)) (p - 0 * G 29 o) + 0 * (128 * G 28 o + 1) = z_D 128 G O (O - o) p := by
      rw [z_D_s ho]
      rw [z_D_s ho] at hno
      obtain ⟨t, h1, h2⟩ := z_B_at (R := z_D 128 G O (O - (o + 1))) (P := G 29 o) (w := 128 * G 28 o + 1) (n := p) (G 30 o)
      by_cases e : t = 0
      · subst e
        exact h2.symm
      · exact absurd h2.symm (hno t (by omega) h1)
    refine ⟨0, Nat.le_refl _, hat, ?_, ?_⟩
    · rw [f_X10_trace_78_27_38_s, if_pos (by decide)]
      exact hit 0 ht
    · rw [f_X12_findWay_53_s, hwb 0 ht, z_bn, z_mul, z_add, z_rd (by omega) (by omega), hM o (by omega) p hp, if_pos (by rw [(z_fit hO hI ho ht hD).mp hat])]
      exact hitM 0 ht
  | succ t ih =>
    intro fu fu' ht hfu hfu' hno
    obtain ⟨fu, rfl⟩ : ∃ a, fu = a + 1 := ⟨fu - 1, by omega⟩
    obtain ⟨fu', rfl⟩ : ∃ a, fu' = a + 1 := ⟨fu' - 1, by omega⟩
    have htP : (t + 1) * G 29 o ≤ 9 * 999 := Nat.mul_le_mul (by omega) (by omega)
    have htw : (t + 1) * (128 * G 28 o + 1) ≤ 9 * 1279873 := Nat.mul_le_mul (by omega) (by omega)
    have hRb := z_D_le (K := 128) (G := G) (O := O) (O - (o + 1)) (p - (t + 1) * G 29 o)
    have hwx : f_X10_with_78_27 X (nI o) (nI (t + 1)) (nI p) = some (nI (z_D 128 G O (O - (o + 1)) (p - (t + 1) * G 29 o) + (t + 1) * (128 * G 28 o + 1)), X) := by
      unfold f_X10_with_78_27 f_X10_weight_27
      rw [z_rd (by omega) (by omega), g29, z_mul, z_posp (by omega) (by omega)]
      simp (disch := omega) only [z_add, z_mul, z_rd, g28, z_bn]
      rw [show (o + 1) * 3001 + (p - (t + 1) * G 29 o) = 3001 * (o + 1) + (p - (t + 1) * G 29 o) by omega, hX (o + 1) (by omega) _ (by omega), z_add, show G 28 o * 128 + 1 = 128 * G 28 o + 1 by omega]
    have key := z_fit hO hI ho ht hD
    rw [f_X10_trace_78_27_38_s, f_X12_findWay_53_s, hwb (t + 1) ht, z_bn, z_mul, z_add, z_rd (by omega) (by omega), hM o (by omega) p hp, if_neg (by rw [z_le0 (by omega)]; omega), hwx, z_bn, z_m1 (by omega), show t + 1 - 1 = t by omega]
    by_cases h : z_D 128 G O (O - (o + 1)) (p - (t + 1) * G 29 o) + (t + 1) * (128 * G 28 o + 1) = z_D 128 G O (O - o) p
    · refine ⟨t + 1, Nat.le_refl _, h, ?_, ?_⟩
      · rw [if_pos (by rw [h])]
        exact hit (t + 1) ht
      · rw [if_pos (by rw [key.mp h])]
        exact hitM (t + 1) ht
    · rw [if_neg (by rw [z_eq (by omega) (by omega)]; exact h), if_neg (by rw [z_eq (hcb _ ht) (by omega)]; exact fun h' => h (key.mpr h'))]
      obtain ⟨t0, a1, a2, a3, a4⟩ := ih fu fu' (by omega) (by omega) (by omega) (fun t' h1 h2 => by
        by_cases e : t' = t + 1
        · subst e
          exact h
        · exact hno t' (by omega) h2)
      exact ⟨t0, by omega, a2, a3, a4⟩
theorem z_tr {G : z_G} {O n v : Nat} (hn : n ≤ 3000) (hv : v < 1000000000) : ∀ (e o p fu fu' : Nat) (X M : x_M), O = o + e → e < fu → e < fu' → p ≤ n → z_of X G O → z_om2 M G O → z_tx 128 G O n (X 79) → z_tx 100 G O n (M 18) → z_D 128 G O (O - o) p ≠ 1000000000 → ∃ X' M', f_X10_trace_78_27_5 fu X (nI p) (nI o) = some ((), X') ∧ f_X12_findWay_17 fu' M (nI v) (nI p) (nI o) = some (nI v, M') ∧ (∀ q, q ≠ 80 → X' q = X q) ∧ (∀ q, q ≠ 19 → M' q = M q) ∧ (∀ i, o ≤ i → i < O → X' 80 i = M' 19 i) ∧ ∀ i, i < o → X' 80 i = X 80 i ∧ M' 19 i = M 19 i := by
  intro e
  induction e with
  | zero =>
    intro o p fu fu' X M he hfu hfu' hp hof hom hX hM hD
    obtain ⟨fu, rfl⟩ : ∃ a, fu = a + 1 := ⟨fu - 1, by omega⟩
    obtain ⟨fu', rfl⟩ : ∃ a, fu' = a + 1 := ⟨fu' - 1, by omega⟩
    have hO := hof.1
    rw [f_X10_trace_78_27_5_s, f_X12_findWay_17_s, z_gf, hof.2.1, z_rd (by omega) (by omega), hom.2.1]
    simp (disch := omega) only [z_le]
    rw [if_pos (by omega), if_pos (by omega)]
    unfold f_X12_findWay_124
    exact ⟨X, M, rfl, rfl, fun _ _ => rfl, fun _ _ => rfl, fun i h1 h2 => by omega, fun i _ => ⟨rfl, rfl⟩⟩
  | succ e ih =>
    intro o p fu fu' X M he hfu hfu' hp hof hom hX hM hD
    obtain ⟨fu, rfl⟩ : ∃ a, fu = a + 1 := ⟨fu - 1, by omega⟩
    obtain ⟨fu', rfl⟩ : ∃ a, fu' = a + 1 := ⟨fu' - 1, by omega⟩
    have hO := hof.1
    obtain ⟨hIO, g28, g29, g30⟩ := hof.2.2 o (by omega)
    obtain ⟨-, m28, m29, m30⟩ := hom.2.2 o (by omega)
    unfold z_IO at hIO
    obtain ⟨t0, a1, a2, a3, a4⟩ := z_tri (v := v) hof hom (o := o) (by omega) hn hp hX hM hD (k5 := f_X10_trace_78_27_5 fu) (k17 := f_X12_findWay_17 fu') (G 30 o) x_FU x_FU (Nat.le_refl _) (by unfold x_FU; omega) (by unfold x_FU; omega) (fun t' h1 h2 => by omega)
    rw [f_X10_trace_78_27_5_s, f_X12_findWay_17_s, z_gf, hof.2.1, z_rd (by omega) (by omega), hom.2.1]
    simp (disch := omega) only [z_le, z_eq, z_mul, z_add, z_rd]
    rw [if_neg (by omega), if_neg (by omega), if_neg (by omega), g30, show 5488 + 3 * o + 2 = 5490 + 3 * o by omega, m30, show o * 3001 + p = 3001 * o + p by omega, hX o (by omega) p hp, a3, a4]
    have hD' : z_D 128 G O (O - (o + 1)) (p - t0 * G 29 o) ≠ 1000000000 := by
      have hI : ∀ i, i < O → z_IO G i := fun i hi => (hof.2.2 i hi).1
      have r1 := z_rho_D hO hI (O - o) p (by omega)
      have b1 := (z_rho_b (by omega) r1).2.2.2 hD
      omega
    obtain ⟨X', M', b1, b2, b3, b4, b5, b6⟩ := ih (o + 1) (p - t0 * G 29 o) fu fu' (x_up X 80 o (nI t0)) (x_up M 19 o (nI t0)) (by omega) (by omega) (by omega) (by omega) (by
      refine ⟨hof.1, ?_, ?_⟩
      · rw [z_upn (by omega)]
        exact hof.2.1
      · rw [z_upn (by omega), z_upn (by omega), z_upn (by omega)]
        exact hof.2.2) (z_om2_fr hom (z_upn (by omega))) (by rw [z_upn (by omega)]; exact hX) (by rw [z_upn (by omega)]; exact hM) hD'
    refine ⟨X', M', b1, b2, fun q hq => by rw [b3 q hq, z_upn hq], fun q hq => by rw [b4 q hq, z_upn hq], fun i h1 h2 => ?_, fun i hi => ?_⟩
    · by_cases e1 : i = o
      · subst e1
        rw [(b6 i (by omega)).1, (b6 i (by omega)).2, z_upr, z_upr, z_us, z_us]
      · exact b5 i (by omega) h2
    · rw [(b6 i (by omega)).1, (b6 i (by omega)).2, z_upr, z_upr, z_un (by omega), z_un (by omega)]
      exact ⟨rfl, rfl⟩
/-- the class has its table, or makes it -/
theorem z_tab {X : x_M} {G : z_G} {a : Nat} (hof : z_of X G (G 27 3)) (hwy : z_wy X G) (ha : a ≤ 3000) : ∃ X1 n, a ≤ n ∧ n ≤ 3000 ∧ f_X10_isFound_78_27 X (nI a) = f_X10_isFound_78_27_35 X1 (nI a) ∧ (∀ q, q ≠ 78 → q ≠ 79 → X1 q = X q) ∧ X1 78 3 = nI n ∧ z_tx 128 G (G 27 3) n (X1 79) := by
  have mk : ∀ t, t ≤ 3000 → a ≤ t → ∃ X1 n, a ≤ n ∧ n ≤ 3000 ∧ f_X10_isFound_78_27_23 X (nI a) (nI t) = f_X10_isFound_78_27_35 X1 (nI a) ∧ (∀ q, q ≠ 78 → q ≠ 79 → X1 q = X q) ∧ X1 78 3 = nI n ∧ z_tx 128 G (G 27 3) n (X1 79) := by
    intro t ht hat
    unfold f_X10_isFound_78_27_23
    rw [z_pf, z_gf, z_upr, z_us]
    obtain ⟨X1, a1, a2, a3⟩ := z_sv (G := G) (O := G 27 3) ht (X := x_up X 78 3 (nI t)) (by
      refine ⟨hof.1, ?_, ?_⟩
      · rw [z_upn (by omega)]
        exact hof.2.1
      · rw [z_upn (by omega), z_upn (by omega), z_upn (by omega)]
        exact hof.2.2)
    rw [a1, z_bn]
    exact ⟨X1, t, hat, ht, rfl, fun q h1 h2 => by rw [a2 q h2, z_upn h1], by rw [a2 78 (by omega), z_upr, z_us], a3⟩
  unfold f_X10_isFound_78_27
  rw [z_gf, z_gf]
  rcases hwy with h | ⟨n, h1, h2, h3⟩
  · rw [h, if_neg (by
      rw [Int32.le_iff_toInt_le, nI_toInt (by omega), show (-1 : Int32).toInt = -1 by decide]
      omega), if_neg (by decide)]
    exact mk a ha (Nat.le_refl _)
  · rw [h2]
    by_cases h4 : a ≤ n
    · rw [if_pos (by rw [z_le (by omega) (by omega)]; exact h4)]
      exact ⟨X, n, h4, h1, rfl, fun _ _ _ => rfl, h2, h3⟩
    · rw [if_neg (by rw [z_le (by omega) (by omega)]; exact h4), if_pos (by rw [z_0le (by omega)]; trivial)]
      exact mk 3000 (by omega) (by omega)
/-- both find the same way, or both none -/
def z_found (X M X' M' : x_M) (G : z_G) (a : Nat) : Prop := (∀ q, q ≠ 78 → q ≠ 79 → q ≠ 80 → X' q = X q) ∧ (∀ q, q ≠ 18 → q ≠ 19 → M' q = M q) ∧ z_wy X' G ∧ ((f_X10_isFound_78_27 X (nI a) = some (nI 0, X') ∧ f_X12_findWay M (nI a) = some (nI 1000000000, M')) ∨ ∃ v, v < 1000000000 ∧ f_X10_isFound_78_27 X (nI a) = some (nI 1, X') ∧ f_X12_findWay M (nI a) = some (nI v, M') ∧ X' 78 2 = nI (v / 100) ∧ ∀ i, i < G 27 3 → X' 80 i = M' 19 i)
theorem z_fnd {X M : x_M} {G : z_G} {a : Nat} (hof : z_of X G (G 27 3)) (hom : z_om2 M G (G 27 3)) (hwy : z_wy X G) (ha : a ≤ 3000) : ∃ X' M', z_found X M X' M' G a := by
  have hO := hof.1
  have hI : ∀ i, i < G 27 3 → z_IO G i := fun i hi => (hof.2.2 i hi).1
  obtain ⟨X1, n, hn1, hn2, e1, e2, e3, e4⟩ := z_tab hof hwy ha
  obtain ⟨M1, f1, f2, f3⟩ := z_fws ha hom
  have hof1 : z_of X1 G (G 27 3) := by
    refine ⟨hof.1, ?_, ?_⟩
    · rw [e2 27 (by omega) (by omega)]
      exact hof.2.1
    · rw [e2 28 (by omega) (by omega), e2 29 (by omega) (by omega), e2 30 (by omega) (by omega)]
      exact hof.2.2
  have r := z_rho_D hO hI (G 27 3 - 0) a (by omega)
  have b := z_rho_b (by omega) r
  have x0 : X1 79 a = nI (z_D 128 G (G 27 3) (G 27 3 - 0) a) := by
    have := e4 0 (by omega) a hn1
    rw [show 3001 * 0 + a = a by omega] at this
    exact this
  have m0 : M1 18 a = nI (z_D 100 G (G 27 3) (G 27 3 - 0) a) := by
    have := f3 0 (by omega) a (Nat.le_refl _)
    rw [show 3001 * 0 + a = a by omega] at this
    exact this
  by_cases h : z_D 128 G (G 27 3) (G 27 3 - 0) a = 1000000000
  · refine ⟨X1, M1, fun q h1 h2 _ => e2 q h1 h2, fun q h1 _ => f2 q h1, Or.inr ⟨n, hn2, e3, e4⟩, Or.inl ⟨?_, ?_⟩⟩
    · rw [e1]
      unfold f_X10_isFound_78_27_35
      rw [z_rd (by omega) (by omega), x0, h, if_pos rfl]
    · unfold f_X12_findWay
      rw [f1, z_bn, z_rd (by omega) (by omega), m0, b.2.2.1.mp h, show x_FU = x_FU - 1 + 1 from rfl, f_X12_findWay_17_s, z_rd (by omega) (by omega)]
      unfold f_X12_findWay_124
      split
      · rfl
      · rw [if_pos rfl]
  · have b2 := b.2.2.2 h
    obtain ⟨X', M', a1, a2, a3, a4, a5, -⟩ := z_tr (G := G) (O := G 27 3) (n := a) (v := z_D 100 G (G 27 3) (G 27 3 - 0) a) ha (by omega) (G 27 3) 0 a x_FU x_FU (x_up X1 78 2 (nI (z_D 128 G (G 27 3) (G 27 3 - 0) a / 128))) M1 (by omega) (by unfold x_FU; omega) (by unfold x_FU; omega) (Nat.le_refl _) (by
      refine ⟨hof.1, ?_, ?_⟩
      · rw [z_upn (by omega)]
        exact hof1.2.1
      · rw [z_upn (by omega), z_upn (by omega), z_upn (by omega)]
        exact hof1.2.2) (z_om2_fr hom (f2 1 (by omega))) (by
      rw [z_upn (by omega)]
      exact fun o ho p hp => e4 o ho p (by omega)) f3 h
    refine ⟨X', M', fun q h1 h2 h3 => by rw [a3 q h3, z_upn h1, e2 q h1 h2], fun q h1 h2 => by rw [a4 q h2, f2 q h1], Or.inr ⟨n, hn2, ?_, ?_⟩, Or.inr ⟨z_D 100 G (G 27 3) (G 27 3 - 0) a, by omega, ?_, ?_, ?_, ?_⟩⟩
    · rw [a3 78 (by omega), z_upr, z_un (by omega)]
      exact e3
    · rw [a3 79 (by omega), z_upn (by omega)]
      exact e4
    · rw [e1]
      unfold f_X10_isFound_78_27_35 f_X10_trace_78_27
      rw [z_rd (by omega) (by omega), z_rd (by omega) (by omega), x0, if_neg (by rw [z_eq (by omega) (by omega)]; exact h), z_dv (by omega) (by omega), z_div (by omega) (by omega) (by omega), z_pf, a1, z_bn]
    · unfold f_X12_findWay
      rw [f1, z_bn, z_rd (by omega) (by omega), m0, a2]
    · rw [a3 78 (by omega), z_upr, z_us, b2.2.2]
    · exact fun i hi => a5 i (by omega) hi
theorem z_mof {NC : Nat} {X M : x_M} {G H : z_G} {Cd Ch : Nat → Nat → List Int32} (R : z_R NC X M G H Cd Ch) : z_of X G (G 27 3) ∧ z_om2 M G (G 27 3) := by
  obtain ⟨hcl, hrs, hwy⟩ := id R
  obtain ⟨hc, hi, ho, hf, ht⟩ := id hcl
  have hS := hi.1
  unfold z_IS at hS
  have g := z_g27 hc
  refine ⟨⟨by omega, g.1, fun i h => ⟨hi.2.2.2.2.2.2 i h, (z_g28 hc h).1, (z_g29 hc h).1, (z_g30 hc h).1⟩⟩, ⟨by omega, g.2, fun i h => ⟨hi.2.2.2.2.2.2 i h, (z_g28 hc h).2, (z_g29 hc h).2, (z_g30 hc h).2⟩⟩⟩
theorem z_fR {NC : Nat} {X M X' M' : x_M} {G H : z_G} {Cd Ch : Nat → Nat → List Int32} {a : Nat} (R : z_R NC X M G H Cd Ch) (h : z_found X M X' M' G a) : z_R NC X' M' G H Cd Ch := by
  obtain ⟨hcl, hrs, hwy⟩ := R
  obtain ⟨h1, h2, h3, -⟩ := h
  refine ⟨?_, ?_, h3⟩
  · rw [h2 1 (by omega) (by omega)]
    exact z_cl_fr hcl (fun k hk => h1 k (by omega) (by omega) (by omega)) (fun _ _ => rfl)
  · refine z_rs_fr2 hrs (fun k hk => h1 k (by omega) (by omega) (by omega)) (h2 2 (by omega) (by omega)) (by rw [h1 0 (by omega) (by omega) (by omega)]) (by rw [h2 0 (by omega) (by omega)]) (z_sh_fr hrs.2.1 (h1 87 (by omega) (by omega) (by omega)) (h1 88 (by omega) (by omega) (by omega)) (h2 21 (by omega) (by omega)) (h2 22 (by omega) (by omega))) (z_wt_fr hrs.2.2.1 (by rw [h1 0 (by omega) (by omega) (by omega)]) (h1 85 (by omega) (by omega) (by omega)) (by rw [h2 0 (by omega) (by omega)]) (h2 20 (by omega) (by omega))) (z_tp_fr hrs.2.2.2.1 (by rw [h1 81 (by omega) (by omega) (by omega)]) (h1 82 (by omega) (by omega) (by omega)) (by rw [h2 0 (by omega) (by omega)]) (h2 3 (by omega) (by omega)))
theorem z_ite0 {α : Type} {A B : α} : (if nI 0 = 0 then A else B) = A := if_pos (by decide)
theorem z_ite1 {α : Type} {A B : α} : (if nI 1 = 0 then A else B) = B := if_neg (by decide)
theorem e_way {NC : Nat} {X M : x_M} {G H : z_G} {Cd Ch : Nat → Nat → List Int32} (R : z_R NC X M G H Cd Ch) (a1 : Int32) : z_E NC (f_X11_way X a1) (f_X12_way M a1) := by
  unfold f_X11_way f_X12_way
  simp (disch := omega) only [z_in, z_wi, z_bn, z_ite]
  by_cases h1 : a1 < nI 0 ∨ nI 3000 < a1
  · simp only [if_pos h1]
    exact z_same R
  simp only [if_neg h1]
  obtain ⟨k, -, hk, rfl⟩ := z_nat h1 (by decide) (by decide)
  obtain ⟨hof, hom⟩ := z_mof R
  obtain ⟨X', M', hf⟩ := z_fnd hof hom R.2.2 hk
  have R' := z_fR R hf
  rcases hf.2.2.2 with ⟨e1, e2⟩ | ⟨v, hv, e1, e2, e3, e4⟩
  · rw [e1, e2, z_bn, z_bn, z_ite0, if_pos rfl]
    exact z_same R'
  · rw [e1, e2, z_bn, z_bn, z_ite1, if_neg (by rw [z_eq (by omega) (by omega)]; omega), z_gf, e3, z_dv (by omega) (by omega), z_div (by omega) (by omega) (by omega)]
    exact z_same R'
theorem e_taken {NC : Nat} {X M : x_M} {G H : z_G} {Cd Ch : Nat → Nat → List Int32} (R : z_R NC X M G H Cd Ch) (a1 a2 : Int32) : z_E NC (f_X11_taken X a1 a2) (f_X12_taken M a1 a2) := by
  unfold f_X11_taken f_X12_taken f_X11_taken_31 f_X12_taken_28
  obtain ⟨hof, hom⟩ := z_mof R
  have hO := hof.1
  simp (disch := omega) only [z_in, z_wi, z_bn, z_ite, z_gf, z_rd, hof.2.1, hom.2.1]
  by_cases h1 : a1 < nI 0 ∨ nI 3000 < a1
  · simp only [if_pos h1]
    exact z_same R
  simp only [if_neg h1]
  by_cases h2 : a2 < nI 0 ∨ nI (G 27 3) - nI 1 < a2
  · simp only [if_pos h2]
    exact z_same R
  simp only [if_neg h2]
  obtain ⟨k, -, hk, rfl⟩ := z_nat h1 (by decide) (by decide)
  obtain ⟨i, hi, rfl⟩ := z_natm h2 (by omega)
  obtain ⟨X', M', hf⟩ := z_fnd hof hom R.2.2 hk
  have R' := z_fR R hf
  rcases hf.2.2.2 with ⟨e1, e2⟩ | ⟨v, hv, e1, e2, e3, e4⟩
  · rw [e1, e2, z_bn, z_bn, z_ite0, if_pos rfl]
    exact z_same R'
  · rw [e1, e2, z_bn, z_bn, z_ite1, if_neg (by rw [z_eq (by omega) (by omega)]; omega), z_rd (by omega) (by omega), z_rd (by omega) (by omega), e4 i hi]
    exact z_same R'
theorem z_ck {X M : x_M} {O w : Nat} (hO : O ≤ 8) (hw : w ≤ 16) (hM : M 1 9 = nI O) (h1 : ∀ i, i < w → X 85 i = M 20 i) (h2 : ∀ i, i < O → X 80 i = M 19 i) : ∀ (e j fu fu' : Nat), w = j + e → j ≤ O → e < fu → e < fu' → ∃ r, f_X11_check_62 fu X (nI w) (nI O) (nI j) (nI j) = some (r, X) ∧ f_X12_check_40 fu' M (nI w) (nI j) = some (r, M) := by
  intro e
  induction e with
  | zero =>
    intro j fu fu' he hj hfu hfu'
    obtain ⟨fu, rfl⟩ : ∃ a, fu = a + 1 := ⟨fu - 1, by omega⟩
    obtain ⟨fu', rfl⟩ : ∃ a, fu' = a + 1 := ⟨fu' - 1, by omega⟩
    rw [f_X11_check_62_s, f_X12_check_40_s]
    unfold f_X11_check_103 f_X11_check_119
    simp (disch := omega) only [z_le, z_eq, z_rd, hM, z_add]
    have c1 : w ≤ j := by omega
    have c2 : j = w := by omega
    simp only [if_pos c1, if_pos c2]
    by_cases h : O ≤ w
    · have c3 : j = O := by omega
      simp only [if_pos c3, if_pos h]
      exact ⟨_, rfl, rfl⟩
    · have c3 : ¬ j = O := by omega
      simp only [if_neg c3, if_neg h]
      rw [c2]
      exact ⟨_, rfl, rfl⟩
  | succ e ih =>
    intro j fu fu' he hj hfu hfu'
    obtain ⟨fu, rfl⟩ : ∃ a, fu = a + 1 := ⟨fu - 1, by omega⟩
    obtain ⟨fu', rfl⟩ : ∃ a, fu' = a + 1 := ⟨fu' - 1, by omega⟩
    rw [f_X11_check_62_s, f_X12_check_40_s]
    unfold f_X11_check_103 f_X11_check_119 f_X12_check_71
    simp (disch := omega) only [z_le, z_eq, z_rd, hM, z_add]
    have hjw : ¬ j = w := by omega
    have hwj : ¬ w ≤ j := by omega
    simp only [if_neg hjw, if_neg hwj]
    by_cases h : O ≤ j
    · simp only [if_pos h]
      exact ⟨_, rfl, rfl⟩
    · simp only [if_neg h]
      rw [h1 j (by omega), h2 j (by omega)]
      by_cases h3 : M 20 j = M 19 j
      · rw [if_pos h3, if_pos h3]
        exact ih (j + 1) fu fu' (by omega) (by omega) (by omega) (by omega)
      · rw [if_neg h3, if_neg h3]
        exact ⟨_, rfl, rfl⟩
theorem e_check {NC : Nat} {X M : x_M} {G H : z_G} {Cd Ch : Nat → Nat → List Int32} (R : z_R NC X M G H Cd Ch) (a1 : Int32) : z_E NC (f_X11_check X a1) (f_X12_check M a1) := by
  obtain ⟨hcl, hrs, hwy⟩ := id R
  obtain ⟨hc, hi, ho, hf, ht⟩ := id hcl
  have hS := hi.1
  unfold z_IS at hS
  obtain ⟨w, w1, w2, w3, w4⟩ := hrs.2.2.1
  have R1 : z_R NC (x_up X 0 9 (nI 0)) (x_up M 0 35 (nI 0)) G H Cd Ch := by
    refine ⟨?_, ?_, z_wy_fr hwy (z_upn (by omega)) (z_upn (by omega)) rfl (fun _ => ⟨rfl, rfl, rfl⟩)⟩
    · rw [z_upn (by omega)]
      exact z_cl_fr hcl (fun k hk => z_upn (by omega)) (fun _ _ => rfl)
    · refine z_rs_fr2 hrs (fun k hk => z_upn (by omega)) (z_upn (by omega)) (by rw [z_upr, z_un (by omega)]) (by rw [z_upr, z_un (by omega)]) (z_sh_fr hrs.2.1 (z_upn (by omega)) (z_upn (by omega)) (z_upn (by omega)) (z_upn (by omega))) ⟨0, by omega, by rw [z_upr, z_us], by rw [z_upr, z_us], fun i hi => by omega⟩ (z_tp_fr hrs.2.2.2.1 (by rw [z_upn (by omega)]) (z_upn (by omega)) (by rw [z_upr, z_un (by omega)]) (z_upn (by omega)))
  unfold f_X11_check f_X12_check
  rw [z_gf, z_pf, z_gf, z_pf, w2, w3]
  have u85 : (x_up X 0 9 (nI 0)) 85 = X 85 := z_upn (by omega)
  have u20 : (x_up M 0 35 (nI 0)) 20 = M 20 := z_upn (by omega)
  rw [← u85, ← u20] at w4
  generalize x_up X 0 9 (nI 0) = X1 at *
  generalize x_up M 0 35 (nI 0) = M1 at *
  simp (disch := omega) only [z_in, z_wi, z_bn, z_ite]
  by_cases h1 : a1 < nI 0 ∨ nI 3000 < a1
  · simp only [if_pos h1]
    exact z_same R1
  simp only [if_neg h1]
  obtain ⟨k, -, hk, rfl⟩ := z_nat h1 (by decide) (by decide)
  obtain ⟨hof, hom⟩ := z_mof R1
  obtain ⟨X', M', hf⟩ := z_fnd hof hom R1.2.2 hk
  have R' := z_fR R1 hf
  rcases hf.2.2.2 with ⟨e1, e2⟩ | ⟨v, hv, e1, e2, e3, e4⟩
  · rw [e1, e2, z_bn, z_bn, z_ite0, if_pos rfl]
    exact z_same R'
  · obtain ⟨hof', hom'⟩ := z_mof R'
    rw [e1, e2, z_bn, z_bn, z_ite1, if_neg (by rw [z_eq (by omega) (by omega)]; omega), z_gf, hof'.2.1]
    obtain ⟨r, q1, q2⟩ := z_ck (X := X') (M := M') hof'.1 w1 hom'.2.1 (fun i hi => by rw [hf.1 85 (by omega) (by omega) (by omega), hf.2.1 20 (by omega) (by omega)]; exact w4 i hi) e4 w 0 x_FU x_FU (by omega) (by omega) (by unfold x_FU; omega) (by unfold x_FU; omega)
    rw [q1, q2]
    exact z_same R'
