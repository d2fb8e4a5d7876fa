/-! ===== THE WAY: the class's table ===== -/
def z_pr (k : Nat) : Int32 := if k = 0 then -1 else nI (k - 1)
theorem z_pr_a {k : Nat} : nI k + (-1) = z_pr k := by
  unfold z_pr
  by_cases h : k = 0
  · subst h
    decide
  · rw [if_neg h, z_m1 (by omega)]
theorem z_pr_s {k : Nat} : nI k - nI 1 = z_pr k := by
  unfold z_pr
  by_cases h : k = 0
  · subst h
    decide
  · rw [if_neg h, z_sub (by omega)]
/-- what is known of the OFFERS -/
def z_of (X : x_M) (G : z_G) (O : Nat) : Prop := O ≤ 8 ∧ X 27 3 = nI O ∧ (∀ i, i < O → z_IO G i ∧ X 28 i = nI (G 28 i) ∧ X 29 i = nI (G 29 i) ∧ X 30 i = nI (G 30 i))
theorem z_of_fr {X X' : x_M} {G : z_G} {O : Nat} (h : z_of X G O) (hX : ∀ q, q ≠ 79 → X' q = X q) : z_of X' G O := by
  obtain ⟨h1, h2, h3⟩ := h
  refine ⟨h1, by rw [hX 27 (by omega)]; exact h2, fun i hi => ?_⟩
  rw [hX 28 (by omega), hX 29 (by omega), hX 30 (by omega)]
  exact h3 i hi
theorem zw_ap {most p w : Nat} {f : Nat → Nat} (hm : most ≤ 3000) (hp : 1 ≤ p) (hp2 : p < 1000000) (hw : w ≤ 1000000000000000000) (hf : ∀ n, f n ≤ 4611686018427387904) : ∀ (n fu : Nat) (X : x_M), n < fu → n ≤ most → (∀ j, j ≤ n → x_jg (X 79) j = lN (f j)) → (∀ j, n < j → j ≤ most → x_jg (X 79) j = lN (min (f j) (f (j - p) + w))) → ∃ X', f_X10_addPack_3 fu X (nI p) (lN w) (nI n) = some ((), X') ∧ (∀ k, k ≠ 79 → X' k = X k) ∧ x_jg (X' 79) 0 = lN (f 0) ∧ ∀ j, 1 ≤ j → j ≤ most → x_jg (X' 79) j = lN (min (f j) (f (j - p) + w)) := by
  intro n
  induction n with
  | zero =>
    intro fu X hfu hn h1 h2
    obtain ⟨fu, rfl⟩ : ∃ a, fu = a + 1 := ⟨fu - 1, by omega⟩
    rw [f_X10_addPack_3_s, if_pos (by decide)]
    exact ⟨X, rfl, fun _ _ => rfl, h1 0 (Nat.le_refl _), fun j q1 q2 => h2 j q1 q2⟩
  | succ n ih =>
    intro fu X hfu hn h1 h2
    obtain ⟨fu, rfl⟩ : ∃ a, fu = a + 1 := ⟨fu - 1, by omega⟩
    have b1 := hf (n + 1)
    have key : ∀ t : Nat, t = n + 1 - p → ∃ X', f_X10_addPack_26 (f_X10_addPack_3 fu) X (nI p) (lN w) (nI (n + 1)) (nI t) = some ((), X') ∧ (∀ k, k ≠ 79 → X' k = X k) ∧ x_jg (X' 79) 0 = lN (f 0) ∧ ∀ j, 1 ≤ j → j ≤ most → x_jg (X' 79) j = lN (min (f j) (f (j - p) + w)) := by
      intro t ht
      unfold f_X10_addPack_26 f_X10_addPack_53
      have b3 := hf t
      rw [z_rl (by omega) (by omega), z_rl (by omega) (by omega), h1 t (by omega), h1 (n + 1) (Nat.le_refl _), lN_add]
      simp (disch := omega) only [z_lge2, z_wl]
      rw [z_m1 (by omega), show n + 1 - 1 = n by omega]
      by_cases hc : f (n + 1) ≤ f t + w
      · rw [if_pos hc]
        refine ih fu X (by omega) (by omega) (fun j hj => h1 j (by omega)) (fun j q1 q2 => ?_)
        by_cases e : j = n + 1
        · subst e
          rw [h1 (n + 1) (Nat.le_refl _), Nat.min_eq_left (by rw [← ht]; exact hc)]
        · exact h2 j (by omega) q2
      · rw [if_neg hc]
        obtain ⟨X', e1, e2, e4, e5⟩ := ih fu (va_up X 79 (x_ju (X 79) (n + 1) (lN (f t + w)))) (by omega) (by omega) (fun j hj => by rw [z_vr, z_jun (by omega)]; exact h1 j (by omega)) (fun j q1 q2 => by
          rw [z_vr]
          by_cases e : j = n + 1
          · subst e
            rw [z_jus, Nat.min_eq_right (by rw [← ht]; omega), ht]
          · rw [z_jun (by omega)]
            exact h2 j (by omega) q2)
        exact ⟨X', e1, fun k hk => by rw [e2 k hk, z_vn hk], e4, e5⟩
    rw [f_X10_addPack_3_s]
    simp (disch := omega) only [z_le0, z_le]
    rw [if_neg (by omega)]
    by_cases hp3 : n + 1 ≤ p
    · rw [if_pos hp3]
      exact key 0 (by omega)
    · rw [if_neg hp3, z_sub (by omega)]
      exact key _ rfl
/-- an OFFER's packs -/
theorem zw_pk {G : z_G} {o most P T : Nat} {R : Nat → Nat} (ho : o < 8) (hmo : most ≤ 3000) (hP : 1 ≤ P ∧ P ≤ 999) (hC : G 28 o ≤ 9999) (hT : 1 ≤ T ∧ T ≤ 9) (hR : ∀ n, R n ≤ 4611686018427387904) {k21 : x_M → Int32 → Int32 → Option (Unit × x_M)} : ∀ (e pk k fu : Nat) (X : x_M), (pk = 1 ∨ pk = 2 ∨ pk = 4 ∨ pk = 8 ∨ pk = 16) → k = min (pk - 1) T → 17 ≤ pk + e → e < fu → X 30 o = nI T → X 29 o = nI P → X 28 o = nI (G 28 o) → (∀ n, n ≤ most → x_jg (X 79) n = lN (z_B R P (zw_W G o) k n)) → ∃ X', f_X10_solve_78_27_40 k21 fu X (nI most) (nI o) (nI (T - k)) (nI pk) = k21 X' (nI most) (nI (o + 1)) ∧ (∀ q, q ≠ 79 → X' q = X q) ∧ ∀ n, n ≤ most → x_jg (X' 79) n = lN (z_B R P (zw_W G o) T n) := by
  intro e
  induction e with
  | zero =>
    intro pk k fu X hpk hk he hfu hX30 hX29 hX28 hX
    omega
  | succ e ih =>
    intro pk k fu X hpk hk he hfu hX30 hX29 hX28 hX
    obtain ⟨fu, rfl⟩ : ∃ a, fu = a + 1 := ⟨fu - 1, by omega⟩
    rw [f_X10_solve_78_27_40_s, z_rd (by omega) (by omega), hX30]
    simp (disch := omega) only [z_lt]
    by_cases h : T < pk
    · rw [if_pos h, z_add]
      have : k = T := by omega
      subst this
      exact ⟨X, rfl, fun _ _ => rfl, hX⟩
    · rw [if_neg h, z_rd (by omega) (by omega), hX29, zw_wX ho hX28 hC, z_bn]
      have hk1 : k = pk - 1 := by omega
      have hW := zw_W_b (G := G) (o := o) hC
      have hB : ∀ n, z_B R P (zw_W G o) k n ≤ 4611686018427387904 := fun n => Nat.le_trans (z_B_leR _) (hR n)
      have fin : ∀ c : Nat, 1 ≤ c → c ≤ k + 1 → c ≤ 9 → c ≤ T - k → k + c = min (pk * 2 - 1) T → ∃ X', x_bn (f_X10_addPack X (nI most) (nI c * nI P) ((nI c).toInt64 * lN (zw_W G o))) (fun _ M => f_X10_solve_78_27_40 k21 fu M (nI most) (nI o) (nI (T - k) - nI c) (nI pk * nI 2)) = k21 X' (nI most) (nI (o + 1)) ∧ (∀ q, q ≠ 79 → X' q = X q) ∧ ∀ n, n ≤ most → x_jg (X' 79) n = lN (z_B R P (zw_W G o) T n) := by
        intro c c1 c2 c4 c5 c3
        have hcP : 1 ≤ c * P ∧ c * P ≤ 9 * 999 := ⟨Nat.mul_le_mul c1 hP.1, Nat.mul_le_mul (by omega) hP.2⟩
        have hcw : c * zw_W G o ≤ 9 * 10995111062791520 := Nat.mul_le_mul (by omega) hW
        unfold f_X10_addPack
        rw [nI_l (by omega), lN_mul, z_mul, z_mul, z_sub (by omega)]
        obtain ⟨X1, a1, a2, a4, a5⟩ := zw_ap (most := most) (p := c * P) (w := c * zw_W G o) (f := z_B R P (zw_W G o) k) hmo hcP.1 (by omega) (by omega) hB most x_FU X (by unfold x_FU; omega) (Nat.le_refl _) hX (fun j q1 q2 => by omega)
        rw [a1, z_bn, show T - k - c = T - (k + c) by omega]
        obtain ⟨X2, b1, b2, b4⟩ := ih (pk * 2) (k + c) fu X1 (by omega) c3 (by omega) (by omega) (by rw [a2 30 (by omega)]; exact hX30) (by rw [a2 29 (by omega)]; exact hX29) (by rw [a2 28 (by omega)]; exact hX28) (fun n hn => by
          rw [← z_B_pack c2]
          by_cases h0 : n = 0
          · subst h0
            rw [a4, Nat.zero_sub, Nat.min_eq_left (by omega)]
          · rw [a5 n (by omega) hn])
        exact ⟨X2, b1, fun q hq => by rw [b2 q hq, a2 q hq], b4⟩
      by_cases hl : T - k < pk
      · simp only [if_pos hl]
        exact fin (T - k) (by omega) (by omega) (by omega) (by omega) (by omega)
      · simp only [if_neg hl]
        exact fin pk (by omega) (by omega) (by omega) (by omega) (by omega)
theorem zw_sv21 {G : z_G} {O most : Nat} (hmo : most ≤ 3000) : ∀ (e o fu : Nat) (X : x_M), O = o + e → e < fu → z_of X G O → (∀ p, p ≤ most → x_jg (X 79) p = lN (zw_F G o p)) → ∃ X', f_X10_solve_78_27_21 fu X (nI most) (nI o) = some ((), X') ∧ (∀ q, q ≠ 79 → X' q = X q) ∧ ∀ p, p ≤ most → x_jg (X' 79) p = lN (zw_F G O p) := by
  intro e
  induction e with
  | zero =>
    intro o fu X he hfu hof hX
    obtain ⟨fu, rfl⟩ : ∃ a, fu = a + 1 := ⟨fu - 1, by omega⟩
    have hO := hof.1
    have e : O = o := by omega
    subst e
    rw [f_X10_solve_78_27_21_s, z_gf, hof.2.1, if_pos (by rw [z_le (by omega) (by omega)]; omega)]
    exact ⟨X, rfl, fun _ _ => rfl, hX⟩
  | succ e ih =>
    intro o fu X he hfu hof hX
    obtain ⟨fu, rfl⟩ : ∃ a, fu = a + 1 := ⟨fu - 1, by omega⟩
    have hO := hof.1
    obtain ⟨hIO, g28, g29, g30⟩ := hof.2.2 o (by omega)
    unfold z_IO at hIO
    rw [f_X10_solve_78_27_21_s, z_gf, hof.2.1, if_neg (by rw [z_le (by omega) (by omega)]; omega), z_rd (by omega) (by omega), g30]
    obtain ⟨X1, a1, a2, a4⟩ := zw_pk (G := G) (o := o) (most := most) (P := G 29 o) (T := G 30 o) (R := zw_F G o) (by omega) hmo (by omega) (by omega) (by omega) (fun n => zw_F_le _ n) (k21 := f_X10_solve_78_27_21 fu) 16 1 0 x_FU X (by omega) (by omega) (by omega) (by unfold x_FU; omega) g30 g29 g28 (fun n hn => hX n hn)
    rw [Nat.sub_zero] at a1
    rw [a1]
    obtain ⟨X2, b1, b2, b3⟩ := ih (o + 1) fu X1 (by omega) (by omega) (z_of_fr hof a2) (fun p hp => a4 p hp)
    exact ⟨X2, b1, fun q hq => by rw [b2 q hq, a2 q hq], b3⟩
theorem zw_fill {v : Int64} : ∀ (e j fu : Nat) (X : x_M), 3001 = j + e → e < fu → ∃ X', f_J7_fill_d0a16_79_6 fu X v (nI j) (nI 3001) = some ((), X') ∧ (∀ q, q ≠ 79 → X' q = X q) ∧ (∀ i, i < j → x_jg (X' 79) i = x_jg (X 79) i) ∧ ∀ i, j ≤ i → i < 3001 → x_jg (X' 79) i = v := by
  intro e
  induction e with
  | zero =>
    intro j fu X hj hfu
    obtain ⟨fu, rfl⟩ : ∃ a, fu = a + 1 := ⟨fu - 1, by omega⟩
    rw [f_J7_fill_d0a16_79_6_s, if_pos (by rw [z_le (by omega) (by omega)]; omega)]
    exact ⟨X, rfl, fun _ _ => rfl, fun _ _ => rfl, fun i h1 h2 => by omega⟩
  | succ e ih =>
    intro j fu X hj hfu
    obtain ⟨fu, rfl⟩ : ∃ a, fu = a + 1 := ⟨fu - 1, by omega⟩
    rw [f_J7_fill_d0a16_79_6_s, if_neg (by rw [z_le (by omega) (by omega)]; omega), z_wl (by omega) (by omega), z_add]
    obtain ⟨X', e1, e2, e3, e4⟩ := ih (j + 1) fu (va_up X 79 (x_ju (X 79) j v)) (by omega) (by omega)
    refine ⟨X', e1, fun q hq => by rw [e2 q hq, z_vn hq], fun i hi => by rw [e3 i (by omega), z_vr, z_jun (by omega)], fun i h1 h2 => ?_⟩
    by_cases h : i = j
    · subst h
      rw [e3 i (by omega), z_vr, z_jus]
    · exact e4 i (by omega) h2
theorem zw_sv {G : z_G} {O most : Nat} (hmo : most ≤ 3000) {X : x_M} (hof : z_of X G O) : ∃ X', f_X10_solve_78_27 X (nI most) = some ((), X') ∧ (∀ q, q ≠ 79 → X' q = X q) ∧ ∀ p, p ≤ most → x_jg (X' 79) p = lN (zw_F G O p) := by
  have hO := hof.1
  obtain ⟨X1, a1, a2, -, a3⟩ := zw_fill (v := 4611686018427387904) 3001 0 x_FU X (by omega) (by unfold x_FU; omega)
  have y1 : ∀ q, q ≠ 79 → (va_up X1 79 (x_ju (X1 79) 0 2576980377)) q = X q := fun q hq => by rw [z_vn hq, a2 q hq]
  obtain ⟨X2, b1, b2, b3⟩ := zw_sv21 (G := G) (O := O) hmo O 0 x_FU (va_up X1 79 (x_ju (X1 79) 0 2576980377)) (by omega) (by unfold x_FU; omega) (z_of_fr hof y1) (fun p hp => by
    rw [z_vr, zw_F]
    by_cases h : p = 0
    · subst h
      rw [z_jus]
      rfl
    · rw [z_jun h, a3 p (by omega) (by omega), if_neg h]
      rfl)
  unfold f_X10_solve_78_27 f_J7_fill_d0a16_79
  rw [a1, z_bn, z_wl (by omega) (by omega), b1]
  exact ⟨X2, rfl, fun q hq => by rw [b2 q hq, y1 q hq], b3⟩
/-! ===== THE WAY: the reference's table ===== -/
def z_om2 (M : x_M) (G : z_G) (O : Nat) : Prop := O ≤ 8 ∧ M 1 9 = nI O ∧ (∀ i, i < O → z_IO G i ∧ M 1 (5488 + 3 * i) = nI (G 28 i) ∧ M 1 (5489 + 3 * i) = nI (G 29 i) ∧ M 1 (5490 + 3 * i) = nI (G 30 i))
theorem z_om2_fr {M M' : x_M} {G : z_G} {O : Nat} (h : z_om2 M G O) (hM : M' 1 = M 1) : z_om2 M' G O := by
  unfold z_om2 at h ⊢
  rw [hM]
  exact h
def z_cap (r x : Nat) : Nat := if r = 1000000000 then 1000000000 else r + x
theorem z_more {M : x_M} {n t : Nat} (hn : n ≤ 3000) (ht : t < 1000000) : f_X12_more M (nI 0) (nI n - nI t) = some (nI (n - t), M) := by
  unfold f_X12_more
  by_cases h : t ≤ n
  · rw [z_sub h]
    simp (disch := omega) only [z_le]
    rw [if_pos (by omega)]
  · have h1 : nI n - nI t < 0 := pk_sneg (by omega) (by omega)
    rw [if_neg (fun h2 => by
      rw [Int32.le_iff_toInt_le] at h2
      rw [Int32.lt_iff_toInt_lt] at h1
      rw [show (nI 0).toInt = 0 by decide] at h2
      rw [show (0 : Int32).toInt = 0 by decide] at h1
      omega), show n - t = 0 by omega]
theorem z_wb {M : x_M} {G : z_G} {O o n t : Nat} {R : Nat → Nat} (hom : z_om2 M G O) (ho : o < O) (hn : n ≤ 3000) (ht : t ≤ 9) (hR : ∀ p, p ≤ n → M 18 (3001 * (o + 1) + p) = nI (R p)) (hb : ∀ p, R p ≤ 1000000000) : f_X12_wayBy M (nI o) (nI n) (nI t) = some (nI (z_cap (R (n - t * G 29 o)) (t * (100 * G 28 o + 1))), M) := by
  have hO := hom.1
  obtain ⟨hIO, g28, g29, g30⟩ := hom.2.2 o ho
  unfold z_IO at hIO
  have htP : t * G 29 o ≤ 9 * 999 := Nat.mul_le_mul ht (by omega)
  have htw : t * (100 * G 28 o + 1) ≤ 9 * 999901 := Nat.mul_le_mul ht (by omega)
  unfold f_X12_wayBy
  simp (disch := omega) only [z_mul, z_add, z_rd]
  rw [show 5488 + 3 * o + 1 = 5489 + 3 * o by omega, g29, z_mul, z_more hn (by omega), z_bn]
  simp (disch := omega) only [z_add, z_rd]
  have hbb := hb (n - t * G 29 o)
  rw [hR _ (by omega), g28]
  simp (disch := omega) only [z_eq, z_mul, z_add]
  unfold z_cap
  by_cases h : R (n - t * G 29 o) = 1000000000
  · rw [if_pos h, if_pos h]
  · rw [if_neg h, if_neg h]
theorem z_less {M : x_M} {a b : Nat} (ha : a < 2147483648) (hb : b < 2147483648) : f_X12_less M (nI a) (nI b) = some (nI (min a b), M) := by
  unfold f_X12_less
  simp only [z_le hb ha]
  by_cases h : b ≤ a
  · rw [if_pos h, Nat.min_eq_right h]
  · rw [if_neg h, Nat.min_eq_left (by omega)]
def z_bst (R : Nat → Nat) (P w n : Nat) : Nat → Nat
  | 0 => 1000000000
  | t + 1 => z_B R P w t n
theorem z_bst_s {R : Nat → Nat} {P w n : Nat} (hb : ∀ p, R p ≤ 1000000000) (t : Nat) : min (z_bst R P w n t) (z_cap (R (n - t * P)) (t * w)) = z_bst R P w n (t + 1) := by
  unfold z_cap
  match t with
  | 0 =>
    rw [z_bst, z_bst, z_B, Nat.zero_mul, Nat.zero_mul, Nat.sub_zero]
    have := hb n
    by_cases h : R n = 1000000000
    · rw [if_pos h, h, Nat.min_self]
    · rw [if_neg h, Nat.min_eq_right (by omega)]
      rfl
  | t + 1 =>
    rw [z_bst, z_bst, z_B]
    have h1 := z_B_le (R := R) (P := P) (w := w) (n := n) t 0 (by omega)
    rw [Nat.zero_mul, Nat.zero_mul, Nat.sub_zero, Nat.add_zero] at h1
    have h2 := hb n
    by_cases h : R (n - (t + 1) * P) = 1000000000
    · rw [if_pos h, h, Nat.min_eq_left (by omega), Nat.min_eq_left (by omega)]
    · rw [if_neg h]
theorem z_bst_le {R : Nat → Nat} {P w n : Nat} (hb : ∀ p, R p ≤ 1000000000) (t : Nat) : z_bst R P w n t ≤ 1000000000 := by
  match t with
  | 0 => exact Nat.le_refl _
  | t + 1 =>
    rw [z_bst]
    have h1 := z_B_le (R := R) (P := P) (w := w) (n := n) t 0 (by omega)
    rw [Nat.zero_mul, Nat.zero_mul, Nat.sub_zero, Nat.add_zero] at h1
    exact Nat.le_trans h1 (hb n)
theorem z_fw69 {M : x_M} {G : z_G} {O o n most : Nat} {R : Nat → Nat} (hom : z_om2 M G O) (ho : o < O) (hn : n ≤ 3000) (hmo : most ≤ 3000) (hR : ∀ p, p ≤ n → M 18 (3001 * (o + 1) + p) = nI (R p)) (hb : ∀ p, R p ≤ 1000000000) {k48 : x_M → Int32 → Int32 → Option (Unit × x_M)} {k55 : x_M → Int32 → Int32 → Int32 → Option (Unit × x_M)} : ∀ (e t fu : Nat), G 30 o + 1 = t + e → e < fu → f_X12_findWays_69 k48 k55 fu M (nI most) (nI o) (nI n) (nI (z_bst R (G 29 o) (100 * G 28 o + 1) n t)) (nI t) = k55 (x_up M 18 (3001 * o + n) (nI (z_B R (G 29 o) (100 * G 28 o + 1) (G 30 o) n))) (nI most) (nI o) (nI (n + 1)) := by
  have hO := hom.1
  obtain ⟨hIO, g28, g29, g30⟩ := hom.2.2 o ho
  unfold z_IO at hIO
  intro e
  induction e with
  | zero =>
    intro t fu ht hfu
    obtain ⟨fu, rfl⟩ : ∃ a, fu = a + 1 := ⟨fu - 1, by omega⟩
    rw [f_X12_findWays_69_s]
    simp (disch := omega) only [z_mul, z_add, z_rd]
    rw [show 5488 + 3 * o + 2 = 5490 + 3 * o by omega, g30]
    simp (disch := omega) only [z_lt]
    rw [if_pos (by omega), z_wr (by omega) (by omega), show t = G 30 o + 1 by omega]
    rfl
  | succ e ih =>
    intro t fu ht hfu
    obtain ⟨fu, rfl⟩ : ∃ a, fu = a + 1 := ⟨fu - 1, by omega⟩
    have h1 := z_bst_le (R := R) (P := G 29 o) (w := 100 * G 28 o + 1) (n := n) hb t
    have h2 : t * (100 * G 28 o + 1) ≤ 9 * 999901 := Nat.mul_le_mul (by omega) (by omega)
    have h3 := hb (n - t * G 29 o)
    rw [f_X12_findWays_69_s]
    simp (disch := omega) only [z_mul, z_add, z_rd]
    rw [show 5488 + 3 * o + 2 = 5490 + 3 * o by omega, g30]
    simp (disch := omega) only [z_lt]
    rw [if_neg (by omega), z_wb hom ho hn (by omega) hR hb, z_bn, z_less (by omega) (by unfold z_cap; split <;> omega), z_bn, z_bst_s hb]
    exact ih (t + 1) fu (by omega) (by omega)
theorem z_fw55 {G : z_G} {O o most : Nat} {R : Nat → Nat} (ho : o < O) (hmo : most ≤ 3000) (hb : ∀ p, R p ≤ 1000000000) {k48 : x_M → Int32 → Int32 → Option (Unit × x_M)} : ∀ (e n fu : Nat) (M : x_M), most + 1 = n + e → e < fu → z_om2 M G O → (∀ p, p ≤ most → M 18 (3001 * (o + 1) + p) = nI (R p)) → ∃ M', f_X12_findWays_55 k48 fu M (nI most) (nI o) (nI n) = k48 M' (nI most) (z_pr o) ∧ (∀ q, q ≠ 18 → M' q = M q) ∧ ∀ i, M' 18 i = if 3001 * o + n ≤ i ∧ i ≤ 3001 * o + most then nI (z_B R (G 29 o) (100 * G 28 o + 1) (G 30 o) (i - 3001 * o)) else M 18 i := by
  intro e
  induction e with
  | zero =>
    intro n fu M hn hfu hom hR
    obtain ⟨fu, rfl⟩ : ∃ a, fu = a + 1 := ⟨fu - 1, by omega⟩
    rw [f_X12_findWays_55_s]
    simp (disch := omega) only [z_lt]
    rw [if_pos (by omega), z_pr_a]
    exact ⟨M, rfl, fun _ _ => rfl, fun i => by rw [if_neg (by omega)]⟩
  | succ e ih =>
    intro n fu M hn hfu hom hR
    obtain ⟨fu, rfl⟩ : ∃ a, fu = a + 1 := ⟨fu - 1, by omega⟩
    have hO := hom.1
    have hIO := (hom.2.2 o ho).1
    unfold z_IO at hIO
    rw [f_X12_findWays_55_s]
    simp (disch := omega) only [z_lt]
    rw [if_neg (by omega)]
    have h69 := z_fw69 (R := R) hom ho (show n ≤ 3000 by omega) hmo (fun p hp => hR p (by omega)) hb (k48 := k48) (k55 := f_X12_findWays_55 k48 fu) (G 30 o + 1) 0 x_FU (by omega) (by unfold x_FU; omega)
    rw [show (nI 1000000000) = nI (z_bst R (G 29 o) (100 * G 28 o + 1) n 0) from rfl, h69]
    obtain ⟨M', e1, e2, e3⟩ := ih (n + 1) fu (x_up M 18 (3001 * o + n) (nI (z_B R (G 29 o) (100 * G 28 o + 1) (G 30 o) n))) (by omega) (by omega) (z_om2_fr hom (z_upn (by omega))) (fun p hp => by rw [z_upr, z_un (by omega)]; exact hR p hp)
    refine ⟨M', e1, fun q hq => by rw [e2 q hq, z_upn hq], fun i => ?_⟩
    rw [e3 i, z_upr]
    by_cases h : i = 3001 * o + n
    · subst h
      rw [if_neg (by omega), if_pos (by omega), z_us, show 3001 * o + n - 3001 * o = n by omega]
    · by_cases h2 : 3001 * o + (n + 1) ≤ i ∧ i ≤ 3001 * o + most
      · rw [if_pos h2, if_pos (by omega)]
      · rw [if_neg h2, if_neg (by omega), z_un h]
theorem z_fw48 {G : z_G} {O most : Nat} (hmo : most ≤ 3000) : ∀ (k fu : Nat) (M : x_M), k ≤ O → k < fu → z_om2 M G O → (∀ o, k ≤ o → o ≤ O → ∀ p, p ≤ most → M 18 (3001 * o + p) = nI (z_D 100 G O (O - o) p)) → ∃ M', f_X12_findWays_48 fu M (nI most) (z_pr k) = some ((), M') ∧ (∀ q, q ≠ 18 → M' q = M q) ∧ ∀ o, o ≤ O → ∀ p, p ≤ most → M' 18 (3001 * o + p) = nI (z_D 100 G O (O - o) p) := by
  intro k
  induction k with
  | zero =>
    intro fu M hk hfu hom hM
    obtain ⟨fu, rfl⟩ : ∃ a, fu = a + 1 := ⟨fu - 1, by omega⟩
    rw [f_X12_findWays_48_s, if_pos (by decide)]
    exact ⟨M, rfl, fun _ _ => rfl, fun o ho => hM o (by omega) ho⟩
  | succ k ih =>
    intro fu M hk hfu hom hM
    obtain ⟨fu, rfl⟩ : ∃ a, fu = a + 1 := ⟨fu - 1, by omega⟩
    have hO := hom.1
    have e : z_pr (k + 1) = nI k := by unfold z_pr; rw [if_neg (by omega)]; rfl
    rw [f_X12_findWays_48_s, e]
    simp (disch := omega) only [z_lt0, if_false]
    obtain ⟨M1, a1, a2, a3⟩ := z_fw55 (G := G) (O := O) (o := k) (most := most) (R := z_D 100 G O (O - (k + 1))) (by omega) hmo (fun p => z_D_le _ p) (k48 := f_X12_findWays_48 fu) (most + 1) 0 x_FU M (by omega) (by unfold x_FU; omega) hom (fun p hp => hM (k + 1) (Nat.le_refl _) (by omega) p hp)
    rw [a1]
    obtain ⟨M2, b1, b2, b3⟩ := ih fu M1 (by omega) (by omega) (z_om2_fr hom (a2 1 (by omega))) (fun o o1 o2 p hp => by
      rw [a3]
      by_cases eo : o = k
      · subst eo
        rw [if_pos (by omega), z_D_s (by omega), show 3001 * o + p - 3001 * o = p by omega]
      · rw [if_neg (by omega)]
        exact hM o (by omega) o2 p hp)
    exact ⟨M2, b1, fun q hq => by rw [b2 q hq, a2 q hq], b3⟩
theorem z_fw10 {O most : Nat} (hO : O ≤ 8) (hmo : most ≤ 3000) : ∀ (e n fu : Nat) (M : x_M), most + 1 = n + e → e < fu → ∃ M', f_X12_findWays_10 fu M (nI most) (nI O) (nI n) = f_X12_findWays_48 x_FU M' (nI most) (z_pr O) ∧ (∀ q, q ≠ 18 → M' q = M q) ∧ ∀ i, M' 18 i = if 3001 * O + n ≤ i ∧ i ≤ 3001 * O + most then nI (if i = 3001 * O then 0 else 1000000000) else M 18 i := by
  intro e
  induction e with
  | zero =>
    intro n fu M hn hfu
    obtain ⟨fu, rfl⟩ : ∃ a, fu = a + 1 := ⟨fu - 1, by omega⟩
    rw [f_X12_findWays_10_s]
    simp (disch := omega) only [z_lt]
    rw [if_pos (by omega), z_pr_s]
    exact ⟨M, rfl, fun _ _ => rfl, fun i => by rw [if_neg (by omega)]⟩
  | succ e ih =>
    intro n fu M hn hfu
    obtain ⟨fu, rfl⟩ : ∃ a, fu = a + 1 := ⟨fu - 1, by omega⟩
    have step : ∀ v : Nat, v = (if n = 0 then 0 else 1000000000) → ∃ M', f_X12_findWays_37 (f_X12_findWays_10 fu) M (nI most) (nI O) (nI n) (nI (3001 * O + n)) (nI v) = f_X12_findWays_48 x_FU M' (nI most) (z_pr O) ∧ (∀ q, q ≠ 18 → M' q = M q) ∧ ∀ i, M' 18 i = if 3001 * O + n ≤ i ∧ i ≤ 3001 * O + most then nI (if i = 3001 * O then 0 else 1000000000) else M 18 i := by
      intro v hv
      unfold f_X12_findWays_37
      rw [z_wr (by omega) (by omega), z_add]
      obtain ⟨M', e1, e2, e3⟩ := ih (n + 1) fu (x_up M 18 (3001 * O + n) (nI v)) (by omega) (by omega)
      refine ⟨M', e1, fun q hq => by rw [e2 q hq, z_upn hq], fun i => ?_⟩
      rw [e3 i, z_upr]
      by_cases h : i = 3001 * O + n
      · subst h
        rw [if_neg (by omega), if_pos (by omega), z_us, hv]
        by_cases h0 : n = 0
        · rw [if_pos h0, if_pos (by omega)]
        · rw [if_neg h0, if_neg (by omega)]
      · by_cases h2 : 3001 * O + (n + 1) ≤ i ∧ i ≤ 3001 * O + most
        · rw [if_pos h2, if_pos (show 3001 * O + n ≤ i ∧ i ≤ 3001 * O + most by omega)]
        · rw [if_neg h2, if_neg (by omega), z_un h]
    rw [f_X12_findWays_10_s]
    simp (disch := omega) only [z_lt]
    rw [if_neg (by omega)]
    simp (disch := omega) only [z_mul, z_add, z_eq0]
    by_cases h0 : n = 0
    · rw [if_pos h0]
      exact step 0 (by rw [if_pos h0])
    · rw [if_neg h0]
      exact step 1000000000 (by rw [if_neg h0])
theorem z_fws {G : z_G} {O most : Nat} (hmo : most ≤ 3000) {M : x_M} (hom : z_om2 M G O) : ∃ M', f_X12_findWays M (nI most) = some ((), M') ∧ (∀ q, q ≠ 18 → M' q = M q) ∧ ∀ o, o ≤ O → ∀ p, p ≤ most → M' 18 (3001 * o + p) = nI (z_D 100 G O (O - o) p) := by
  have hO := hom.1
  unfold f_X12_findWays
  simp (disch := omega) only [z_rd, hom.2.1]
  obtain ⟨M1, a1, a2, a3⟩ := z_fw10 hO hmo (most + 1) 0 x_FU M (by omega) (by unfold x_FU; omega)
  rw [a1]
  obtain ⟨M2, b1, b2, b3⟩ := z_fw48 (G := G) hmo O x_FU M1 (Nat.le_refl _) (by unfold x_FU; omega) (z_om2_fr hom (a2 1 (by omega))) (fun o o1 o2 p hp => by
    have : o = O := by omega
    subst this
    rw [a3, if_pos (by omega), Nat.sub_self, z_D]
    by_cases h : p = 0
    · rw [if_pos (by omega), if_pos h]
    · rw [if_neg (by omega), if_neg h])
  exact ⟨M2, b1, fun q hq => by rw [b2 q hq, a2 q hq], b3⟩
