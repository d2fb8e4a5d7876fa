/-! ===== THE WAY: the reference traces it, the class tells it ===== -/
def z_tx (K : Nat) (G : z_G) (O n : Nat) (row : Nat → Int32) : Prop := ∀ o, o ≤ O → ∀ p, p ≤ n → row (3001 * o + p) = nI (z_D K G O (O - o) p)
theorem zw_cap {r x D : Nat} (hr : r ≤ 1000000000) (hD : D ≤ 1000000000) (hne : D ≠ 1000000000) : z_cap r x = D ↔ r + x = D := by
  unfold z_cap
  by_cases h : r = 1000000000
  · rw [if_pos h]
    omega
  · rw [if_neg h]
theorem zw_tri {M : x_M} {G : z_G} {O o p n v : Nat} (hom : z_om2 M G O) (ho : o < O) (hn : n ≤ 3000) (hp : p ≤ n) (hM : z_tx 100 G O n (M 18)) (hne : z_D 100 G O (O - o) p ≠ 1000000000) {k17 : x_M → Int32 → Int32 → Int32 → Option (Int32 × x_M)} : ∀ (t fu' : Nat), t ≤ G 30 o → t < fu' → (∀ t', t < t' → t' ≤ G 30 o → ¬ z_D 100 G O (O - (o + 1)) (p - t' * G 29 o) + t' * (100 * G 28 o + 1) = z_D 100 G O (O - o) p) → ∃ t0, t0 ≤ t ∧ z_D 100 G O (O - (o + 1)) (p - t0 * G 29 o) + t0 * (100 * G 28 o + 1) = z_D 100 G O (O - o) p ∧ (∀ t', t0 < t' → t' ≤ G 30 o → ¬ z_D 100 G O (O - (o + 1)) (p - t' * G 29 o) + t' * (100 * G 28 o + 1) = z_D 100 G O (O - o) p) ∧ f_X12_findWay_53 k17 fu' M (nI v) (nI p) (nI o) (nI t) = k17 (x_up M 19 o (nI t0)) (nI v) (nI (p - t0 * G 29 o)) (nI (o + 1)) := by
  have hO := hom.1
  obtain ⟨hIO, m28, m29, m30⟩ := hom.2.2 o ho
  unfold z_IO at hIO
  have hitM : ∀ t, t ≤ G 30 o → x_wr 8 M 19 (nI o) (nI t) (fun M => x_rd 5512 (M 1) (((nI 5488) + ((nI 3) * (nI o))) + (nI 1)) (fun r111 => x_bn (f_X12_more M (nI 0) (nI p - (nI t * r111))) (fun r114 M => k17 M (nI v) r114 (nI o + (nI 1))))) = k17 (x_up M 19 o (nI t)) (nI v) (nI (p - t * G 29 o)) (nI (o + 1)) := by
    intro t ht
    have htP : t * G 29 o ≤ 9 * 999 := Nat.mul_le_mul (by omega) (by omega)
    rw [z_wr (by omega) (by omega), z_mul, z_add, z_add, z_rd (by omega) (by omega), z_upn (by omega), show 5488 + 3 * o + 1 = 5489 + 3 * o by omega, m29, z_mul, z_more (by omega) (by omega), z_bn, z_add]
  have hwb : ∀ t, t ≤ G 30 o → f_X12_wayBy M (nI o) (nI p) (nI t) = some (nI (z_cap (z_D 100 G O (O - (o + 1)) (p - t * G 29 o)) (t * (100 * G 28 o + 1))), M) := fun t ht => z_wb hom ho (by omega) (by omega) (fun p' hp' => hM (o + 1) (by omega) p' (by omega)) (fun p' => z_D_le _ p')
  have hcb : ∀ t, t ≤ G 30 o → z_cap (z_D 100 G O (O - (o + 1)) (p - t * G 29 o)) (t * (100 * G 28 o + 1)) < 2147483648 := by
    intro t ht
    have h2 : t * (100 * G 28 o + 1) ≤ 9 * 999901 := Nat.mul_le_mul (by omega) (by omega)
    have h3 := z_D_le (K := 100) (G := G) (O := O) (O - (o + 1)) (p - t * G 29 o)
    unfold z_cap
    split <;> omega
  have hDb' := z_D_le (K := 100) (G := G) (O := O) (O - o) p
  intro t
  induction t with
  | zero =>
    intro fu' ht hfu' hno
    obtain ⟨fu', rfl⟩ : ∃ a, fu' = a + 1 := ⟨fu' - 1, by omega⟩
    have hat : z_D 100 G O (O - (o + 1)) (p - 0 * G 29 o) + 0 * (100 * G 28 o + 1) = z_D 100 G O (O - o) p := by
      rw [z_D_s ho]
      rw [z_D_s ho] at hno
      obtain ⟨t, h1, h2⟩ := z_B_at (R := z_D 100 G O (O - (o + 1))) (P := G 29 o) (w := 100 * G 28 o + 1) (n := p) (G 30 o)
      by_cases e : t = 0
      · subst e
        exact h2.symm
      · exact absurd h2.symm (hno t (by omega) h1)
    refine ⟨0, Nat.le_refl _, hat, hno, ?_⟩
    rw [f_X12_findWay_53_s, hwb 0 ht, z_bn, z_mul, z_add, z_rd (by omega) (by omega), hM o (by omega) p hp, if_pos (by rw [(zw_cap (z_D_le _ _) hDb' hne).mpr hat])]
    exact hitM 0 ht
  | succ t ih =>
    intro fu' ht hfu' hno
    obtain ⟨fu', rfl⟩ : ∃ a, fu' = a + 1 := ⟨fu' - 1, by omega⟩
    rw [f_X12_findWay_53_s, hwb (t + 1) ht, z_bn, z_mul, z_add, z_rd (by omega) (by omega), hM o (by omega) p hp, z_m1 (by omega), show t + 1 - 1 = t by omega]
    by_cases h : z_D 100 G O (O - (o + 1)) (p - (t + 1) * G 29 o) + (t + 1) * (100 * G 28 o + 1) = z_D 100 G O (O - o) p
    · refine ⟨t + 1, Nat.le_refl _, h, hno, ?_⟩
      rw [if_pos (by rw [(zw_cap (z_D_le _ _) hDb' hne).mpr h])]
      exact hitM (t + 1) ht
    · rw [if_neg (by rw [z_eq (hcb _ ht) (by omega)]; exact fun h' => h ((zw_cap (z_D_le _ _) hDb' hne).mp h'))]
      obtain ⟨t0, a1, a2, a3, a4⟩ := ih fu' (by omega) (by omega) (fun t' h1 h2 => by
        by_cases e : t' = t + 1
        · subst e
          exact h
        · exact hno t' (by omega) h2)
      exact ⟨t0, by omega, a2, a3, a4⟩
/-- the digits of the takings from OFFER o on -/
def zw_g (f : Nat → Nat) : Nat → Nat → Nat
  | _, 0 => 0
  | o, e + 1 => f o * 16 ^ (7 - o) + zw_g f (o + 1) e
theorem zw_tr {G : z_G} {O n v : Nat} (hn : n ≤ 3000) (hv : v < 1000000000) : ∀ (e o p fu' : Nat) (M : x_M), O = o + e → e < fu' → p ≤ n → z_om2 M G O → z_tx 100 G O n (M 18) → z_D 100 G O (O - o) p ≠ 1000000000 → ∃ M', f_X12_findWay_17 fu' M (nI v) (nI p) (nI o) = some (nI v, M') ∧ (∀ q, q ≠ 19 → M' q = M q) ∧ (∀ i, i < o → M' 19 i = M 19 i) ∧ (∀ i, o ≤ i → i < O → ∃ t, t ≤ 9 ∧ M' 19 i = nI t) ∧ ∃ c k, k ≤ 9 * e ∧ zw_V G O (zw_F G 0) (O - o) p + zw_g (fun i => (M' 19 i).toNatClampNeg) o e = 2576980377 + 1099511627776 * c + 4294967296 * k ∧ z_D 100 G O (O - o) p = 100 * c + k := by
  intro e
  induction e with
  | zero =>
    intro o p fu' M he hfu' hp hom hM hD
    obtain ⟨fu', rfl⟩ : ∃ a, fu' = a + 1 := ⟨fu' - 1, by omega⟩
    have hO := hom.1
    have eo : O = o := by omega
    subst eo
    rw [Nat.sub_self, z_D] at hD
    have hp0 : p = 0 := by
      by_cases h : p = 0
      · exact h
      · rw [if_neg h] at hD
        exact absurd rfl hD
    subst hp0
    rw [f_X12_findWay_17_s, z_rd (by omega) (by omega), hom.2.1]
    simp (disch := omega) only [z_le]
    rw [if_pos (by omega)]
    unfold f_X12_findWay_124
    refine ⟨M, rfl, fun _ _ => rfl, fun _ _ => rfl, fun i h1 h2 => by omega, 0, 0, by omega, ?_, ?_⟩
    · rw [Nat.sub_self]
      rfl
    · rw [Nat.sub_self]
      rfl
  | succ e ih =>
    intro o p fu' M he hfu' hp hom hM hD
    obtain ⟨fu', rfl⟩ : ∃ a, fu' = a + 1 := ⟨fu' - 1, by omega⟩
    have hO := hom.1
    have ho : o < O := by omega
    have hI : ∀ i, i < O → z_IO G i := fun i hi => (hom.2.2 i hi).1
    obtain ⟨hIO, m28, m29, m30⟩ := hom.2.2 o ho
    unfold z_IO at hIO
    obtain ⟨t0, a1, a2, a3, a4⟩ := zw_tri (v := v) hom ho hn hp hM hD (k17 := f_X12_findWay_17 fu') (G 30 o) x_FU (Nat.le_refl _) (by unfold x_FU; omega) (fun t' h1 h2 => by omega)
    have st := zw_step hO hI ho a1 hD a2 a3
    rw [f_X12_findWay_17_s, z_rd (by omega) (by omega), hom.2.1]
    simp (disch := omega) only [z_le, z_eq, z_mul, z_add, z_rd]
    rw [if_neg (by omega), if_neg (by omega), show 5488 + 3 * o + 2 = 5490 + 3 * o by omega, m30, a4]
    have hDl := z_D_le (K := 100) (G := G) (O := O) (O - o) p
    have hD' : z_D 100 G O (O - (o + 1)) (p - t0 * G 29 o) ≠ 1000000000 := by omega
    obtain ⟨M', b2, b4, b6, b5, c, k, b7, b8, b9⟩ := ih (o + 1) (p - t0 * G 29 o) fu' (x_up M 19 o (nI t0)) (by omega) (by omega) (by omega) (z_om2_fr hom (z_upn (by omega))) (by rw [z_upn (by omega)]; exact hM) hD'
    have h19 : M' 19 o = nI t0 := by rw [b6 o (by omega), z_upr, z_us]
    refine ⟨M', b2, fun q hq => by rw [b4 q hq, z_upn hq], fun i hi => by rw [b6 i (by omega), z_upr, z_un (by omega)], fun i h1 h2 => ?_, c + t0 * G 28 o, k + t0, by omega, ?_, ?_⟩
    · by_cases e1 : i = o
      · subst e1
        exact ⟨t0, by omega, h19⟩
      · exact b5 i (by omega) h2
    · have b := z_16 (o := o)
      have e1 : t0 * zw_W G o + t0 * 16 ^ (7 - o) = 1099511627776 * (t0 * G 28 o) + 4294967296 * t0 := by
        unfold zw_W
        rw [← Nat.mul_add, show 1099511627776 * G 28 o + (4294967296 - 16 ^ (7 - o)) + 16 ^ (7 - o) = 1099511627776 * G 28 o + 4294967296 by omega, Nat.mul_add, Nat.mul_left_comm, Nat.mul_comm t0 4294967296]
      rw [zw_g, st]
      show _ + ((M' 19 o).toNatClampNeg * 16 ^ (7 - o) + _) = _
      rw [h19, nI_clamp (by omega)]
      omega
    · have e2 : t0 * (100 * G 28 o + 1) = 100 * (t0 * G 28 o) + t0 := by
        rw [Nat.mul_add, Nat.mul_left_comm, Nat.mul_one]
      omega
theorem zw_ex {f : Nat → Nat} {O : Nat} (hO : O ≤ 8) (hf : ∀ i, i < O → f i ≤ 9) : ∃ d : Nat → Nat, (∀ i, d i ≤ 9) ∧ (∀ i, i < O → d i = f i) ∧ zw_g f 0 O = 268435456 * d 0 + 16777216 * d 1 + 1048576 * d 2 + 65536 * d 3 + 4096 * d 4 + 256 * d 5 + 16 * d 6 + d 7 := by
  refine ⟨fun i => if i < O then f i else 0, fun i => ?_, fun i hi => if_pos hi, ?_⟩
  · by_cases h : i < O
    · simp only [if_pos h]
      exact hf i h
    · simp only [if_neg h]
      omega
  · rcases (show O = 0 ∨ O = 1 ∨ O = 2 ∨ O = 3 ∨ O = 4 ∨ O = 5 ∨ O = 6 ∨ O = 7 ∨ O = 8 by omega) with rfl | rfl | rfl | rfl | rfl | rfl | rfl | rfl | rfl <;> simp [zw_g] <;> omega
theorem zw_dig {x S A d B : Nat} (h : x = S * (16 * A + d) + B) (hB : B < S) (hd : d < 16) : x / S % 16 = d := by
  rw [h, Nat.mul_add_div (by omega), Nat.div_eq_of_lt hB]
  omega
theorem zw_dg {d : Nat → Nat} {x c k i : Nat} (hd : ∀ i, d i ≤ 9) (hk : k ≤ 72) (hi : i < 8) (h : x + (268435456 * d 0 + 16777216 * d 1 + 1048576 * d 2 + 65536 * d 3 + 4096 * d 4 + 256 * d 5 + 16 * d 6 + d 7) = 2576980377 + 1099511627776 * c + 4294967296 * k) : x / 16 ^ (7 - i) % 16 = 9 - d i := by
  rcases (show i = 0 ∨ i = 1 ∨ i = 2 ∨ i = 3 ∨ i = 4 ∨ i = 5 ∨ i = 6 ∨ i = 7 by omega) with rfl | rfl | rfl | rfl | rfl | rfl | rfl | rfl
  · exact zw_dig (A := 1 * (256 * c + k)) (B := 16777216 * (9 - d 1) + 1048576 * (9 - d 2) + 65536 * (9 - d 3) + 4096 * (9 - d 4) + 256 * (9 - d 5) + 16 * (9 - d 6) + 1 * (9 - d 7)) (by have := hd 0; have := hd 1; have := hd 2; have := hd 3; have := hd 4; have := hd 5; have := hd 6; have := hd 7; omega) (by omega) (by omega)
  · exact zw_dig (A := 16 * (256 * c + k) + 1 * (9 - d 0)) (B := 1048576 * (9 - d 2) + 65536 * (9 - d 3) + 4096 * (9 - d 4) + 256 * (9 - d 5) + 16 * (9 - d 6) + 1 * (9 - d 7)) (by have := hd 0; have := hd 1; have := hd 2; have := hd 3; have := hd 4; have := hd 5; have := hd 6; have := hd 7; omega) (by omega) (by omega)
  · exact zw_dig (A := 256 * (256 * c + k) + 16 * (9 - d 0) + 1 * (9 - d 1)) (B := 65536 * (9 - d 3) + 4096 * (9 - d 4) + 256 * (9 - d 5) + 16 * (9 - d 6) + 1 * (9 - d 7)) (by have := hd 0; have := hd 1; have := hd 2; have := hd 3; have := hd 4; have := hd 5; have := hd 6; have := hd 7; omega) (by omega) (by omega)
  · exact zw_dig (A := 4096 * (256 * c + k) + 256 * (9 - d 0) + 16 * (9 - d 1) + 1 * (9 - d 2)) (B := 4096 * (9 - d 4) + 256 * (9 - d 5) + 16 * (9 - d 6) + 1 * (9 - d 7)) (by have := hd 0; have := hd 1; have := hd 2; have := hd 3; have := hd 4; have := hd 5; have := hd 6; have := hd 7; omega) (by omega) (by omega)
  · exact zw_dig (A := 65536 * (256 * c + k) + 4096 * (9 - d 0) + 256 * (9 - d 1) + 16 * (9 - d 2) + 1 * (9 - d 3)) (B := 256 * (9 - d 5) + 16 * (9 - d 6) + 1 * (9 - d 7)) (by have := hd 0; have := hd 1; have := hd 2; have := hd 3; have := hd 4; have := hd 5; have := hd 6; have := hd 7; omega) (by omega) (by omega)
  · exact zw_dig (A := 1048576 * (256 * c + k) + 65536 * (9 - d 0) + 4096 * (9 - d 1) + 256 * (9 - d 2) + 16 * (9 - d 3) + 1 * (9 - d 4)) (B := 16 * (9 - d 6) + 1 * (9 - d 7)) (by have := hd 0; have := hd 1; have := hd 2; have := hd 3; have := hd 4; have := hd 5; have := hd 6; have := hd 7; omega) (by omega) (by omega)
  · exact zw_dig (A := 16777216 * (256 * c + k) + 1048576 * (9 - d 0) + 65536 * (9 - d 1) + 4096 * (9 - d 2) + 256 * (9 - d 3) + 16 * (9 - d 4) + 1 * (9 - d 5)) (B := 1 * (9 - d 7)) (by have := hd 0; have := hd 1; have := hd 2; have := hd 3; have := hd 4; have := hd 5; have := hd 6; have := hd 7; omega) (by omega) (by omega)
  · exact zw_dig (A := 268435456 * (256 * c + k) + 16777216 * (9 - d 0) + 1048576 * (9 - d 1) + 65536 * (9 - d 2) + 4096 * (9 - d 3) + 256 * (9 - d 4) + 16 * (9 - d 5) + 1 * (9 - d 6)) (B := 0) (by have := hd 0; have := hd 1; have := hd 2; have := hd 3; have := hd 4; have := hd 5; have := hd 6; have := hd 7; omega) (by omega) (by omega)
theorem zw_tO {X : x_M} {x a i d : Nat} (ha : a ≤ 3000) (hi : i < 8) (hx : x ≤ 4611686018427387904) (h79 : x_jg (X 79) a = lN x) (hd : d ≤ 9) (h : x / 16 ^ (7 - i) % 16 = 9 - d) : f_X10_timesOf X (nI a) (nI i) = some (nI d, X) := by
  have e := z_pl8 ⟨i, hi⟩
  unfold f_X10_timesOf f_X10_placeOf
  rw [z_rl (by omega) (by omega), h79, z_bn, e]
  have h1 : x / 2 ^ (4 * (7 - i)) < 9223372036854775808 := Nat.lt_of_le_of_lt (Nat.div_le_self x _) (by omega)
  show some (nI 9 - ((lN x >>> lN (4 * (7 - i))) &&& 15).toInt32, X) = _
  rw [z_lsr (by omega) (by omega), z_land15 h1, lN_i, Nat.pow_mul, show (2 : Nat) ^ 4 = 16 from rfl, h, z_sub (by omega), show 9 - (9 - d) = d by omega]
theorem zw_cT {X : x_M} {x a : Nat} (ha : a ≤ 3000) (hx : x ≤ 4611686018427387904) (h79 : x_jg (X 79) a = lN x) : f_X10_coinsTo X (nI a) = some (nI (x / 1099511627776), X) := by
  unfold f_X10_coinsTo x_dl
  rw [z_rl (by omega) (by omega), h79, if_neg (by decide), show (1099511627776 : Int64) = lN 1099511627776 from rfl, pk_lDiv (by omega) (by omega) (by omega), lN_i]
/-- the class has its row, or makes it -/
theorem z_tab {X : x_M} {G : z_G} {a : Nat} (hof : z_of X G (G 27 3)) (hwy : z_wy X G) (ha : a ≤ 3000) : ∃ X1 n, a ≤ n ∧ n ≤ 3000 ∧ f_X10_isFound_78_27 X (nI a) = f_X10_isFound_78_27_35 X1 (nI a) ∧ (∀ q, q ≠ 78 → q ≠ 79 → X1 q = X q) ∧ X1 78 1 = nI n ∧ ∀ p, p ≤ n → x_jg (X1 79) p = lN (zw_F G (G 27 3) p) := by
  have mk : ∀ t, t ≤ 3000 → a ≤ t → ∃ X1 n, a ≤ n ∧ n ≤ 3000 ∧ f_X10_isFound_78_27_23 X (nI a) (nI t) = f_X10_isFound_78_27_35 X1 (nI a) ∧ (∀ q, q ≠ 78 → q ≠ 79 → X1 q = X q) ∧ X1 78 1 = nI n ∧ ∀ p, p ≤ n → x_jg (X1 79) p = lN (zw_F G (G 27 3) p) := by
    intro t ht hat
    unfold f_X10_isFound_78_27_23
    rw [z_pf, z_gf, z_upr, z_us]
    obtain ⟨X1, a1, a2, a3⟩ := zw_sv (G := G) (O := G 27 3) ht (X := x_up X 78 1 (nI t)) (by
      refine ⟨hof.1, ?_, ?_⟩
      · rw [z_upn (by omega)]
        exact hof.2.1
      · rw [z_upn (by omega), z_upn (by omega), z_upn (by omega)]
        exact hof.2.2)
    rw [a1, z_bn]
    exact ⟨X1, t, hat, ht, rfl, fun q h1 h2 => by rw [a2 q h2, z_upn h1], by rw [a2 78 (by omega), z_upr, z_us], a3⟩
  unfold f_X10_isFound_78_27
  rw [z_gf, z_gf]
  rcases hwy with h | ⟨n, h1, h2, h3⟩
  · rw [h, if_neg (by
      rw [Int32.le_iff_toInt_le, nI_toInt (by omega), show (-1 : Int32).toInt = -1 by decide]
      omega), if_neg (by decide)]
    exact mk a ha (Nat.le_refl _)
  · rw [h2]
    by_cases h4 : a ≤ n
    · rw [if_pos (by rw [z_le (by omega) (by omega)]; exact h4)]
      exact ⟨X, n, h4, h1, rfl, fun _ _ _ => rfl, h2, h3⟩
    · rw [if_neg (by rw [z_le (by omega) (by omega)]; exact h4), if_pos (by rw [z_0le (by omega)]; trivial)]
      exact mk 3000 (by omega) (by omega)
/-- both find the same way, or both none -/
def z_found (X M X' M' : x_M) (G : z_G) (a : Nat) : Prop := (∀ q, q ≠ 78 → q ≠ 79 → X' q = X q) ∧ (∀ q, q ≠ 18 → q ≠ 19 → M' q = M q) ∧ z_wy X' G ∧ ((f_X10_isFound_78_27 X (nI a) = some (nI 0, X') ∧ f_X12_findWay M (nI a) = some (nI 1000000000, M')) ∨ ∃ v, v < 1000000000 ∧ f_X10_isFound_78_27 X (nI a) = some (nI 1, X') ∧ f_X12_findWay M (nI a) = some (nI v, M') ∧ f_X10_coinsTo X' (nI a) = some (nI (v / 100), X') ∧ ∀ i, i < G 27 3 → f_X10_timesOf X' (nI a) (nI i) = some (M' 19 i, X'))
theorem z_fnd {X M : x_M} {G : z_G} {a : Nat} (hof : z_of X G (G 27 3)) (hom : z_om2 M G (G 27 3)) (hwy : z_wy X G) (ha : a ≤ 3000) : ∃ X' M', z_found X M X' M' G a := by
  have hO := hof.1
  have hI : ∀ i, i < G 27 3 → z_IO G i := fun i hi => (hof.2.2 i hi).1
  obtain ⟨X1, n, hn1, hn2, e1, e2, e3, e4⟩ := z_tab hof hwy ha
  obtain ⟨M1, f1, f2, f3⟩ := z_fws ha hom
  have r := zw_rho_V hO hI (G 27 3) a (Nat.le_refl _)
  rw [← zw_all] at r
  have x0 := e4 a hn1
  have hle := zw_F_le (G := G) (G 27 3) a
  have m0 : M1 18 a = nI (z_D 100 G (G 27 3) (G 27 3 - 0) a) := by
    have := f3 0 (by omega) a (Nat.le_refl _)
    rw [show 3001 * 0 + a = a by omega] at this
    exact this
  have hxD : zw_F G (G 27 3) a = 4611686018427387904 ↔ z_D 100 G (G 27 3) (G 27 3 - 0) a = 1000000000 := by
    rw [Nat.sub_zero]
    rcases r with ⟨r1, r2⟩ | ⟨c, k, g, r1, r2, r3, r4, r5⟩
    · omega
    · omega
  have hDl := z_D_le (K := 100) (G := G) (O := G 27 3) (G 27 3 - 0) a
  by_cases h : z_D 100 G (G 27 3) (G 27 3 - 0) a = 1000000000
  · refine ⟨X1, M1, fun q h1 h2 => e2 q h1 h2, fun q h1 _ => f2 q h1, Or.inr ⟨n, hn2, e3, e4⟩, Or.inl ⟨?_, ?_⟩⟩
    · rw [e1]
      unfold f_X10_isFound_78_27_35
      rw [z_rl (by omega) (by omega), x0, hxD.mpr h, if_pos (by decide)]
    · unfold f_X12_findWay
      rw [f1, z_bn, z_rd (by omega) (by omega), m0, h, show x_FU = x_FU - 1 + 1 from rfl, f_X12_findWay_17_s, z_rd (by omega) (by omega)]
      unfold f_X12_findWay_124
      split
      · rfl
      · rw [if_pos rfl]
  · obtain ⟨M', a2, a4, -, a5, c, k, a6, a7, a8⟩ := zw_tr (G := G) (O := G 27 3) (n := a) (v := z_D 100 G (G 27 3) (G 27 3 - 0) a) ha (by omega) (G 27 3) 0 a x_FU M1 (by omega) (by unfold x_FU; omega) (Nat.le_refl _) (z_om2_fr hom (f2 1 (by omega))) f3 h
    rw [Nat.sub_zero, ← zw_all] at a7
    have hx : zw_F G (G 27 3) a ≠ 4611686018427387904 := fun q => h (hxD.mp q)
    obtain ⟨d, d1, d2, d3⟩ := zw_ex (f := fun i => (M' 19 i).toNatClampNeg) hO (fun i hi => by
      obtain ⟨t, t1, t2⟩ := a5 i (by omega) hi
      show (M' 19 i).toNatClampNeg ≤ 9
      rw [t2, nI_clamp (by omega)]
      exact t1)
    rw [d3] at a7
    refine ⟨X1, M', fun q h1 h2 => e2 q h1 h2, fun q h1 h2 => by rw [a4 q h2, f2 q h1], Or.inr ⟨n, hn2, e3, e4⟩, Or.inr ⟨z_D 100 G (G 27 3) (G 27 3 - 0) a, by omega, ?_, ?_, ?_, ?_⟩⟩
    · rw [e1]
      unfold f_X10_isFound_78_27_35
      rw [z_rl (by omega) (by omega), x0, if_neg]
      rw [show (4611686018427387904 : Int64) = lN 4611686018427387904 from rfl, z_leq2 (by omega) (by omega)]
      exact hx
    · unfold f_X12_findWay
      rw [f1, z_bn, z_rd (by omega) (by omega), m0, a2]
    · rw [zw_cT ha hle x0, a8]
      congr 3
      have := d1 0
      have := d1 1
      have := d1 2
      have := d1 3
      have := d1 4
      have := d1 5
      have := d1 6
      have := d1 7
      omega
    · intro i hi
      obtain ⟨t, t1, t2⟩ := a5 i (by omega) hi
      have hdi : d i = t := by
        rw [d2 i hi]
        show (M' 19 i).toNatClampNeg = t
        rw [t2, nI_clamp (by omega)]
      rw [t2]
      refine zw_tO ha (by omega) hle x0 t1 ?_
      rw [← hdi]
      exact zw_dg d1 (by omega) (by omega) a7
theorem z_mof {NC : Nat} {X M : x_M} {G H : z_G} {Cd Ch : Nat → Nat → List Int32} (R : z_R NC X M G H Cd Ch) : z_of X G (G 27 3) ∧ z_om2 M G (G 27 3) := by
  obtain ⟨hcl, hrs, hwy⟩ := id R
  obtain ⟨hc, hi, ho, hf, ht⟩ := id hcl
  have hS := hi.1
  unfold z_IS at hS
  have g := z_g27 hc
  refine ⟨⟨by omega, g.1, fun i h => ⟨hi.2.2.2.2.2.2 i h, (z_g28 hc h).1, (z_g29 hc h).1, (z_g30 hc h).1⟩⟩, ⟨by omega, g.2, fun i h => ⟨hi.2.2.2.2.2.2 i h, (z_g28 hc h).2, (z_g29 hc h).2, (z_g30 hc h).2⟩⟩⟩
theorem z_fR {NC : Nat} {X M X' M' : x_M} {G H : z_G} {Cd Ch : Nat → Nat → List Int32} {a : Nat} (R : z_R NC X M G H Cd Ch) (h : z_found X M X' M' G a) : z_R NC X' M' G H Cd Ch := by
  obtain ⟨hcl, hrs, hwy⟩ := R
  obtain ⟨h1, h2, h3, -⟩ := h
  refine ⟨?_, ?_, h3⟩
  · rw [h2 1 (by omega) (by omega)]
    exact z_cl_fr hcl (fun k hk => h1 k (by omega) (by omega)) (fun _ _ => rfl)
  · refine z_rs_fr2 hrs (fun k hk => h1 k (by omega) (by omega)) (h2 2 (by omega) (by omega)) (by rw [h1 0 (by omega) (by omega)]) (by rw [h2 0 (by omega) (by omega)]) (z_sh_fr hrs.2.1 (h1 86 (by omega) (by omega)) (h1 87 (by omega) (by omega)) (h2 21 (by omega) (by omega)) (h2 22 (by omega) (by omega))) (z_wt_fr hrs.2.2.1 (by rw [h1 0 (by omega) (by omega)]) (h1 84 (by omega) (by omega)) (by rw [h2 0 (by omega) (by omega)]) (h2 20 (by omega) (by omega))) (z_tp_fr hrs.2.2.2.1 (by rw [h1 80 (by omega) (by omega)]) (h1 81 (by omega) (by omega)) (by rw [h2 0 (by omega) (by omega)]) (h2 3 (by omega) (by omega)))
theorem z_ite0 {α : Type} {A B : α} : (if nI 0 = 0 then A else B) = A := if_pos (by decide)
theorem z_ite1 {α : Type} {A B : α} : (if nI 1 = 0 then A else B) = B := if_neg (by decide)
theorem e_way {NC : Nat} {X M : x_M} {G H : z_G} {Cd Ch : Nat → Nat → List Int32} (R : z_R NC X M G H Cd Ch) (a1 : Int32) : z_E NC (f_X11_way X a1) (f_X12_way M a1) := by
  unfold f_X11_way f_X12_way
  simp (disch := omega) only [z_in, z_wi, z_bn, z_ite]
  by_cases h1 : a1 < nI 0 ∨ nI 3000 < a1
  · simp only [if_pos h1]
    exact z_same R
  simp only [if_neg h1]
  obtain ⟨k, -, hk, rfl⟩ := z_nat h1 (by decide) (by decide)
  obtain ⟨hof, hom⟩ := z_mof R
  obtain ⟨X', M', hf⟩ := z_fnd hof hom R.2.2 hk
  have R' := z_fR R hf
  rcases hf.2.2.2 with ⟨e1, e2⟩ | ⟨v, hv, e1, e2, e3, e4⟩
  · rw [e1, e2, z_bn, z_bn, z_ite0, if_pos rfl]
    exact z_same R'
  · rw [e1, e2, z_bn, z_bn, z_ite1, if_neg (by rw [z_eq (by omega) (by omega)]; omega), e3, z_bn, z_dv (by omega) (by omega), z_div (by omega) (by omega) (by omega)]
    exact z_same R'
theorem e_taken {NC : Nat} {X M : x_M} {G H : z_G} {Cd Ch : Nat → Nat → List Int32} (R : z_R NC X M G H Cd Ch) (a1 a2 : Int32) : z_E NC (f_X11_taken X a1 a2) (f_X12_taken M a1 a2) := by
  unfold f_X11_taken f_X12_taken f_X11_taken_31 f_X12_taken_28
  obtain ⟨hof, hom⟩ := z_mof R
  have hO := hof.1
  simp (disch := omega) only [z_in, z_wi, z_bn, z_ite, z_gf, z_rd, hof.2.1, hom.2.1]
  by_cases h1 : a1 < nI 0 ∨ nI 3000 < a1
  · simp only [if_pos h1]
    exact z_same R
  simp only [if_neg h1]
  by_cases h2 : a2 < nI 0 ∨ nI (G 27 3) - nI 1 < a2
  · simp only [if_pos h2]
    exact z_same R
  simp only [if_neg h2]
  obtain ⟨k, -, hk, rfl⟩ := z_nat h1 (by decide) (by decide)
  obtain ⟨i, hi, rfl⟩ := z_natm h2 (by omega)
  obtain ⟨X', M', hf⟩ := z_fnd hof hom R.2.2 hk
  have R' := z_fR R hf
  rcases hf.2.2.2 with ⟨e1, e2⟩ | ⟨v, hv, e1, e2, e3, e4⟩
  · rw [e1, e2, z_bn, z_bn, z_ite0, if_pos rfl]
    exact z_same R'
  · rw [e1, e2, z_bn, z_bn, z_ite1, if_neg (by rw [z_eq (by omega) (by omega)]; omega), e4 i hi, z_bn, z_rd (by omega) (by omega)]
    exact z_same R'
theorem z_ck {X M : x_M} {O w a : Nat} (hO : O ≤ 8) (hw : w ≤ 16) (hM : M 1 9 = nI O) (h1 : ∀ i, i < w → X 84 i = M 20 i) (h2 : ∀ i, i < O → f_X10_timesOf X (nI a) (nI i) = some (M 19 i, X)) : ∀ (e j fu fu' : Nat), w = j + e → j ≤ O → e < fu → e < fu' → ∃ r, f_X11_check_62 fu X (nI a) (nI w) (nI O) (nI j) (nI j) = some (r, X) ∧ f_X12_check_40 fu' M (nI w) (nI j) = some (r, M) := by
  intro e
  induction e with
  | zero =>
    intro j fu fu' he hj hfu hfu'
    obtain ⟨fu, rfl⟩ : ∃ a, fu = a + 1 := ⟨fu - 1, by omega⟩
    obtain ⟨fu', rfl⟩ : ∃ a, fu' = a + 1 := ⟨fu' - 1, by omega⟩
    rw [f_X11_check_62_s, f_X12_check_40_s]
    unfold f_X11_check_103 f_X11_check_119
    simp (disch := omega) only [z_le, z_eq, z_rd, hM, z_add]
    have c1 : w ≤ j := by omega
    have c2 : j = w := by omega
    simp only [if_pos c1, if_pos c2]
    by_cases h : O ≤ w
    · have c3 : j = O := by omega
      simp only [if_pos c3, if_pos h]
      exact ⟨_, rfl, rfl⟩
    · have c3 : ¬ j = O := by omega
      simp only [if_neg c3, if_neg h]
      rw [c2]
      exact ⟨_, rfl, rfl⟩
  | succ e ih =>
    intro j fu fu' he hj hfu hfu'
    obtain ⟨fu, rfl⟩ : ∃ a, fu = a + 1 := ⟨fu - 1, by omega⟩
    obtain ⟨fu', rfl⟩ : ∃ a, fu' = a + 1 := ⟨fu' - 1, by omega⟩
    rw [f_X11_check_62_s, f_X12_check_40_s]
    unfold f_X11_check_103 f_X11_check_119 f_X12_check_71
    simp (disch := omega) only [z_le, z_eq, z_rd, hM, z_add]
    have hjw : ¬ j = w := by omega
    have hwj : ¬ w ≤ j := by omega
    simp only [if_neg hjw, if_neg hwj]
    by_cases h : O ≤ j
    · simp only [if_pos h]
      exact ⟨_, rfl, rfl⟩
    · simp only [if_neg h]
      rw [h1 j (by omega), h2 j (by omega), z_bn]
      by_cases h3 : M 20 j = M 19 j
      · rw [if_pos h3, if_pos h3]
        exact ih (j + 1) fu fu' (by omega) (by omega) (by omega) (by omega)
      · rw [if_neg h3, if_neg h3]
        exact ⟨_, rfl, rfl⟩
theorem e_check {NC : Nat} {X M : x_M} {G H : z_G} {Cd Ch : Nat → Nat → List Int32} (R : z_R NC X M G H Cd Ch) (a1 : Int32) : z_E NC (f_X11_check X a1) (f_X12_check M a1) := by
  obtain ⟨hcl, hrs, hwy⟩ := id R
  obtain ⟨hc, hi, ho, hf, ht⟩ := id hcl
  have hS := hi.1
  unfold z_IS at hS
  obtain ⟨w, w1, w2, w3, w4⟩ := hrs.2.2.1
  have R1 : z_R NC (x_up X 0 9 (nI 0)) (x_up M 0 35 (nI 0)) G H Cd Ch := by
    refine ⟨?_, ?_, z_wy_fr hwy (z_upn (by omega)) (z_upn (by omega)) rfl (fun _ => ⟨rfl, rfl, rfl⟩)⟩
    · rw [z_upn (by omega)]
      exact z_cl_fr hcl (fun k hk => z_upn (by omega)) (fun _ _ => rfl)
    · refine z_rs_fr2 hrs (fun k hk => z_upn (by omega)) (z_upn (by omega)) (by rw [z_upr, z_un (by omega)]) (by rw [z_upr, z_un (by omega)]) (z_sh_fr hrs.2.1 (z_upn (by omega)) (z_upn (by omega)) (z_upn (by omega)) (z_upn (by omega))) ⟨0, by omega, by rw [z_upr, z_us], by rw [z_upr, z_us], fun i hi => by omega⟩ (z_tp_fr hrs.2.2.2.1 (by rw [z_upn (by omega)]) (z_upn (by omega)) (by rw [z_upr, z_un (by omega)]) (z_upn (by omega)))
  unfold f_X11_check f_X12_check
  rw [z_gf, z_pf, z_gf, z_pf, w2, w3]
  have u85 : (x_up X 0 9 (nI 0)) 84 = X 84 := z_upn (by omega)
  have u20 : (x_up M 0 35 (nI 0)) 20 = M 20 := z_upn (by omega)
  rw [← u85, ← u20] at w4
  generalize x_up X 0 9 (nI 0) = X1 at *
  generalize x_up M 0 35 (nI 0) = M1 at *
  simp (disch := omega) only [z_in, z_wi, z_bn, z_ite]
  by_cases h1 : a1 < nI 0 ∨ nI 3000 < a1
  · simp only [if_pos h1]
    exact z_same R1
  simp only [if_neg h1]
  obtain ⟨k, -, hk, rfl⟩ := z_nat h1 (by decide) (by decide)
  obtain ⟨hof, hom⟩ := z_mof R1
  obtain ⟨X', M', hf⟩ := z_fnd hof hom R1.2.2 hk
  have R' := z_fR R1 hf
  rcases hf.2.2.2 with ⟨e1, e2⟩ | ⟨v, hv, e1, e2, e3, e4⟩
  · rw [e1, e2, z_bn, z_bn, z_ite0, if_pos rfl]
    exact z_same R'
  · obtain ⟨hof', hom'⟩ := z_mof R'
    rw [e1, e2, z_bn, z_bn, z_ite1, if_neg (by rw [z_eq (by omega) (by omega)]; omega), z_gf, hof'.2.1]
    obtain ⟨r, q1, q2⟩ := z_ck (X := X') (M := M') hof'.1 w1 hom'.2.1 (fun i hi => by rw [hf.1 84 (by omega) (by omega), hf.2.1 20 (by omega) (by omega)]; exact w4 i hi) e4 w 0 x_FU x_FU (by omega) (by omega) (by unfold x_FU; omega) (by unfold x_FU; omega)
    rw [q1, q2]
    exact z_same R'
