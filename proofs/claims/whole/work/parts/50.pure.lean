/-! ===== pure: numbers, reads and writes ===== -/
theorem z_rd {α : Type} {n k : Nat} {row : Nat → Int32} {K : Int32 → Option α} (h : k < n) (hn : n < 2147483648) : x_rd n row (nI k) K = K (row k) := by
  unfold x_rd
  rw [if_neg (nI_in h hn), nI_clamp (Nat.lt_trans h hn)]
theorem z_wr {α : Type} {n k r : Nat} {M : x_M} {x : Int32} {K : x_M → Option α} (h : k < n) (hn : n < 2147483648) : x_wr n M r (nI k) x K = K (x_up M r k x) := by
  unfold x_wr
  rw [if_neg (nI_in h hn), nI_clamp (Nat.lt_trans h hn)]
theorem z_gf {α : Type} {M : x_M} {k j : Nat} {K : Int32 → Option α} : x_gf M k j K = K (M k j) := rfl
theorem z_pf {α : Type} {M : x_M} {k j : Nat} {x : Int32} {K : x_M → Option α} : x_pf M k j x K = K (x_up M k j x) := rfl
theorem z_bn {β α : Type} {a : β} {M : x_M} {K : β → x_M → Option α} : x_bn (some (a, M)) K = K a M := rfl
theorem z_vl {α : Type} {v : Int32} {K : Int32 → Option α} : x_vl v K = K v := rfl
theorem z_cz0 {α : Type} {K : Option α} : x_cz (nI 0) K = K := if_pos (Or.inl (by decide))
theorem z_cz1 {α : Type} {K : Option α} : x_cz (nI 1) K = K := if_pos (Or.inr (by decide))
theorem z_czi {α : Type} {c : Prop} [Decidable c] {K : Option α} : x_cz (if c then nI 0 else nI 1) K = K := by
  split
  · exact z_cz0
  · exact z_cz1
theorem z_dv {α : Type} {d : Nat} {K : Option α} (h0 : 0 < d) (h : d < 2147483648) : x_dv (nI d) K = K := if_neg (nI_ne0 h0 h)
theorem z_add (a b : Nat) : nI a + nI b = nI (a + b) := nI_add a b
theorem z_mul (a b : Nat) : nI a * nI b = nI (a * b) := pk_mul a b
theorem z_sub {a b : Nat} (h : b ≤ a) : nI a - nI b = nI (a - b) := pk_sub h
theorem z_le {a b : Nat} (ha : a < 2147483648) (hb : b < 2147483648) : (nI a ≤ nI b) = (a ≤ b) := propext (nI_leI ha hb)
theorem z_lt {a b : Nat} (ha : a < 2147483648) (hb : b < 2147483648) : (nI a < nI b) = (a < b) := propext (nI_ltI ha hb)
theorem z_eq {a b : Nat} (ha : a < 2147483648) (hb : b < 2147483648) : (nI a = nI b) = (a = b) := propext (nI_eq ha hb)
theorem z_eq0 {a : Nat} (ha : a < 2147483648) : (nI a = 0) = (a = 0) := by
  rw [← nI_0]
  exact z_eq ha (by decide)
theorem z_le0 {a : Nat} (ha : a < 2147483648) : (nI a ≤ 0) = (a = 0) := by
  rw [← nI_0, z_le ha (by decide)]
  exact propext Nat.le_zero
theorem z_0lt {a : Nat} (ha : a < 2147483648) : (0 < nI a) = (0 < a) := by
  rw [← nI_0, z_lt (by decide) ha]
theorem z_lt0 {a : Nat} (ha : a < 2147483648) : (nI a < 0) = False := eq_false (nI_pos ha)
theorem z_0le {a : Nat} (ha : a < 2147483648) : (0 ≤ nI a) = True := eq_true (nI_pos' ha)
theorem z_nm1 {a : Nat} (ha : a < 2147483648) : (nI a = (-1)) = False := by
  refine eq_false fun h => ?_
  have h1 := congrArg Int32.toInt h
  rw [nI_toInt ha, show (-1 : Int32).toInt = -1 by decide] at h1
  omega
theorem z_nn5 {a : Nat} (ha : a < 2147483648) : (nI a = (-1000000005)) = False := by
  refine eq_false fun h => ?_
  have h1 := congrArg Int32.toInt h
  rw [nI_toInt ha, show (-1000000005 : Int32).toInt = -1000000005 by decide] at h1
  omega
theorem z_m1 {p : Nat} (h : 0 < p) : nI p + (-1) = nI (p - 1) := sb_m1 h
theorem z_div {a d : Nat} (ha : a < 2147483648) (h0 : 0 < d) (hd : d < 2147483648) : nI a / nI d = nI (a / d) := pk_div ha h0 hd
theorem z_upr {M : x_M} {k i : Nat} {x : Int32} : (x_up M k i x) k = upd (M k) i x := by
  simp [x_up, va_up]
theorem z_upn {M : x_M} {k k' i : Nat} {x : Int32} (h : k' ≠ k) : (x_up M k i x) k' = M k' := by
  simp [x_up, va_up, h]
theorem z_us {f : Nat → Int32} {k : Nat} {x : Int32} : upd f k x k = x := pk_us
theorem z_un {f : Nat → Int32} {k j : Nat} {x : Int32} (h : j ≠ k) : upd f k x j = f j := pk_un h
theorem z_in {M : x_M} {a lo hi : Int32} : f_X12_in M a lo hi = some (if a < lo ∨ hi < a then nI 0 else nI 1, M) := by
  unfold f_X12_in f_X12_in_14
  by_cases h1 : a < lo
  · simp [h1]
  · by_cases h2 : hi < a <;> simp [h1, h2]
theorem z_wi {M : x_M} {a lo hi : Int32} : f_X11_within M a lo hi = some (if a < lo ∨ hi < a then nI 0 else nI 1, M) := by
  unfold f_X11_within f_X11_within_14
  by_cases h1 : a < lo
  · simp [h1]
  · by_cases h2 : hi < a <;> simp [h1, h2]
theorem z_ite {α : Type} {c : Prop} [Decidable c] {A B : α} : (if (if c then nI 0 else nI 1) = 0 then A else B) = if c then A else B := by
  by_cases h : c
  · rw [if_pos h, if_pos h, if_pos (by decide)]
  · rw [if_neg h, if_neg h, if_neg (by decide)]
theorem z_nat {a : Int32} {lo hi : Nat} (h : ¬ (a < nI lo ∨ nI hi < a)) (hl : lo < 2147483648) (hh : hi < 2147483648) : ∃ k, lo ≤ k ∧ k ≤ hi ∧ a = nI k := by
  have h1 : ¬ a < nI lo := fun g => h (Or.inl g)
  have h2 : ¬ nI hi < a := fun g => h (Or.inr g)
  rw [Int32.lt_iff_toInt_lt, nI_toInt hl] at h1
  rw [Int32.lt_iff_toInt_lt, nI_toInt hh] at h2
  refine ⟨a.toInt.toNat, by omega, by omega, ?_⟩
  refine Int32.toInt_inj.mp ?_
  rw [nI_toInt (by omega)]
  omega
theorem z_natm {a : Int32} {m : Nat} (h : ¬ (a < nI 0 ∨ nI m - nI 1 < a)) (hm : m < 1000000) : ∃ k, k < m ∧ a = nI k := by
  have h1 : ¬ a < nI 0 := fun g => h (Or.inl g)
  have h2 : ¬ nI m - nI 1 < a := fun g => h (Or.inr g)
  rw [Int32.lt_iff_toInt_lt, nI_toInt (by decide)] at h1
  rw [Int32.lt_iff_toInt_lt, pk_sub_toInt (by omega) (by decide)] at h2
  refine ⟨a.toInt.toNat, by omega, ?_⟩
  refine Int32.toInt_inj.mp ?_
  rw [nI_toInt (by omega)]
  omega
theorem z_nat0 {a : Int32} {m : Nat} (hm : m < 1000000) : (a < nI 0 ∨ nI m - nI 1 < a) ∨ ∃ k, k < m ∧ a = nI k ∧ ¬ (a < nI 0 ∨ nI m - nI 1 < a) := by
  by_cases h : a < nI 0 ∨ nI m - nI 1 < a
  · exact Or.inl h
  · obtain ⟨k, h1, h2⟩ := z_natm h hm
    exact Or.inr ⟨k, h1, h2, h⟩
/-! ===== the state told in whole numbers: rows as the class has its cells ===== -/
abbrev z_G : Type := Nat → Nat → Nat
def z_gu (G : z_G) (k i v : Nat) : z_G := fun k' i' => if k' = k ∧ i' = i then v else G k' i'
theorem z_gus {G : z_G} {k i v : Nat} : z_gu G k i v k i = v := by simp [z_gu]
theorem z_gun {G : z_G} {k i v k' i' : Nat} (h : k' ≠ k ∨ i' ≠ i) : z_gu G k i v k' i' = G k' i' := by
  unfold z_gu
  rw [if_neg (by omega)]
def z_eN (v : Nat) : Int32 := if v = 0 then -1000000005 else nI (v - 1)
def z_eO (v : Nat) : Int32 := if v = 0 then -1 else nI (v - 1)
def z_eX (k v : Nat) : Int32 := if k = 5 ∨ k = 11 ∨ k = 26 then z_eN v else nI v
def z_eM (k v : Nat) : Int32 := if k = 5 ∨ k = 11 ∨ k = 26 then z_eO v else nI v
def z_pos (k i : Nat) : Nat := match k with
  | 1 => 0
  | 2 => 4
  | 3 => 20 + 3 * i
  | 4 => 21 + 3 * i
  | 5 => 22 + 3 * i
  | 6 => 5
  | 7 => 50 + 10 * i
  | 8 => 51 + 10 * i
  | 9 => 52 + 10 * i
  | 10 => 53 + 10 * i
  | 11 => 54 + 10 * i
  | 12 => 55 + 10 * i
  | 13 => 56 + 10 * i
  | 14 => 57 + 10 * i
  | 16 => 6
  | 18 => i - 1
  | 19 => 5298 + 5 * i
  | 20 => 5299 + 5 * i
  | 21 => 5300 + 5 * i
  | 22 => 5302 + 5 * i
  | 23 => 5338 + 5 * i
  | 24 => 5339 + 5 * i
  | 25 => 5340 + 5 * i
  | 26 => 5342 + 5 * i
  | 27 => 9
  | 28 => 5488 + 3 * i
  | 29 => 5489 + 3 * i
  | 30 => 5490 + 3 * i
  | 31 => 1 + i
  | 32 => 8 + 2 * i
  | 33 => 9 + 2 * i
  | _ => 0
/-- which cells there are, by the numbers of MEMBERS, LINES, FLIGHTS, ASKS, OFFERS -/
def z_okS (m L F A O k i : Nat) : Prop := (k = 1 ∧ i = 8) ∨ (k = 2 ∧ i = 3) ∨ (3 ≤ k ∧ k ≤ 5 ∧ i < m) ∨ (k = 6 ∧ i = 9) ∨ (7 ≤ k ∧ k ≤ 14 ∧ i < L) ∨ (k = 16 ∧ i = 2) ∨ (k = 18 ∧ (i = 8 ∨ i = 9)) ∨ (19 ≤ k ∧ k ≤ 22 ∧ i < F) ∨ (23 ≤ k ∧ k ≤ 26 ∧ i < A) ∨ (k = 27 ∧ i = 3) ∨ (28 ≤ k ∧ k ≤ 30 ∧ i < O) ∨ (k = 31 ∧ i < 3) ∨ (32 ≤ k ∧ k ≤ 33 ∧ 1 ≤ i ∧ i < 4)
def z_bd (k i : Nat) : Prop := z_okS 10 100 8 30 8 k i
def z_inv (p : Nat) : Nat × Nat := if p = 0 then (1, 8) else if p < 4 then (31, p - 1) else if p = 4 then (2, 3) else if p = 5 then (6, 9) else if p = 6 then (16, 2) else if p = 7 then (18, 8) else if p = 8 then (18, 9) else if p = 9 then (27, 3) else if p < 20 then (32 + p % 2, (p - 8) / 2) else if p < 50 then (3 + (p - 20) % 3, (p - 20) / 3) else if p < 1050 then (7 + (p - 50) % 10, (p - 50) / 10) else if p < 5338 then (if (p - 5298) % 5 = 4 then 22 else 19 + (p - 5298) % 5, (p - 5298) / 5) else if p < 5488 then (if (p - 5338) % 5 = 4 then 26 else 23 + (p - 5338) % 5, (p - 5338) / 5) else (28 + (p - 5488) % 3, (p - 5488) / 3)
theorem z_inv_pos {k i : Nat} (h : z_bd k i) : z_inv (z_pos k i) = (k, i) := by
  have hk : k < 34 := by unfold z_bd z_okS at h; omega
  have h0 : k ≠ 0 ∧ k ≠ 15 ∧ k ≠ 17 := by unfold z_bd z_okS at h; omega
  have key : ∀ k', k' = k → z_inv (z_pos k i) = (k, i) := by
    intro k' e
    match k', e with
    | 0, e => omega
    | 1, e =>
      subst e
      have hi : i = 8 := by unfold z_bd z_okS at h; omega
      subst hi
      decide
    | 2, e =>
      subst e
      have hi : i = 3 := by unfold z_bd z_okS at h; omega
      subst hi
      decide
    | 3, e =>
      subst e
      simp only [z_pos]
      unfold z_bd z_okS at h
      unfold z_inv
      simp (disch := omega) only [if_pos, if_neg]
      refine Prod.ext ?_ ?_ <;> simp only <;> omega
    | 4, e =>
      subst e
      simp only [z_pos]
      unfold z_bd z_okS at h
      unfold z_inv
      simp (disch := omega) only [if_pos, if_neg]
      refine Prod.ext ?_ ?_ <;> simp only <;> omega
    | 5, e =>
      subst e
      simp only [z_pos]
      unfold z_bd z_okS at h
      unfold z_inv
      simp (disch := omega) only [if_pos, if_neg]
      refine Prod.ext ?_ ?_ <;> simp only <;> omega
    | 6, e =>
      subst e
      have hi : i = 9 := by unfold z_bd z_okS at h; omega
      subst hi
      decide
    | 7, e =>
      subst e
      simp only [z_pos]
      unfold z_bd z_okS at h
      unfold z_inv
      simp (disch := omega) only [if_pos, if_neg]
      refine Prod.ext ?_ ?_ <;> simp only <;> omega
    | 8, e =>
      subst e
      simp only [z_pos]
      unfold z_bd z_okS at h
      unfold z_inv
      simp (disch := omega) only [if_pos, if_neg]
      refine Prod.ext ?_ ?_ <;> simp only <;> omega
    | 9, e =>
      subst e
      simp only [z_pos]
      unfold z_bd z_okS at h
      unfold z_inv
      simp (disch := omega) only [if_pos, if_neg]
      refine Prod.ext ?_ ?_ <;> simp only <;> omega
    | 10, e =>
      subst e
      simp only [z_pos]
      unfold z_bd z_okS at h
      unfold z_inv
      simp (disch := omega) only [if_pos, if_neg]
      refine Prod.ext ?_ ?_ <;> simp only <;> omega
    | 11, e =>
      subst e
      simp only [z_pos]
      unfold z_bd z_okS at h
      unfold z_inv
      simp (disch := omega) only [if_pos, if_neg]
      refine Prod.ext ?_ ?_ <;> simp only <;> omega
    | 12, e =>
      subst e
      simp only [z_pos]
      unfold z_bd z_okS at h
      unfold z_inv
      simp (disch := omega) only [if_pos, if_neg]
      refine Prod.ext ?_ ?_ <;> simp only <;> omega
    | 13, e =>
      subst e
      simp only [z_pos]
      unfold z_bd z_okS at h
      unfold z_inv
      simp (disch := omega) only [if_pos, if_neg]
      refine Prod.ext ?_ ?_ <;> simp only <;> omega
    | 14, e =>
      subst e
      simp only [z_pos]
      unfold z_bd z_okS at h
      unfold z_inv
      simp (disch := omega) only [if_pos, if_neg]
      refine Prod.ext ?_ ?_ <;> simp only <;> omega
    | 15, e => omega
    | 16, e =>
      subst e
      have hi : i = 2 := by unfold z_bd z_okS at h; omega
      subst hi
      decide
    | 17, e => omega
    | 18, e =>
      subst e
      have hi : i = 8 ∨ i = 9 := by unfold z_bd z_okS at h; omega
      rcases hi with rfl | rfl <;> decide
    | 19, e =>
      subst e
      simp only [z_pos]
      unfold z_bd z_okS at h
      unfold z_inv
      simp (disch := omega) only [if_pos, if_neg]
      refine Prod.ext ?_ ?_ <;> simp only <;> omega
    | 20, e =>
      subst e
      simp only [z_pos]
      unfold z_bd z_okS at h
      unfold z_inv
      simp (disch := omega) only [if_pos, if_neg]
      refine Prod.ext ?_ ?_ <;> simp only <;> omega
    | 21, e =>
      subst e
      simp only [z_pos]
      unfold z_bd z_okS at h
      unfold z_inv
      simp (disch := omega) only [if_pos, if_neg]
      refine Prod.ext ?_ ?_ <;> simp only <;> omega
    | 22, e =>
      subst e
      simp only [z_pos]
      unfold z_bd z_okS at h
      unfold z_inv
      simp (disch := omega) only [if_pos, if_neg]
      refine Prod.ext ?_ ?_ <;> simp only <;> omega
    | 23, e =>
      subst e
      simp only [z_pos]
      unfold z_bd z_okS at h
      unfold z_inv
      simp (disch := omega) only [if_pos, if_neg]
      refine Prod.ext ?_ ?_ <;> simp only <;> omega
    | 24, e =>
      subst e
      simp only [z_pos]
      unfold z_bd z_okS at h
      unfold z_inv
      simp (disch := omega) only [if_pos, if_neg]
      refine Prod.ext ?_ ?_ <;> simp only <;> omega
    | 25, e =>
      subst e
      simp only [z_pos]
      unfold z_bd z_okS at h
      unfold z_inv
      simp (disch := omega) only [if_pos, if_neg]
      refine Prod.ext ?_ ?_ <;> simp only <;> omega
    | 26, e =>
      subst e
      simp only [z_pos]
      unfold z_bd z_okS at h
      unfold z_inv
      simp (disch := omega) only [if_pos, if_neg]
      refine Prod.ext ?_ ?_ <;> simp only <;> omega
    | 27, e =>
      subst e
      have hi : i = 3 := by unfold z_bd z_okS at h; omega
      subst hi
      decide
    | 28, e =>
      subst e
      simp only [z_pos]
      unfold z_bd z_okS at h
      unfold z_inv
      simp (disch := omega) only [if_pos, if_neg]
      refine Prod.ext ?_ ?_ <;> simp only <;> omega
    | 29, e =>
      subst e
      simp only [z_pos]
      unfold z_bd z_okS at h
      unfold z_inv
      simp (disch := omega) only [if_pos, if_neg]
      refine Prod.ext ?_ ?_ <;> simp only <;> omega
    | 30, e =>
      subst e
      simp only [z_pos]
      unfold z_bd z_okS at h
      unfold z_inv
      simp (disch := omega) only [if_pos, if_neg]
      refine Prod.ext ?_ ?_ <;> simp only <;> omega
    | 31, e =>
      subst e
      simp only [z_pos]
      unfold z_bd z_okS at h
      unfold z_inv
      simp (disch := omega) only [if_pos, if_neg]
      refine Prod.ext ?_ ?_ <;> simp only <;> omega
    | 32, e =>
      subst e
      simp only [z_pos]
      unfold z_bd z_okS at h
      unfold z_inv
      simp (disch := omega) only [if_pos, if_neg]
      refine Prod.ext ?_ ?_ <;> simp only <;> omega
    | 33, e =>
      subst e
      simp only [z_pos]
      unfold z_bd z_okS at h
      unfold z_inv
      simp (disch := omega) only [if_pos, if_neg]
      refine Prod.ext ?_ ?_ <;> simp only <;> omega
    | n + 34, e => omega
  exact key k rfl
theorem z_pos_inj {k i k' i' : Nat} (h : z_bd k i) (h' : z_bd k' i') (e : z_pos k i = z_pos k' i') : k = k' ∧ i = i' := by
  have h1 := z_inv_pos h
  rw [e, z_inv_pos h'] at h1
  exact ⟨(Prod.mk.inj h1).1.symm, (Prod.mk.inj h1).2.symm⟩
theorem z_pos_lt {k i : Nat} (h : z_bd k i) : z_pos k i < 5512 ∧ (z_pos k i < 1050 ∨ 5298 ≤ z_pos k i) := by
  have hk : k < 34 := by unfold z_bd z_okS at h; omega
  have key : ∀ k', k' = k → z_pos k i < 5512 ∧ (z_pos k i < 1050 ∨ 5298 ≤ z_pos k i) := by
    intro k' e
    match k', e with
    | 0, e => subst e; unfold z_bd z_okS at h; omega
    | 1, e =>
      subst e
      simp only [z_pos]
      unfold z_bd z_okS at h
      omega
    | 2, e =>
      subst e
      simp only [z_pos]
      unfold z_bd z_okS at h
      omega
    | 3, e =>
      subst e
      simp only [z_pos]
      unfold z_bd z_okS at h
      omega
    | 4, e =>
      subst e
      simp only [z_pos]
      unfold z_bd z_okS at h
      omega
    | 5, e =>
      subst e
      simp only [z_pos]
      unfold z_bd z_okS at h
      omega
    | 6, e =>
      subst e
      simp only [z_pos]
      unfold z_bd z_okS at h
      omega
    | 7, e =>
      subst e
      simp only [z_pos]
      unfold z_bd z_okS at h
      omega
    | 8, e =>
      subst e
      simp only [z_pos]
      unfold z_bd z_okS at h
      omega
    | 9, e =>
      subst e
      simp only [z_pos]
      unfold z_bd z_okS at h
      omega
    | 10, e =>
      subst e
      simp only [z_pos]
      unfold z_bd z_okS at h
      omega
    | 11, e =>
      subst e
      simp only [z_pos]
      unfold z_bd z_okS at h
      omega
    | 12, e =>
      subst e
      simp only [z_pos]
      unfold z_bd z_okS at h
      omega
    | 13, e =>
      subst e
      simp only [z_pos]
      unfold z_bd z_okS at h
      omega
    | 14, e =>
      subst e
      simp only [z_pos]
      unfold z_bd z_okS at h
      omega
    | 15, e => subst e; unfold z_bd z_okS at h; omega
    | 16, e =>
      subst e
      simp only [z_pos]
      unfold z_bd z_okS at h
      omega
    | 17, e => subst e; unfold z_bd z_okS at h; omega
    | 18, e =>
      subst e
      simp only [z_pos]
      unfold z_bd z_okS at h
      omega
    | 19, e =>
      subst e
      simp only [z_pos]
      unfold z_bd z_okS at h
      omega
    | 20, e =>
      subst e
      simp only [z_pos]
      unfold z_bd z_okS at h
      omega
    | 21, e =>
      subst e
      simp only [z_pos]
      unfold z_bd z_okS at h
      omega
    | 22, e =>
      subst e
      simp only [z_pos]
      unfold z_bd z_okS at h
      omega
    | 23, e =>
      subst e
      simp only [z_pos]
      unfold z_bd z_okS at h
      omega
    | 24, e =>
      subst e
      simp only [z_pos]
      unfold z_bd z_okS at h
      omega
    | 25, e =>
      subst e
      simp only [z_pos]
      unfold z_bd z_okS at h
      omega
    | 26, e =>
      subst e
      simp only [z_pos]
      unfold z_bd z_okS at h
      omega
    | 27, e =>
      subst e
      simp only [z_pos]
      unfold z_bd z_okS at h
      omega
    | 28, e =>
      subst e
      simp only [z_pos]
      unfold z_bd z_okS at h
      omega
    | 29, e =>
      subst e
      simp only [z_pos]
      unfold z_bd z_okS at h
      omega
    | 30, e =>
      subst e
      simp only [z_pos]
      unfold z_bd z_okS at h
      omega
    | 31, e =>
      subst e
      simp only [z_pos]
      unfold z_bd z_okS at h
      omega
    | 32, e =>
      subst e
      simp only [z_pos]
      unfold z_bd z_okS at h
      omega
    | 33, e =>
      subst e
      simp only [z_pos]
      unfold z_bd z_okS at h
      omega
    | n + 34, e => omega
  exact key k rfl
/-- the class's cells from o on, and the reference's row s, both tell G -/
def z_cr (ok : Nat → Nat → Prop) (X : x_M) (o : Nat) (s : Nat → Int32) (G : z_G) : Prop := ∀ k i, ok k i → z_bd k i ∧ X (k + o) i = z_eX k (G k i) ∧ s (z_pos k i) = z_eM k (G k i)
theorem z_cr_up {ok : Nat → Nat → Prop} {X : x_M} {o : Nat} {s : Nat → Int32} {G : z_G} (h : z_cr ok X o s G) (k i v : Nat) {r p : Nat} {x y : Int32} (hk : z_bd k i) (hr : r = k + o) (hx : x = z_eX k v) (hp : p = z_pos k i) (hy : y = z_eM k v) : z_cr (fun k' i' => ok k' i' ∨ (k' = k ∧ i' = i)) (x_up X r i x) o (upd s p y) (z_gu G k i v) := by
  subst hr hx hp hy
  intro k' i' h'
  by_cases e : k' = k ∧ i' = i
  · obtain ⟨rfl, rfl⟩ := e
    refine ⟨hk, ?_, ?_⟩
    · rw [z_upr, z_us, z_gus]
    · rw [z_us, z_gus]
  · have h1 := h k' i' (h'.resolve_right e)
    refine ⟨h1.1, ?_, ?_⟩
    · rw [z_gun (by omega), ← h1.2.1]
      by_cases e1 : k' = k
      · subst e1
        rw [z_upr, z_un (by omega)]
      · rw [z_upn (by omega)]
    · rw [z_gun (by omega), ← h1.2.2, z_un]
      intro e2
      exact e (z_pos_inj h1.1 hk e2)
theorem z_cr_sub {ok ok' : Nat → Nat → Prop} {X : x_M} {o : Nat} {s : Nat → Int32} {G : z_G} (h : z_cr ok X o s G) (hs : ∀ k i, ok' k i → ok k i) : z_cr ok' X o s G := fun k i h' => h k i (hs k i h')
/-- other cells may change -/
theorem z_cr_fr {ok : Nat → Nat → Prop} {X X' : x_M} {o : Nat} {s s' : Nat → Int32} {G : z_G} (h : z_cr ok X o s G) (hX : ∀ k i, z_bd k i → X' (k + o) i = X (k + o) i) (hs : ∀ p, p < 5512 → (p < 1050 ∨ 5298 ≤ p) → s' p = s p) : z_cr ok X' o s' G := fun k i h' => by
  obtain ⟨h1, h2, h3⟩ := h k i h'
  exact ⟨h1, by rw [hX k i h1]; exact h2, by rw [hs _ (z_pos_lt h1).1 (z_pos_lt h1).2]; exact h3⟩
