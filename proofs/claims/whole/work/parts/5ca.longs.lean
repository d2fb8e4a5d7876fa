/-! ===== longs ===== -/
theorem z_rl {α : Type} {n k : Nat} {row : Nat → Int32} {K : Int64 → Option α} (h : k < n) (hn : n < 2147483648) : x_rl n row (nI k) K = K (x_jg row k) := by
  unfold x_rl
  rw [if_neg (nI_in h hn), nI_clamp (Nat.lt_trans h hn)]
theorem z_wl {α : Type} {n k r : Nat} {M : x_M} {x : Int64} {K : x_M → Option α} (h : k < n) (hn : n < 2147483648) : x_wl n M r (nI k) x K = K (va_up M r (x_ju (M r) k x)) := by
  unfold x_wl
  rw [if_neg (nI_in h hn), nI_clamp (Nat.lt_trans h hn)]
theorem z_jus {row : Nat → Int32} {i : Nat} {v : Int64} : x_jg (x_ju row i v) i = v := by
  rw [x_jg_ju]
  unfold vp_updL
  rw [if_pos rfl]
theorem z_jun {row : Nat → Int32} {i j : Nat} {v : Int64} (h : j ≠ i) : x_jg (x_ju row i v) j = x_jg row j := by
  rw [x_jg_ju]
  unfold vp_updL
  rw [if_neg h]
theorem z_lge2 {a b : Nat} (ha : a < 9223372036854775808) (hb : b < 9223372036854775808) : (0 ≤ lg_cmp (lN a) (lN b)) = (b ≤ a) := propext (Iff.trans (lg_cmp_ge _ _) (pk_lLE hb ha))
theorem z_leq2 {a b : Nat} (ha : a < 9223372036854775808) (hb : b < 9223372036854775808) : (lg_cmp (lN a) (lN b) = 0) = (a = b) := propext (Iff.trans (lg_cmp_eq _ _) (pk_lEQ ha hb))
theorem z_lsr {a s : Nat} (ha : a < 9223372036854775808) (hs : s < 64) : lN a >>> lN s = lN (a / 2 ^ s) := by
  have h3 : a / 2 ^ s < 9223372036854775808 := Nat.lt_of_le_of_lt (Nat.div_le_self a _) ha
  rw [← Int64.toInt_inj, pk_lT h3]
  have e : (lN a >>> lN s).toBitVec = (lN a).toBitVec.sshiftRight s := by
    have h1 : ∀ s : Fin 64, ((lN s.1).toBitVec.smod 64).toNat = s.1 := by decide
    have h2 := h1 ⟨s, hs⟩
    rw [Int64.toBitVec_shiftRight]
    show (lN a).toBitVec.sshiftRight ((lN s).toBitVec.smod 64).toNat = _
    rw [h2]
  show (lN a >>> lN s).toBitVec.toInt = _
  rw [e, BitVec.toInt_sshiftRight]
  show (lN a).toInt >>> s = _
  rw [pk_lT ha, Int.shiftRight_eq_div_pow]
  norm_cast
theorem z_land15 {a : Nat} (ha : a < 9223372036854775808) : lN a &&& 15 = lN (a % 16) := by
  rw [← Int64.toBitVec_inj]
  apply BitVec.eq_of_toNat_eq
  rw [Int64.toBitVec_and, BitVec.toNat_and]
  show (BitVec.ofNat 64 a).toNat &&& 15 = (BitVec.ofNat 64 (a % 16)).toNat
  rw [BitVec.toNat_ofNat, BitVec.toNat_ofNat, Nat.mod_eq_of_lt (show a < 2 ^ 64 by omega), Nat.mod_eq_of_lt (show a % 16 < 2 ^ 64 by omega)]
  exact Nat.and_two_pow_sub_one_eq_mod a 4
theorem z_pl8 : ∀ o : Fin 8, (((nI 4) * ((nI 7) - nI o.1)).toInt64 &&& 63) = lN (4 * (7 - o.1)) := by decide
theorem z_sh8 : ∀ o : Fin 8, ((1 : Int64) <<< (((nI 4) * ((nI 7) - nI o.1)).toInt64 &&& 63)) = lN (16 ^ (7 - o.1)) := by decide
theorem z_16 {o : Nat} : 16 ^ (7 - o) ≤ 268435456 ∧ 1 ≤ 16 ^ (7 - o) := by
  have h1 : 16 ^ (7 - o) ≤ 16 ^ 7 := Nat.pow_le_pow_right (by omega) (by omega)
  have h2 : 0 < 16 ^ (7 - o) := Nat.pow_pos (by omega)
  omega
/-- what one taking weighs -/
theorem zw_wX {X : x_M} {G : z_G} {o : Nat} (ho : o < 8) (h : X 28 o = nI (G 28 o)) (hC : G 28 o ≤ 9999) : f_X10_weight_27 X (nI o) = some (lN (zw_W G o), X) := by
  have e := z_sh8 ⟨o, ho⟩
  have b := z_16 (o := o)
  unfold f_X10_weight_27 f_X10_placeOf zw_W
  rw [z_rd (by omega) (by omega), h, z_bn, nI_l (by omega), e, show (1099511627776 : Int64) = lN 1099511627776 from rfl, show (4294967296 : Int64) = lN 4294967296 from rfl, lN_mul, lN_add, lN_sub (by show 16 ^ (7 - o) ≤ _; omega)]
  congr 3
  show G 28 o * 1099511627776 + 4294967296 - 16 ^ (7 - o) = _
  omega
theorem zw_W_b {G : z_G} {o : Nat} (hC : G 28 o ≤ 9999) : zw_W G o ≤ 10995111062791520 := by
  have b := z_16 (o := o)
  unfold zw_W
  omega
