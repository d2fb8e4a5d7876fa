/-! ===== feed, copy ===== -/
def z_wby (w : Int32) (j : Nat) : Nat := (w >>> (nI (24 - 8 * j) &&& 31)).toBitVec.toNat % 256
theorem z_wbyM (w : Int32) (j : Nat) : (w >>> (nI (24 - 8 * j) &&& 31)) &&& nI 255 = nI (z_wby w j) := pk_and _ 8 (by decide)
theorem z_wbyX (w : Int32) (j : Nat) : (w >>> (nI (24 - 8 * j) &&& 31)).toInt8.toInt32 = (nI (z_wby w j)).toInt8.toInt32 := by
  rw [← z_wbyM, Int32.toInt8_and, show (nI 255).toInt8 = -1 by decide, Int8.and_neg_one]
def z_sel (a b c : Int32) (k : Nat) : Int32 := if k < 4 then a else if k < 8 then b else c
theorem z_fdM {n : Nat} {a b c : Int32} (hn : n + 12 ≤ 132) : ∀ (d k f : Nat) (M : x_M), 12 = k + d → d < f → M 0 4 = nI n → ∃ M', f_X12_feed_19 f M a b c (nI k) = some (nI (n + 12), M') ∧ M' 0 4 = nI (n + 12) ∧ (∀ i, i ≠ 4 → M' 0 i = M 0 i) ∧ (∀ q, q ≠ 0 → q ≠ 3 → M' q = M q) ∧ ∀ i, M' 3 i = if n + k ≤ i ∧ i < n + 12 then nI (z_wby (z_sel a b c (i - n)) ((i - n) % 4)) else M 3 i := by
  intro d
  induction d with
  | zero =>
    intro k f M hk hf hM
    obtain ⟨f, rfl⟩ : ∃ a, f = a + 1 := ⟨f - 1, by omega⟩
    rw [f_X12_feed_19_s, if_pos (by rw [z_le (by omega) (by omega)]; omega)]
    simp only [z_gf, z_pf, hM, z_add, z_upr, z_us]
    refine ⟨_, rfl, by rw [z_upr, z_us], fun i hi => by rw [z_upr, z_un hi], fun q q1 q2 => z_upn q1, fun i => ?_⟩
    rw [if_neg (by omega), z_upn (by omega)]
  | succ d ih =>
    intro k f M hk hf hM
    obtain ⟨f, rfl⟩ : ∃ a, f = a + 1 := ⟨f - 1, by omega⟩
    have step : ∀ t : Int32, t = z_sel a b c k → ∃ M', f_X12_feed_48 (f_X12_feed_19 f) M a b c (nI k) t = some (nI (n + 12), M') ∧ M' 0 4 = nI (n + 12) ∧ (∀ i, i ≠ 4 → M' 0 i = M 0 i) ∧ (∀ q, q ≠ 0 → q ≠ 3 → M' q = M q) ∧ ∀ i, M' 3 i = if n + k ≤ i ∧ i < n + 12 then nI (z_wby (z_sel a b c (i - n)) ((i - n) % 4)) else M 3 i := by
      intro t ht
      unfold f_X12_feed_48
      simp (disch := omega) only [z_gf, hM, z_dv, z_div, z_mul, z_sub, z_add, z_wr]
      rw [show 24 - (k - k / 4 * 4) * 8 = 24 - 8 * (k % 4) by omega, z_wbyM]
      obtain ⟨M', e1, e2, e3, e4, e5⟩ := ih (k + 1) f (x_up M 3 (n + k) (nI (z_wby t (k % 4)))) (by omega) (by omega) (by rw [z_upn (by omega)]; exact hM)
      refine ⟨M', e1, e2, fun i hi => by rw [e3 i hi, z_upn (by omega)], fun q q1 q2 => by rw [e4 q q1 q2, z_upn q2], fun i => ?_⟩
      rw [e5 i, z_upr]
      by_cases h : i = n + k
      · subst h
        rw [if_neg (by omega), if_pos (by omega), z_us, show n + k - n = k by omega, ht]
      · by_cases h2 : n + (k + 1) ≤ i ∧ i < n + 12
        · rw [if_pos h2, if_pos (by omega)]
        · rw [if_neg h2, if_neg (by omega), z_un h]
    rw [f_X12_feed_19_s]
    simp (disch := omega) only [z_le]
    rw [if_neg (by omega)]
    by_cases h4 : 4 ≤ k
    · rw [if_pos h4]
      by_cases h8 : 8 ≤ k
      · rw [if_pos h8]
        exact step _ (by unfold z_sel; rw [if_neg (by omega), if_neg (by omega)])
      · rw [if_neg h8]
        exact step _ (by unfold z_sel; rw [if_neg (by omega), if_pos (by omega)])
    · rw [if_neg h4]
      exact step _ (by unfold z_sel; rw [if_pos (by omega)])
def z_shv (j : Nat) : Int32 := if j < 4 then nI (24 - 8 * j) else -8
theorem z_shv_s {j : Nat} (h : j < 4) : nI (24 - 8 * j) + (-8) = z_shv (j + 1) := by
  rcases (show j = 0 ∨ j = 1 ∨ j = 2 ∨ j = 3 by omega) with rfl | rfl | rfl | rfl <;> decide
theorem z_fdX {n : Nat} {w : Int32} (hn : n + 4 ≤ 132) : ∀ (d j f : Nat) (X : x_M), 4 = j + d → d < f → X 80 3 = nI (n + j) → ∃ X', f_X7_put_3 f X w (z_shv j) = some ((), X') ∧ X' 80 3 = nI (n + 4) ∧ (∀ q, q ≠ 80 → q ≠ 81 → X' q = X q) ∧ ∀ i, X' 81 i = if n + j ≤ i ∧ i < n + 4 then (nI (z_wby w (i - n))).toInt8.toInt32 else X 81 i := by
  intro d
  induction d with
  | zero =>
    intro j f X hj hf hX
    obtain ⟨f, rfl⟩ : ∃ a, f = a + 1 := ⟨f - 1, by omega⟩
    have e : z_shv j = -8 := by unfold z_shv; rw [if_neg (by omega)]
    rw [f_X7_put_3_s, e, if_pos (by decide)]
    exact ⟨X, rfl, by rw [hX, show n + j = n + 4 by omega], fun _ _ _ => rfl, fun i => by rw [if_neg (by omega)]⟩
  | succ d ih =>
    intro j f X hj hf hX
    obtain ⟨f, rfl⟩ : ∃ a, f = a + 1 := ⟨f - 1, by omega⟩
    have e : z_shv j = nI (24 - 8 * j) := by unfold z_shv; rw [if_pos (by omega)]
    rw [f_X7_put_3_s, e]
    simp (disch := omega) only [z_lt0, if_false, z_gf, hX, z_le]
    rw [if_neg (by omega)]
    simp (disch := omega) only [z_wr, z_upn, hX, z_add, z_pf]
    rw [z_shv_s (by omega), pk_vb, z_wbyX]
    obtain ⟨X', e1, e2, e3, e4⟩ := ih (j + 1) f (x_up (x_up X 81 (n + j) (nI (z_wby w j)).toInt8.toInt32) 80 3 (nI (n + j + 1))) (by omega) (by omega) (by rw [z_upr, z_us]; rfl)
    refine ⟨X', e1, e2, fun q q1 q2 => by rw [e3 q q1 q2, z_upn q1, z_upn q2], fun i => ?_⟩
    rw [e4 i, z_upn (by omega), z_upr]
    by_cases h : i = n + j
    · subst h
      rw [if_neg (by omega), if_pos (by omega), z_us, show n + j - n = j by omega]
    · by_cases h2 : n + (j + 1) ≤ i ∧ i < n + 4
      · rw [if_pos h2, if_pos (by omega)]
      · rw [if_neg h2, if_neg (by omega), z_un h]
theorem e_feed {NC : Nat} {X M : x_M} {G H : z_G} {Cd Ch : Nat → Nat → List Int32} (R : z_R NC X M G H Cd Ch) (a1 a2 a3 : Int32) : z_E NC (f_X11_feed X a1 a2 a3) (f_X12_feed M a1 a2 a3) := by
  obtain ⟨hcl, hrs, hwy⟩ := id R
  obtain ⟨hc, hi, ho, hf, ht⟩ := id hcl
  have hS := hi.1
  unfold z_IS at hS
  obtain ⟨hk, hsh, hwt, ⟨n, hn, t1, t2, t3⟩, hpl⟩ := id hrs
  unfold f_X11_feed f_X12_feed f_X7_put
  simp (disch := omega) only [z_gf, t1, t2, z_add, z_le]
  by_cases h : n + 12 ≤ 132
  · rw [if_pos h, if_pos h]
    obtain ⟨X1, x1, x2, x3, x4⟩ := z_fdX (n := n) (w := a1) (by omega) 4 0 x_FU X (by omega) (by unfold x_FU; omega) t1
    obtain ⟨X2, y1, y2, y3, y4⟩ := z_fdX (n := n + 4) (w := a2) (by omega) 4 0 x_FU X1 (by omega) (by unfold x_FU; omega) x2
    obtain ⟨X3, u1, u2, u3, u4⟩ := z_fdX (n := n + 4 + 4) (w := a3) (by omega) 4 0 x_FU X2 (by omega) (by unfold x_FU; omega) y2
    obtain ⟨M1, m1, m2, m3, m4, m5⟩ := z_fdM (n := n) (a := a1) (b := a2) (c := a3) h 12 0 x_FU M (by omega) (by unfold x_FU; omega) t2
    rw [show nI 24 = z_shv 0 from rfl, x1, z_bn, y1, z_bn, u1, z_bn, u2, m1]
    have yX : ∀ q, q ≠ 80 → q ≠ 81 → X3 q = X q := fun q q1 q2 => by rw [u3 q q1 q2, y3 q q1 q2, x3 q q1 q2]
    refine ⟨_, X3, M1, G, H, Cd, Ch, rfl, rfl, z_live R (fun q hq => yX q (by omega) (by omega)) (m4 1 (by omega) (by omega)) (z_rs_fr2 hrs (fun q hq => yX q (by omega) (by omega)) (m4 2 (by omega) (by omega)) (by rw [yX 0 (by omega) (by omega)]) (m3 2 (by omega)) (z_sh_fr hsh (yX 86 (by omega) (by omega)) (yX 87 (by omega) (by omega)) (m4 21 (by omega) (by omega)) (m4 22 (by omega) (by omega))) (z_wt_fr hwt (by rw [yX 0 (by omega) (by omega)]) (yX 84 (by omega) (by omega)) (m3 35 (by omega)) (m4 20 (by omega) (by omega))) ⟨n + 12, h, u2, m2, fun i hi' => ?_⟩)⟩
    rw [m5, u4, y4, x4]
    by_cases q1 : i < n
    · rw [if_neg (by omega), if_neg (by omega), if_neg (by omega), if_neg (by omega)]
      exact t3 i q1
    · refine ⟨z_wby (z_sel a1 a2 a3 (i - n)) ((i - n) % 4), Nat.mod_lt _ (by decide), by rw [if_pos (by omega)], ?_⟩
      by_cases q2 : i < n + 4
      · rw [if_neg (by omega), if_neg (by omega), if_pos (by omega)]
        unfold z_sel
        rw [if_pos (by omega), show (i - n) % 4 = i - n by omega]
      · by_cases q3 : i < n + 8
        · rw [if_neg (by omega), if_pos (by omega)]
          unfold z_sel
          rw [if_neg (by omega), if_pos (by omega), show (i - n) % 4 = i - (n + 4) by omega]
        · rw [if_pos (by omega)]
          unfold z_sel
          rw [if_neg (by omega), if_neg (by omega), show (i - n) % 4 = i - (n + 4 + 4) by omega]
  · rw [if_neg h, if_neg h]
    exact z_same R
theorem z_ac {α : Type} {n0 n1 i j n k0 k1 : Nat} {M : x_M} {K : x_M → Option α} (h0 : i + n ≤ n0) (h1 : j + n ≤ n1) (hb : n0 < 1000000 ∧ n1 < 1000000) : x_ac n0 n1 M k0 (nI i) k1 (nI j) (nI n) K = K (va_up M k1 (va_cpy (M k0) (M k1) i j n)) := by
  unfold x_ac
  rw [nI_clamp (by omega), nI_clamp (by omega), nI_clamp (by omega), if_neg]
  rintro (h | h | h | h | h)
  · exact absurd h (nI_pos (by omega))
  · exact absurd h (nI_pos (by omega))
  · exact absurd h (nI_pos (by omega))
  · omega
  · omega
theorem z_vr {M : x_M} {k : Nat} {r : Nat → Int32} : (va_up M k r) k = r := by simp [va_up]
theorem z_vn {M : x_M} {k k' : Nat} {r : Nat → Int32} (h : k' ≠ k) : (va_up M k r) k' = M k' := by simp [va_up, h]
theorem z_cpA {p m : Nat} (hp : p + m ≤ 32) (hm : m ≤ 16) {a b pl at_ : Int32} (hi : (nI 16 * a) + pl = nI p) : ∀ (d j f : Nat) (M : x_M), m = j + d → d < f → ∃ M', f_X12_copy_92 f M a pl b at_ (nI m) (nI j) = f_X12_copy_129 x_FU M' b at_ (nI m) (nI 0) ∧ (∀ q, q ≠ 23 → M' q = M q) ∧ (∀ i, j ≤ i → i < m → M' 23 i = M 21 (p + i)) ∧ ∀ i, i < j → M' 23 i = M 23 i := by
  intro d
  induction d with
  | zero =>
    intro j f M hj hf
    obtain ⟨f, rfl⟩ : ∃ a, f = a + 1 := ⟨f - 1, by omega⟩
    rw [f_X12_copy_92_s]
    simp (disch := omega) only [z_le]
    rw [if_pos (by omega)]
    exact ⟨M, rfl, fun _ _ => rfl, fun i h1 h2 => by omega, fun _ _ => rfl⟩
  | succ d ih =>
    intro j f M hj hf
    obtain ⟨f, rfl⟩ : ∃ a, f = a + 1 := ⟨f - 1, by omega⟩
    rw [f_X12_copy_92_s, hi]
    simp (disch := omega) only [z_le, z_add, z_rd, z_wr]
    rw [if_neg (by omega)]
    obtain ⟨M', e1, e2, e3, e4⟩ := ih (j + 1) f (x_up M 23 j (M 21 (p + j))) (by omega) (by omega)
    refine ⟨M', e1, fun q hq => by rw [e2 q hq, z_upn hq], fun i h1 h2 => ?_, fun i h1 => by rw [e4 i (by omega), z_upr, z_un (by omega)]⟩
    by_cases h : i = j
    · subst h
      rw [e4 i (by omega), z_upr, z_us]
    · rw [e3 i (by omega) h2, z_upn (by omega)]
theorem z_cpB {p m : Nat} (hp : p + m ≤ 32) (hm : m ≤ 16) {b at_ : Int32} (hi : (nI 16 * b) + at_ = nI p) : ∀ (d j f : Nat) (M : x_M), m = j + d → d < f → ∃ M', f_X12_copy_129 f M b at_ (nI m) (nI j) = some (nI m, M') ∧ (∀ q, q ≠ 21 → M' q = M q) ∧ ∀ i, M' 21 i = if p + j ≤ i ∧ i < p + m then M 23 (i - p) else M 21 i := by
  intro d
  induction d with
  | zero =>
    intro j f M hj hf
    obtain ⟨f, rfl⟩ : ∃ a, f = a + 1 := ⟨f - 1, by omega⟩
    rw [f_X12_copy_129_s]
    simp (disch := omega) only [z_le]
    rw [if_pos (by omega)]
    exact ⟨M, rfl, fun _ _ => rfl, fun i => by rw [if_neg (by omega)]⟩
  | succ d ih =>
    intro j f M hj hf
    obtain ⟨f, rfl⟩ : ∃ a, f = a + 1 := ⟨f - 1, by omega⟩
    rw [f_X12_copy_129_s, hi]
    simp (disch := omega) only [z_le, z_add, z_rd, z_wr]
    rw [if_neg (by omega)]
    obtain ⟨M', e1, e2, e3⟩ := ih (j + 1) f (x_up M 21 (p + j) (M 23 j)) (by omega) (by omega)
    refine ⟨M', e1, fun q hq => by rw [e2 q hq, z_upn hq], fun i => ?_⟩
    rw [e3 i, z_upr, z_upn (by omega)]
    by_cases h : i = p + j
    · subst h
      rw [if_neg (by omega), if_pos (by omega), z_us, show p + j - p = j by omega]
    · by_cases h2 : p + (j + 1) ≤ i ∧ i < p + m
      · rw [if_pos h2, if_pos (by omega)]
      · rw [if_neg h2, if_neg (by omega), z_un h]
theorem z_sI {a m : Nat} (ha : a < 1000) (hm : m < 2147483648) : (nI a - nI m).toInt = (a : Int) - m := by
  rw [Int32.toInt_sub, nI_toInt (by omega), nI_toInt hm]
  exact Int.bmod_eq_of_le (by omega) (by omega)
theorem e_copy {NC : Nat} {X M : x_M} {G H : z_G} {Cd Ch : Nat → Nat → List Int32} (R : z_R NC X M G H Cd Ch) (a1 a2 a3 a4 a5 : Int32) : z_E NC (f_X11_copy X a1 a2 a3 a4 a5) (f_X12_copy M a1 a2 a3 a4 a5) := by
  obtain ⟨hcl, hrs, hwy⟩ := id R
  obtain ⟨hc, hi, ho, hf, ht⟩ := id hcl
  have hS := hi.1
  unfold z_IS at hS
  obtain ⟨hk, ⟨s1, s2⟩, hwt, htp, hpl⟩ := id hrs
  unfold f_X11_copy f_X12_copy f_X11_copy_14 f_X11_copy_37 f_X11_copy_71 f_X12_copy_18 f_X12_copy_41 f_X12_copy_85 f_X11_isSheet f_X11_isStretch f_X11_isStretch_24
  simp only [z_in, z_wi, z_bn, z_czi, z_ite]
  by_cases h1 : a1 < nI 0 ∨ nI 1 < a1
  · simp only [if_pos h1]
    exact z_same R
  simp only [if_neg h1]
  by_cases h3 : a3 < nI 0 ∨ nI 1 < a3
  · simp only [if_pos h3]
    exact z_same R
  simp only [if_neg h3]
  obtain ⟨k, -, hk1, rfl⟩ := z_nat h1 (by decide) (by decide)
  obtain ⟨l, -, hl1, rfl⟩ := z_nat h3 (by decide) (by decide)
  obtain ⟨q1, q2⟩ := s2 k (by omega)
  obtain ⟨r1, r2⟩ := s2 l (by omega)
  simp (disch := omega) only [z_rd, q1, r1]
  rcases q2 with q2 | ⟨n, hn, q2, q3⟩
  · rw [q2, if_pos rfl, if_pos rfl]
    exact z_same R
  rcases r2 with r2 | ⟨o, hno, r2, r3⟩
  · rw [q2, r2]
    simp (disch := omega) only [z_nm1, if_false, if_true]
    exact z_same R
  have rX : X 87 l = nI o := by rw [r1, r2]
  rw [q2, r2]
  simp (disch := omega) only [z_nm1, if_false]
  have n00 : (nI 0 : Int32) = 0 := by decide
  by_cases p2 : a2 < 0
  · simp only [if_pos p2, if_pos (show a2 < nI 0 ∨ nI n < a2 from Or.inl (by rw [n00]; exact p2)), z_bn, if_pos z_n00]
    exact z_same R
  obtain ⟨v2, w2, rfl⟩ := nI_of p2
  have w2 : v2 < 2147483648 := w2
  by_cases p5 : a5 < 0
  · simp only [if_pos p5, if_pos (show a5 < nI 0 ∨ nI n - nI v2 < a5 from Or.inl (by rw [n00]; exact p5)), if_neg p2, ite_self]
    by_cases p4 : a4 < 0 <;> simp only [p4, if_true, if_false, ite_self, z_bn, if_pos z_n00]
    · exact z_same R
    · exact z_same R
  obtain ⟨v5, w5, rfl⟩ := nI_of p5
  have w5 : v5 < 2147483648 := w5
  have cX : ∀ a n : Nat, n ≤ 16 → a < 2147483648 → ((nI a < nI 0 ∨ nI n < nI a) ↔ n < a) := by
    intro a n hn ha
    rw [z_lt ha (by decide), z_lt (by omega) ha]
    omega
  have cY : ∀ a n : Nat, n ≤ 16 → a ≤ n → ((nI v5 < nI 0 ∨ nI n - nI a < nI v5) ↔ n < a + v5) := by
    intro a n hn ha
    rw [z_lt w5 (by decide), z_sub ha, z_lt (by omega) w5]
    omega
  have cM : ∀ a n : Nat, n ≤ 16 → a < 2147483648 → (nI n - nI v5 < nI a ↔ n < a + v5) := by
    intro a n hn ha
    rw [Int32.lt_iff_toInt_lt, z_sI (by omega) w5, nI_toInt ha]
    omega
  simp only [if_neg p2, if_neg p5]
  by_cases p4 : a4 < 0
  · simp only [if_pos p4, if_pos (show a4 < nI 0 ∨ nI o < a4 from Or.inl (by rw [n00]; exact p4)), z_bn, if_pos z_n00]
    by_cases c1 : nI v2 < nI 0 ∨ nI n < nI v2
    · simp only [if_pos c1, z_bn, if_pos z_n00]
      exact z_same R
    · simp only [if_neg c1]
      by_cases c2 : nI v5 < nI 0 ∨ nI n - nI v2 < nI v5
      · simp only [if_pos c2, z_bn, if_pos z_n00]
        exact z_same R
      · simp only [if_neg c2, z_bn, if_neg z_n10, rX, if_pos (show a4 < nI 0 ∨ nI o < a4 from Or.inl (by rw [n00]; exact p4)), if_pos z_n00]
        exact z_same R
  obtain ⟨v4, w4, rfl⟩ := nI_of p4
  have w4 : v4 < 2147483648 := w4
  simp only [if_neg p4]
  by_cases g1 : n < v2 + v5
  · rw [if_pos ((cM v2 n hn w2).mpr g1)]
    by_cases c1 : n < v2
    · simp only [if_pos ((cX v2 n hn w2).mpr c1), z_bn, if_pos z_n00]
      exact z_same R
    · simp only [if_neg (fun h => c1 ((cX v2 n hn w2).mp h)), if_pos ((cY v2 n hn (by omega)).mpr g1), z_bn, if_pos z_n00]
      exact z_same R
  rw [if_neg (fun h => g1 ((cM v2 n hn w2).mp h))]
  simp only [if_neg (fun h => absurd ((cX v2 n hn w2).mp h) (by omega)), if_neg (fun h => g1 ((cY v2 n hn (by omega)).mp h)), z_bn, if_neg z_n10, rX]
  have cN : nI v4 ≤ nI o - nI v5 ↔ v4 + v5 ≤ o := by
    rw [Int32.le_iff_toInt_le, z_sI (by omega) w5, nI_toInt w4]
    omega
  by_cases g2 : v4 + v5 ≤ o
  · rw [if_pos (cN.mpr g2)]
    simp only [if_neg (fun h => absurd ((cX v4 o hno w4).mp h) (by omega)), if_neg (fun h => absurd ((cY v4 o hno (by omega)).mp h) (by omega)), z_bn, if_neg z_n10]
    obtain ⟨M1, m1, m2, m3, -⟩ := z_cpA (p := 16 * k + v2) (m := v5) (by omega) (by omega) (a := nI k) (b := nI l) (pl := nI v2) (at_ := nI v4) (by rw [z_mul, z_add]) v5 0 x_FU M (by omega) (by unfold x_FU; omega)
    obtain ⟨M2, u1, u2, u3⟩ := z_cpB (p := 16 * l + v4) (m := v5) (by omega) (by omega) (b := nI l) (at_ := nI v4) (by rw [z_mul, z_add]) v5 0 x_FU M1 (by omega) (by unfold x_FU; omega)
    rw [m1, u1]
    simp only [z_mul, z_add]
    unfold x_cf
    rw [if_pos, z_ac (by omega) (by omega) (by omega)]
    · have yM : ∀ q, q ≠ 21 → q ≠ 23 → M2 q = M q := fun q q1 q2 => by rw [u2 q q1, m2 q q2]
      refine ⟨_, _, M2, G, H, Cd, Ch, rfl, rfl, z_live R (fun q hq => z_vn (by omega)) (yM 1 (by omega) (by omega)) (z_rs_fr2 hrs (fun q hq => z_vn (by omega)) (yM 2 (by omega) (by omega)) (by rw [z_vn (by omega)]) (by rw [yM 0 (by omega) (by omega)]) ⟨fun i hi' => ?_, fun i hi' => ?_⟩ (z_wt_fr hwt (by rw [z_vn (by omega)]) (z_vn (by omega)) (by rw [yM 0 (by omega) (by omega)]) (yM 20 (by omega) (by omega))) (z_tp_fr htp (by rw [z_vn (by omega)]) (z_vn (by omega)) (by rw [yM 0 (by omega) (by omega)]) (yM 3 (by omega) (by omega))))⟩
      · rw [z_vr]
        by_cases c : l * 16 + v4 ≤ i ∧ i < l * 16 + v4 + v5
        · rw [pk_cpy_in c.1 c.2]
          exact s1 _ (by omega)
        · rw [pk_cpy_out (by omega)]
          exact s1 i hi'
      · rw [z_vn (by omega), yM 22 (by omega) (by omega), z_vr]
        obtain ⟨e1, e2⟩ := s2 i hi'
        refine ⟨e1, e2.imp (fun h => h) (fun ⟨n', g1, g2, g3⟩ => ⟨n', g1, g2, fun j hj => ?_⟩)⟩
        rw [u3]
        by_cases c : 16 * l + v4 ≤ 16 * i + j ∧ 16 * i + j < 16 * l + v4 + v5
        · rw [pk_cpy_in (by omega) (by omega), if_pos (by omega), m3 _ (by omega) (by omega)]
          rw [show k * 16 + v2 + (16 * i + j - (l * 16 + v4)) = 16 * k + (v2 + (16 * i + j - (16 * l + v4))) by omega, q3 _ (by omega), show 16 * k + v2 + (16 * i + j - (16 * l + v4)) = 16 * k + (v2 + (16 * i + j - (16 * l + v4))) by omega]
        · rw [pk_cpy_out (by omega), if_neg (by omega), m2 21 (by omega)]
          exact g3 j hj
    · rw [List.all_eq_true]
      intro j hj
      rw [nI_clamp (by omega), List.mem_range] at hj
      rw [nI_clamp (by omega), s1 _ (by omega)]
      exact pk_fs _
  · rw [if_neg (fun h => g2 (cN.mp h))]
    by_cases c1 : o < v4
    · simp only [if_pos ((cX v4 o hno w4).mpr c1), z_bn, if_pos z_n00]
      exact z_same R
    · simp only [if_neg (fun h => c1 ((cX v4 o hno w4).mp h)), if_pos ((cY v4 o hno (by omega)).mpr (by omega)), z_bn, if_pos z_n00]
      exact z_same R
