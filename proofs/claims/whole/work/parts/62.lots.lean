/-! ===== LOTS: order, sums ===== -/
theorem z_sins_nd {key : Nat → Nat} {x : Nat} : ∀ l : List Nat, l.Pairwise (fun a b => a ≠ b) → (∀ y, y ∈ l → y ≠ x) → (z_sins key x l).Pairwise (fun a b => a ≠ b)
  | [], _, _ => by simp [z_sins]
  | y :: l, h, hx => by
    rw [List.pairwise_cons] at h
    unfold z_sins
    split
    · rw [List.pairwise_cons]
      refine ⟨fun z hz => ?_, z_sins_nd l h.2 (fun w hw => hx w (by simp [hw]))⟩
      rcases (z_sins_mem l).mp hz with rfl | hz
      · exact hx y (by simp)
      · exact h.1 z hz
    · rw [List.pairwise_cons, List.pairwise_cons]
      exact ⟨fun z hz => (hx z hz).symm, h⟩
theorem z_ord_nd {key : Nat → Nat} : ∀ n, (z_ord key n).Pairwise (fun a b => a ≠ b)
  | 0 => List.Pairwise.nil
  | n + 1 => z_sins_nd _ (z_ord_nd n) (fun y hy => by have := (z_ord_mem n).mp hy; omega)
theorem z_ord_inj {key : Nat → Nat} {n a b : Nat} (ha : a < n) (hb : b < n) (h : (z_ord key n).getD a 0 = (z_ord key n).getD b 0) : a = b := by
  have hl : (z_ord key n).length = n := z_ord_len n
  have hp := List.pairwise_iff_getElem.mp (z_ord_nd (key := key) n)
  rw [List.getD_eq_getElem?_getD, List.getD_eq_getElem?_getD, List.getElem?_eq_getElem (show a < (z_ord key n).length by omega), List.getElem?_eq_getElem (show b < (z_ord key n).length by omega)] at h
  rcases Nat.lt_trichotomy a b with c | c | c
  · exact absurd h (hp a b (by omega) (by omega) c)
  · exact c
  · exact absurd h.symm (hp b a (by omega) (by omega) c)
def z_sm (f : Nat → Nat) : Nat → Nat
  | 0 => 0
  | n + 1 => z_sm f n + f n
theorem z_sins_sum {key f : Nat → Nat} {x : Nat} : ∀ l : List Nat, ((z_sins key x l).map f).sum = f x + (l.map f).sum
  | [] => by simp [z_sins]
  | y :: l => by
    unfold z_sins
    split
    · simp only [List.map_cons, List.sum_cons, z_sins_sum l]
      omega
    · simp only [List.map_cons, List.sum_cons]
theorem z_ord_sum {key f : Nat → Nat} : ∀ n, ((z_ord key n).map f).sum = z_sm f n
  | 0 => rfl
  | n + 1 => by
    rw [z_ord, z_sins_sum, z_ord_sum n, z_sm]
    omega
theorem z_sm_le {f : Nat → Nat} {b : Nat} : ∀ n, (∀ i, i < n → f i ≤ b) → z_sm f n ≤ n * b
  | 0, _ => by simp [z_sm]
  | n + 1, h => by
    have h1 := z_sm_le n (fun i hi => h i (by omega))
    have h2 := h n (by omega)
    rw [z_sm, Nat.succ_mul]
    omega
theorem z_sum_le {f : Nat → Nat} {b : Nat} : ∀ l : List Nat, (∀ i, i ∈ l → f i ≤ b) → (l.map f).sum ≤ l.length * b
  | [], _ => by simp
  | x :: l, h => by
    have h1 := z_sum_le l (fun i hi => h i (by simp [hi]))
    have h2 := h x (by simp)
    rw [List.map_cons, List.sum_cons, List.length_cons, Nat.succ_mul]
    omega
/-! ===== LOTS as both hold them: 0 0 their number, 1 MEMBER, 2 MILES, 3 the DAY they lapse ===== -/
def z_key (S : z_G) (i : Nat) : Nat := S 3 i * 16 + S 1 i
def z_oL (S : z_G) : List Nat := z_ord (z_key S) (S 0 0)
def z_lat (X : x_M) (S : z_G) (j i : Nat) : Prop := X 70 j = nI (S 1 i) ∧ X 71 j = nI (S 2 i) ∧ X 72 j = nI (S 3 i)
def z_lX (X : x_M) (S : z_G) : Prop := X 67 9 = nI (S 0 0) ∧ ∀ j, j < S 0 0 → z_lat X S j ((z_oL S).getD j 0)
def z_lM (M : x_M) (S : z_G) : Prop := M 0 24 = nI (S 0 0) ∧ ∀ i, i < S 0 0 → M 8 i = nI (S 1 i) ∧ M 9 i = nI (S 2 i) ∧ M 10 i = nI (S 3 i)
def z_lB (m : Nat) (S : z_G) : Prop := S 0 0 ≤ 100 ∧ ∀ i, i < S 0 0 → S 1 i < m ∧ S 2 i ≤ 99999 ∧ S 3 i ≤ 11199
def z_cm (S : z_G) (m mi la : Nat) : z_G := z_gu (z_gu (z_gu (z_gu S 1 (S 0 0) m) 2 (S 0 0) mi) 3 (S 0 0) la) 0 0 (S 0 0 + 1)
theorem z_cm_o {S : z_G} {m mi la k i : Nat} (h : ¬ (k = 0 ∧ i = 0)) (h2 : ¬ (1 ≤ k ∧ k ≤ 3 ∧ i = S 0 0)) : z_cm S m mi la k i = S k i := by
  unfold z_cm
  rw [z_gun (by omega), z_gun (by omega), z_gun (by omega), z_gun (by omega)]
theorem z_cm_n {S : z_G} {m mi la : Nat} : z_cm S m mi la 0 0 = S 0 0 + 1 ∧ z_cm S m mi la 1 (S 0 0) = m ∧ z_cm S m mi la 2 (S 0 0) = mi ∧ z_cm S m mi la 3 (S 0 0) = la := by
  unfold z_cm
  refine ⟨z_gus, ?_, ?_, ?_⟩
  · rw [z_gun (by omega), z_gun (by omega), z_gun (by omega), z_gus]
  · rw [z_gun (by omega), z_gun (by omega), z_gus]
  · rw [z_gun (by omega), z_gus]
theorem z_cm_B {S : z_G} {m mi la mm : Nat} (h : z_lB mm S) (hn : S 0 0 < 100) (h1 : m < mm) (h2 : mi ≤ 99999) (h3 : la ≤ 11199) : z_lB mm (z_cm S m mi la) := by
  obtain ⟨n1, n2, n3, n4⟩ := z_cm_n (S := S) (m := m) (mi := mi) (la := la)
  unfold z_lB
  rw [n1]
  refine ⟨by omega, fun i hi => ?_⟩
  by_cases e : i = S 0 0
  · subst e
    rw [n2, n3, n4]
    exact ⟨h1, h2, h3⟩
  · rw [z_cm_o (by omega) (by omega), z_cm_o (by omega) (by omega), z_cm_o (by omega) (by omega)]
    exact h.2 i (by omega)
theorem z_cm_M {M : x_M} {S : z_G} {m mi la : Nat} (h : z_lM M S) (hn : S 0 0 < 100) : ∃ M', f_X12_comes M (nI m) (nI mi) (nI la) = some ((), M') ∧ z_lM M' (z_cm S m mi la) ∧ (∀ k, k ≠ 0 → k ≠ 8 → k ≠ 9 → k ≠ 10 → M' k = M k) ∧ ∀ c, c ≠ 24 → M' 0 c = M 0 c := by
  obtain ⟨n1, n2, n3, n4⟩ := z_cm_n (S := S) (m := m) (mi := mi) (la := la)
  unfold f_X12_comes
  rw [z_gf, h.1, z_wr hn (by omega), z_gf, z_upn (by omega), h.1, z_wr hn (by omega), z_gf, z_upn (by omega), z_upn (by omega), h.1, z_wr hn (by omega), z_gf, z_upn (by omega), z_upn (by omega), z_upn (by omega), h.1, z_pf, z_add]
  refine ⟨_, rfl, ⟨?_, fun i hi => ?_⟩, fun k k0 k8 k9 k10 => ?_, fun c hc => ?_⟩
  · rw [n1, z_upr, z_us]
  · rw [n1] at hi
    simp (disch := omega) only [z_upn, z_upr]
    by_cases e : i = S 0 0
    · subst e
      rw [z_us, z_us, z_us, n2, n3, n4]
      exact ⟨rfl, rfl, rfl⟩
    · rw [z_un e, z_un e, z_un e, z_cm_o (by omega) (by omega), z_cm_o (by omega) (by omega), z_cm_o (by omega) (by omega)]
      exact h.2 i (by omega)
  · rw [z_upn k0, z_upn k10, z_upn k9, z_upn k8]
  · rw [z_upr, z_un hc, z_upn (by omega), z_upn (by omega), z_upn (by omega)]
/-- the class puts a LOT into its place -/
theorem z_ah {X : x_M} {S : z_G} {j i m la : Nat} (hj : j < 100) (h : z_lat X S j i) (hm : m < 16) (hla : la < 1000000) (h1 : S 1 i < 16) (h3 : S 3 i < 1000000) : f_X2_isAhead X (nI m) (nI la) (nI j) = some (if la * 16 + m < z_key S i then nI 1 else nI 0, X) := by
  unfold f_X2_isAhead f_X2_isAhead_30 f_X2_isAhead_34 z_key
  rw [z_rd hj (by omega), z_rd hj (by omega), z_rd hj (by omega), h.2.2, h.1]
  simp (disch := omega) only [z_lt, z_eq, z_le]
  by_cases c1 : la < S 3 i
  · rw [if_pos c1, if_pos (by omega)]
  · rw [if_neg c1]
    by_cases c2 : la = S 3 i
    · rw [if_pos c2]
      by_cases c3 : S 1 i ≤ m
      · rw [if_pos c3, if_neg (by omega)]
      · rw [if_neg c3, if_pos (by omega)]
    · rw [if_neg c2, if_neg (by omega)]
theorem z_cmX {S : z_G} {n m mi la : Nat} (hn : n < 100) (hm : m < 16) (hla : la < 1000000) (hS0 : S 0 0 = n + 1) (hn1 : S 1 n = m ∧ S 2 n = mi ∧ S 3 n = la) (hS : ∀ i, i < n → S 1 i < 16 ∧ S 3 i < 1000000) {X0 : x_M} (hX9 : X0 67 9 = nI n) : ∀ (p fu : Nat) (X : x_M), p < fu → p ≤ n → (∀ k, k ≠ 70 → k ≠ 71 → k ≠ 72 → X k = X0 k) → (∀ j, j < p → z_lat X S j ((z_ord (z_key S) n).getD j 0)) → (∀ j, p < j → j ≤ n → z_lat X S j ((z_ord (z_key S) n).getD (j - 1) 0)) → (p < n → z_key S n < z_key S ((z_ord (z_key S) n).getD p 0)) → ∃ X', f_X2_come_16 fu X (nI m) (nI mi) (nI la) (nI p) = some ((), X') ∧ (∀ k, k ≠ 67 → k ≠ 70 → k ≠ 71 → k ≠ 72 → X' k = X0 k) ∧ (∀ c, c ≠ 9 → X' 67 c = X0 67 c) ∧ z_lX X' S := by
  have hkn : z_key S n = la * 16 + m := by
    unfold z_key
    rw [hn1.1, hn1.2.2]
  have fin : ∀ (p : Nat) (X : x_M), p ≤ n → (∀ k, k ≠ 70 → k ≠ 71 → k ≠ 72 → X k = X0 k) → (∀ j, j < p → z_lat X S j ((z_ord (z_key S) n).getD j 0)) → (∀ j, p < j → j ≤ n → z_lat X S j ((z_ord (z_key S) n).getD (j - 1) 0)) → (p < n → z_key S n < z_key S ((z_ord (z_key S) n).getD p 0)) → (0 < p → z_key S ((z_ord (z_key S) n).getD (p - 1) 0) ≤ z_key S n) → ∃ X', f_X2_come_88 X (nI m) (nI mi) (nI la) (nI p) = some ((), X') ∧ (∀ k, k ≠ 67 → k ≠ 70 → k ≠ 71 → k ≠ 72 → X' k = X0 k) ∧ (∀ c, c ≠ 9 → X' 67 c = X0 67 c) ∧ z_lX X' S := by
    intro p X hp hX h1 h2 h3 h4
    unfold f_X2_come_88
    rw [z_wr (by omega) (by omega), z_wr (by omega) (by omega), z_wr (by omega) (by omega), z_gf, z_upn (by omega), z_upn (by omega), z_upn (by omega), hX 67 (by omega) (by omega) (by omega), hX9, z_pf, z_add]
    refine ⟨_, rfl, fun k k0 k1 k2 k3 => by rw [z_upn k0, z_upn k3, z_upn k2, z_upn k1]; exact hX k k1 k2 k3, fun c hc => by rw [z_upr, z_un hc, z_upn (by omega), z_upn (by omega), z_upn (by omega), hX 67 (by omega) (by omega) (by omega)], ?_, fun j hj => ?_⟩
    · rw [hS0, z_upr, z_us]
    · rw [hS0] at hj
      unfold z_oL z_lat
      rw [hS0, z_ord, z_sins_getD (z_ord (z_key S) n) p j (by rw [z_ord_len]; exact hp) (fun i hi => Nat.le_trans (z_ord_le (show i ≤ p - 1 by omega) (by omega)) (h4 (by omega))) (fun hl => h3 (by rw [z_ord_len] at hl; exact hl))]
      rw [z_upn (by omega), z_upn (by omega), z_upn (by omega), z_upr, z_upn (by omega), z_upn (by omega), z_upr, z_upn (by omega), z_upn (by omega), z_upr, z_upn (by omega), z_upn (by omega)]
      by_cases hj1 : j < p
      · rw [if_pos hj1, z_un (by omega), z_un (by omega), z_un (by omega)]
        exact h1 j hj1
      · rw [if_neg hj1]
        by_cases hj2 : j = p
        · subst hj2
          rw [if_pos rfl, z_us, z_us, z_us, hn1.1, hn1.2.1, hn1.2.2]
          exact ⟨rfl, rfl, rfl⟩
        · rw [if_neg hj2, z_un hj2, z_un hj2, z_un hj2]
          exact h2 j (by omega) (by omega)
  intro p
  induction p with
  | zero =>
    intro fu X hfu hp hX h1 h2 h3
    obtain ⟨fu, rfl⟩ : ∃ a, fu = a + 1 := ⟨fu - 1, by omega⟩
    rw [f_X2_come_16_s, if_pos (by decide)]
    exact fin 0 X hp hX h1 h2 h3 (by omega)
  | succ p ih =>
    intro fu X hfu hp hX h1 h2 h3
    obtain ⟨fu, rfl⟩ : ∃ a, fu = a + 1 := ⟨fu - 1, by omega⟩
    have hq := z_ord_lt (key := z_key S) (show p < n by omega)
    have hl := h1 p (by omega)
    rw [f_X2_come_16_s, if_neg (by rw [z_le0 (by omega)]; omega), z_sub (by omega), show p + 1 - 1 = p by omega, z_ah (by omega) hl hm hla (hS _ hq).1 (hS _ hq).2, z_bn, ← hkn]
    by_cases hk : z_key S n < z_key S ((z_ord (z_key S) n).getD p 0)
    · rw [if_pos hk, if_neg z_n10, z_rd (by omega) (by omega), z_wr (by omega) (by omega), z_rd (by omega) (by omega), z_upn (by omega), z_wr (by omega) (by omega), z_rd (by omega) (by omega), z_upn (by omega), z_upn (by omega), z_wr (by omega) (by omega), z_m1 (by omega), show p + 1 - 1 = p by omega, hl.1, hl.2.1, hl.2.2]
      refine ih fu _ (by omega) (by omega) (fun k k1 k2 k3 => by rw [z_upn k3, z_upn k2, z_upn k1]; exact hX k k1 k2 k3) (fun j hj => ?_) (fun j hj hj2 => ?_) (fun _ => hk)
      · unfold z_lat
        rw [z_upn (by omega), z_upn (by omega), z_upr, z_upn (by omega), z_upr, z_upn (by omega), z_upr, z_upn (by omega), z_upn (by omega), z_un (by omega), z_un (by omega), z_un (by omega)]
        exact h1 j (by omega)
      · unfold z_lat
        rw [z_upn (by omega), z_upn (by omega), z_upr, z_upn (by omega), z_upr, z_upn (by omega), z_upr, z_upn (by omega), z_upn (by omega)]
        by_cases e : j = p + 1
        · subst e
          rw [z_us, z_us, z_us, show p + 1 - 1 = p by omega]
          exact ⟨rfl, rfl, rfl⟩
        · rw [z_un e, z_un e, z_un e]
          exact h2 j (by omega) hj2
    · rw [if_neg hk, if_pos z_n00]
      exact fin (p + 1) X hp hX h1 h2 h3 (fun _ => by rw [show p + 1 - 1 = p by omega]; omega)
theorem z_come {X : x_M} {S : z_G} {m mi la mm : Nat} (h : z_lX X S) (hB : z_lB mm S) (hmm : mm ≤ 10) (hn : S 0 0 < 100) (h1 : m < mm) (h3 : la ≤ 11199) : ∃ X', f_X2_come X (nI m) (nI mi) (nI la) = some ((), X') ∧ z_lX X' (z_cm S m mi la) ∧ (∀ k, k ≠ 67 → k ≠ 70 → k ≠ 71 → k ≠ 72 → X' k = X k) ∧ ∀ c, c ≠ 9 → X' 67 c = X 67 c := by
  obtain ⟨n1, n2, n3, n4⟩ := z_cm_n (S := S) (m := m) (mi := mi) (la := la)
  have ek : ∀ i, i < S 0 0 → z_key (z_cm S m mi la) i = z_key S i := by
    intro i hi
    unfold z_key
    rw [z_cm_o (by omega) (by omega), z_cm_o (by omega) (by omega)]
  have eo : z_ord (z_key (z_cm S m mi la)) (S 0 0) = z_oL S := z_ord_congr _ ek
  unfold f_X2_come
  rw [z_gf, z_gf, h.1, if_pos (by rw [z_lt (by omega) (by omega)]; exact hn)]
  obtain ⟨X', a1, a2, a3, a4⟩ := z_cmX (S := z_cm S m mi la) (n := S 0 0) (m := m) (mi := mi) (la := la) hn (by omega) (by omega) n1 ⟨n2, n3, n4⟩ (fun i hi => by
    rw [z_cm_o (by omega) (by omega), z_cm_o (by omega) (by omega)]
    have := hB.2 i hi
    omega) h.1 (S 0 0) x_FU X (by unfold x_FU; omega) (Nat.le_refl _) (fun _ _ _ _ => rfl) (fun j hj => by
    rw [eo]
    have hq : (z_oL S).getD j 0 < S 0 0 := z_ord_lt hj
    unfold z_lat
    rw [z_cm_o (by omega) (by omega), z_cm_o (by omega) (by omega), z_cm_o (by omega) (by omega)]
    exact h.2 j hj) (fun j h1 h2 => by omega) (fun hh => by omega)
  exact ⟨X', a1, a4, a2, a3⟩
/-! ===== whose a LOT is ===== -/
def z_own (G : z_G) (pl m m' : Nat) : Bool := decide (m' = m ∨ (pl = 1 ∧ G 5 m ≠ 0 ∧ G 5 m = G 5 m'))
theorem z_eN_eq {a b : Nat} (ha : a < 1000000) (hb : b < 1000000) : (z_eN a = z_eN b) = (a = b) := by
  refine propext ⟨fun h => ?_, fun h => by rw [h]⟩
  unfold z_eN at h
  by_cases h1 : a = 0
  · rw [if_pos h1] at h
    by_cases h2 : b = 0
    · omega
    · rw [if_neg h2] at h
      exact absurd h.symm (by rw [z_nn5 (by omega)]; exact id)
  · rw [if_neg h1] at h
    by_cases h2 : b = 0
    · rw [if_pos h2] at h
      exact absurd h (by rw [z_nn5 (by omega)]; exact id)
    · rw [if_neg h2, z_eq (by omega) (by omega)] at h
      omega
theorem z_eO_eq {a b : Nat} (ha : a < 1000000) (hb : b < 1000000) : (z_eO a = z_eO b) = (a = b) := by
  refine propext ⟨fun h => ?_, fun h => by rw [h]⟩
  unfold z_eO at h
  by_cases h1 : a = 0
  · rw [if_pos h1] at h
    by_cases h2 : b = 0
    · omega
    · rw [if_neg h2] at h
      exact absurd h.symm (by rw [z_nm1 (by omega)]; exact id)
  · rw [if_neg h1] at h
    by_cases h2 : b = 0
    · rw [if_pos h2] at h
      exact absurd h (by rw [z_nm1 (by omega)]; exact id)
    · rw [if_neg h2, z_eq (by omega) (by omega)] at h
      omega
theorem z_isfX {NC : Nat} {X M : x_M} {G : z_G} {Cd : Nat → Nat → List Int32} (h : z_K NC X M G Cd) {j m m' pl : Nat} (hj : j < 100) (hm : m < G 2 3) (hm' : m' < G 2 3) (hpl : pl ≤ 1) (hr : X 70 j = nI m') : f_X2_isFor_67_2 X (nI m) (nI pl) (nI j) = some (if z_own G pl m m' then nI 1 else nI 0, X) := by
  have hm10 : G 2 3 ≤ 10 := h.1.2.1.1.2.1
  have g1 := (z_g5 h.1.1 hm).1
  have g2 := (z_g5 h.1.1 hm').1
  have b1 := (h.1.2.1.2.2.1 m hm).2.2
  have b2 := (h.1.2.1.2.2.1 m' hm').2.2
  unfold f_X2_isFor_67_2 f_X2_isFor_67_2_30 f_X2_isFor_67_2_34 f_X4_shares f_X4_shares_31 f_X4_shares_35
  rw [z_rd hj (by omega), z_rd hj (by omega), hr]
  simp (disch := omega) only [z_rd, g1, g2, z_eN_eq, z_eq, z_eq0, show (-1000000005 : Int32) = z_eN 0 from rfl]
  by_cases c1 : m' = m
  · have e : z_own G pl m m' = true := by
      unfold z_own
      rw [decide_eq_true_iff]
      exact Or.inl c1
    rw [e, if_pos c1, if_pos rfl]
  · rw [if_neg c1]
    by_cases c2 : pl = 0
    · have e : z_own G pl m m' = false := by
        unfold z_own
        rw [decide_eq_false_iff_not]
        omega
      rw [e, if_pos c2]
      rfl
    · rw [if_neg c2, if_neg (show ¬ m = m' by omega)]
      by_cases c3 : G 5 m = 0
      · have e : z_own G pl m m' = false := by
          unfold z_own
          rw [decide_eq_false_iff_not]
          omega
        rw [e, if_pos c3, z_bn, if_pos z_n00]
        rfl
      · rw [if_neg c3]
        by_cases c4 : G 5 m = G 5 m'
        · have e : z_own G pl m m' = true := by
            unfold z_own
            rw [decide_eq_true_iff]
            omega
          rw [e, if_pos c4, z_bn, if_neg z_n10, if_pos rfl]
        · have e : z_own G pl m m' = false := by
            unfold z_own
            rw [decide_eq_false_iff_not]
            omega
          rw [e, if_neg c4, z_bn, if_pos z_n00]
          rfl
theorem z_isfM {NC : Nat} {X M : x_M} {G : z_G} {Cd : Nat → Nat → List Int32} (h : z_K NC X M G Cd) {j m m' pl : Nat} (hj : j < 100) (hm : m < G 2 3) (hm' : m' < G 2 3) (hpl : pl ≤ 1) (hr : M 8 j = nI m') : f_X12_isOwn M (nI j) (nI m) (nI pl) = some (if z_own G pl m m' then nI 1 else nI 0, M) := by
  have hm10 : G 2 3 ≤ 10 := h.1.2.1.1.2.1
  have g1 := (z_g5 h.1.1 hm).2
  have g2 := (z_g5 h.1.1 hm').2
  have b1 := (h.1.2.1.2.2.1 m hm).2.2
  have b2 := (h.1.2.1.2.2.1 m' hm').2.2
  unfold f_X12_isOwn f_X12_isOwn_58 f_X12_isOwn_62
  rw [z_mul, z_add, z_add, z_rd (by omega) (by omega), z_rd hj (by omega), z_rd hj (by omega), hr, z_mul, z_add, z_add, z_rd (by omega) (by omega), show 20 + 3 * m + 2 = 22 + 3 * m by omega, show 20 + 3 * m' + 2 = 22 + 3 * m' by omega, g1, g2]
  simp (disch := omega) only [z_eO_eq, z_eq, z_eq0, show (-1 : Int32) = z_eO 0 from rfl]
  by_cases c1 : m' = m
  · have e : z_own G pl m m' = true := by
      unfold z_own
      rw [decide_eq_true_iff]
      exact Or.inl c1
    rw [e, if_pos c1, if_pos rfl]
  · rw [if_neg c1]
    by_cases c2 : pl = 0
    · have e : z_own G pl m m' = false := by
        unfold z_own
        rw [decide_eq_false_iff_not]
        omega
      rw [e, if_pos c2]
      rfl
    · rw [if_neg c2]
      by_cases c3 : G 5 m = 0
      · have e : z_own G pl m m' = false := by
          unfold z_own
          rw [decide_eq_false_iff_not]
          omega
        rw [e, if_pos c3]
        rfl
      · rw [if_neg c3]
        by_cases c4 : G 5 m = G 5 m'
        · have e : z_own G pl m m' = true := by
            unfold z_own
            rw [decide_eq_true_iff]
            omega
          rw [e, if_pos c4.symm, if_pos rfl]
        · have e : z_own G pl m m' = false := by
            unfold z_own
            rw [decide_eq_false_iff_not]
            omega
          rw [e, if_neg (fun q => c4 q.symm)]
          rfl
