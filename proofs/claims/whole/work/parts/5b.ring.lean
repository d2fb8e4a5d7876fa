/-! ===== rings: bits ===== -/
theorem z_or32 (a b : Nat) : nI a ||| nI b = nI (a ||| b) := by
  show Int32.ofBitVec (BitVec.ofNat 32 a) ||| Int32.ofBitVec (BitVec.ofNat 32 b) = Int32.ofBitVec (BitVec.ofNat 32 (a ||| b))
  rw [← Int32.ofBitVec_or, ← BitVec.ofNat_or]
theorem z_and32 (a b : Nat) : nI a &&& nI b = nI (a &&& b) := by
  show Int32.ofBitVec (BitVec.ofNat 32 a) &&& Int32.ofBitVec (BitVec.ofNat 32 b) = Int32.ofBitVec (BitVec.ofNat 32 (a &&& b))
  rw [← Int32.ofBitVec_and, ← BitVec.ofNat_and]
theorem z_sl {k : Nat} (h : k < 10) : nI 1 <<< (nI k &&& 31) = nI (2 ^ k) := by
  rcases (show k = 0 ∨ k = 1 ∨ k = 2 ∨ k = 3 ∨ k = 4 ∨ k = 5 ∨ k = 6 ∨ k = 7 ∨ k = 8 ∨ k = 9 by omega) with rfl | rfl | rfl | rfl | rfl | rfl | rfl | rfl | rfl | rfl <;> decide
theorem z_sr {s k : Nat} (hs : s < 1024) (h : k < 10) : (nI s >>> (nI k &&& 31)) &&& nI 1 = nI (s / 2 ^ k % 2) := by
  have e : nI s >>> (nI k &&& 31) = nI (s / 2 ^ k) := pk_shrN (by omega) _ k (by
    rcases (show k = 0 ∨ k = 1 ∨ k = 2 ∨ k = 3 ∨ k = 4 ∨ k = 5 ∨ k = 6 ∨ k = 7 ∨ k = 8 ∨ k = 9 by omega) with rfl | rfl | rfl | rfl | rfl | rfl | rfl | rfl | rfl | rfl <;> decide)
  have hd : s / 2 ^ k ≤ s := Nat.div_le_self _ _
  rw [e, pk_andN (n := s / 2 ^ k) (by omega) 1 (by decide)]
theorem z_tb {s k : Nat} : s.testBit k = true ↔ s / 2 ^ k % 2 = 1 := by
  rw [Nat.testBit_eq_decide_div_mod_eq, decide_eq_true_eq]
theorem z_pw {k : Nat} (h : k < 10) : 2 ^ k < 1024 := by
  have := Nat.pow_lt_pow_right (a := 2) (by omega) h
  omega
theorem z_orlt {a b : Nat} (ha : a < 1024) (hb : b < 1024) : a ||| b < 1024 := Nat.or_lt_two_pow (n := 10) ha hb
theorem z_orlt2 {a b : Nat} (ha : a < 4096) (hb : b < 4096) : a ||| b < 4096 := Nat.or_lt_two_pow (n := 12) ha hb
theorem z_and0 {a b : Nat} (ha : a < 4096) : (nI a &&& nI b = 0) = (a &&& b = 0) := by
  have : a &&& b ≤ a := Nat.and_le_left
  rw [z_and32, z_eq0 (by omega)]
theorem z_share {a b : Nat} : a &&& b ≠ 0 ↔ ∃ i, a.testBit i = true ∧ b.testBit i = true := by
  constructor
  · intro h
    obtain ⟨i, hi⟩ := Nat.exists_testBit_of_ne_zero h
    rw [Nat.testBit_and, Bool.and_eq_true] at hi
    exact ⟨i, hi⟩
  · rintro ⟨i, h1, h2⟩ h
    have : (a &&& b).testBit i = true := by rw [Nat.testBit_and, h1, h2]; rfl
    rw [h, Nat.zero_testBit] at this
    cases this
/-! ===== rings: who hangs together ===== -/
def z_clo (m : Nat) (mk : Nat → Nat) (S : Nat → Prop) : Prop := ∀ i j, S i → i < m → j < m → mk i &&& mk j ≠ 0 → S j
def z_cmp (m : Nat) (mk : Nat → Nat) (a i : Nat) : Prop := ∀ S : Nat → Prop, S a → z_clo m mk S → S i
theorem z_cmp_rf {m : Nat} {mk : Nat → Nat} {a : Nat} : z_cmp m mk a a := fun S h _ => h
theorem z_cmp_tr {m : Nat} {mk : Nat → Nat} {a b c : Nat} (h1 : z_cmp m mk a b) (h2 : z_cmp m mk b c) : z_cmp m mk a c := fun S h hc => h2 S (h1 S h hc) hc
theorem z_cmp_st {m : Nat} {mk : Nat → Nat} {i j : Nat} (hi : i < m) (hj : j < m) (h : mk i &&& mk j ≠ 0) : z_cmp m mk i j := fun S hS hc => hc i j hS hi hj h
theorem z_cmp_sy {m : Nat} {mk : Nat → Nat} {a b : Nat} (h : z_cmp m mk a b) : z_cmp m mk b a := h (fun x => z_cmp m mk x a) z_cmp_rf (fun i j hi h1 h2 h3 => z_cmp_tr (z_cmp_st h2 h1 (by rw [Nat.and_comm]; exact h3)) hi)
theorem z_cmp_lt {m : Nat} {mk : Nat → Nat} {a i : Nat} (ha : a < m) (h : z_cmp m mk a i) : i < m := h (fun x => x < m) ha (fun _ _ _ _ hj _ => hj)
def z_isC (m : Nat) (mk : Nat → Nat) (a s : Nat) : Prop := ∀ i, s.testBit i = true ↔ z_cmp m mk a i
theorem z_isC_eq {m : Nat} {mk : Nat → Nat} {a s t : Nat} (h1 : z_isC m mk a s) (h2 : z_isC m mk a t) : s = t := Nat.eq_of_testBit_eq (fun i => Bool.eq_iff_iff.mpr ((h1 i).trans (h2 i).symm))
theorem z_isC_mk {m : Nat} {mk : Nat → Nat} {a s : Nat} (h1 : s.testBit a = true) (h2 : z_clo m mk (fun i => s.testBit i = true)) (h3 : ∀ i, s.testBit i = true → z_cmp m mk a i) : z_isC m mk a s := fun i => ⟨h3 i, fun h => h _ h1 h2⟩
def z_crd (t : Nat) : Nat → Nat
  | 0 => 0
  | n + 1 => z_crd t n + (if t.testBit n = true then 1 else 0)
theorem z_crd_le {t : Nat} : ∀ n, z_crd t n ≤ n
  | 0 => Nat.le_refl _
  | n + 1 => by
    have := z_crd_le (t := t) n
    rw [z_crd]
    split <;> omega
theorem z_crd_mono {t t' : Nat} (h : ∀ i, t.testBit i = true → t'.testBit i = true) : ∀ n, z_crd t n ≤ z_crd t' n
  | 0 => Nat.le_refl _
  | n + 1 => by
    have := z_crd_mono h n
    rw [z_crd, z_crd]
    by_cases h1 : t.testBit n = true
    · rw [if_pos h1, if_pos (h n h1)]
      omega
    · rw [if_neg h1]
      omega
theorem z_crd_lt {t t' i : Nat} (h : ∀ i, t.testBit i = true → t'.testBit i = true) (h1 : ¬ t.testBit i = true) (h2 : t'.testBit i = true) : ∀ n, i < n → z_crd t n < z_crd t' n
  | 0, hi => by omega
  | n + 1, hi => by
    have h3 := z_crd_mono h n
    rw [z_crd, z_crd]
    by_cases e : i = n
    · subst e
      rw [if_neg h1, if_pos h2]
      omega
    · have h4 := z_crd_lt h h1 h2 n (by omega)
      by_cases h5 : t.testBit n = true
      · rw [if_pos h5, if_pos (h n h5)]
        omega
      · rw [if_neg h5]
        omega
theorem z_crd_pos {t a : Nat} (h : t.testBit a = true) : ∀ n, a < n → 1 ≤ z_crd t n
  | 0, hi => by omega
  | n + 1, hi => by
    rw [z_crd]
    by_cases e : a = n
    · subst e
      rw [if_pos h]
      omega
    · have := z_crd_pos h n (by omega)
      omega
theorem z_diff {m t t' : Nat} (h : ∀ i, t.testBit i = true → t'.testBit i = true) (hm : ∀ i, t'.testBit i = true → i < m) (hne : t' ≠ t) : z_crd t m < z_crd t' m := by
  by_cases hx : ∃ i, ¬ t.testBit i = true ∧ t'.testBit i = true
  · obtain ⟨i, h1, h2⟩ := hx
    exact z_crd_lt h h1 h2 m (hm i h2)
  · refine absurd (Nat.eq_of_testBit_eq (fun i => Bool.eq_iff_iff.mpr ⟨fun h1 => ?_, h i⟩)) hne
    by_cases h2 : t.testBit i = true
    · exact h2
    · exact absurd ⟨i, h2, h1⟩ hx
/-! ===== rings: the class ===== -/
def z_ps (mk : Nat → Nat) (i : Nat) (p : Nat × Nat) : Nat × Nat := if mk i &&& p.2 = 0 then p else (p.1 ||| 2 ^ i, p.2 ||| mk i)
def z_pas (mk : Nat → Nat) : Nat → Nat → Nat × Nat → Nat × Nat
  | 0, _, p => p
  | d + 1, i, p => z_pas mk d (i + 1) (z_ps mk i p)
def z_in1 (m : Nat) (mk : Nat → Nat) (a : Nat) (p : Nat × Nat) : Prop := p.1.testBit a = true ∧ (∀ i, p.1.testBit i = true → z_cmp m mk a i) ∧ (∀ b, p.2.testBit b = true ↔ ∃ i, i < m ∧ p.1.testBit i = true ∧ (mk i).testBit b = true) ∧ p.2 < 4096 ∧ p.1 < 1024
theorem z_orb {t i j : Nat} : (t ||| 2 ^ i).testBit j = true ↔ t.testBit j = true ∨ i = j := by
  rw [Nat.testBit_or, Bool.or_eq_true, Nat.testBit_two_pow, decide_eq_true_eq]
theorem z_ps_in {m : Nat} {mk : Nat → Nat} {a i : Nat} {p : Nat × Nat} (hm : m ≤ 10) (hk : ∀ i, i < m → mk i < 4096) (hi : i < m) (h : z_in1 m mk a p) : z_in1 m mk a (z_ps mk i p) := by
  unfold z_ps
  by_cases h0 : mk i &&& p.2 = 0
  · rw [if_pos h0]
    exact h
  · rw [if_neg h0]
    obtain ⟨h1, h2, h3, h4, h5⟩ := h
    obtain ⟨b, hb1, hb2⟩ := z_share.mp h0
    obtain ⟨j, hj, hj1, hj2⟩ := (h3 b).mp hb2
    have hc : z_cmp m mk a i := z_cmp_tr (h2 j hj1) (z_cmp_st hj hi (z_share.mpr ⟨b, hj2, hb1⟩))
    refine ⟨?_, fun k hk' => ?_, fun b => ?_, z_orlt2 h4 (hk i hi), z_orlt h5 (z_pw (by omega))⟩
    · exact z_orb.mpr (Or.inl h1)
    · rcases z_orb.mp hk' with h | rfl
      · exact h2 k h
      · exact hc
    · show (p.2 ||| mk i).testBit b = true ↔ _
      rw [Nat.testBit_or, Bool.or_eq_true, h3 b]
      constructor
      · rintro (⟨k, q1, q2, q3⟩ | h)
        · exact ⟨k, q1, z_orb.mpr (Or.inl q2), q3⟩
        · exact ⟨i, hi, z_orb.mpr (Or.inr rfl), h⟩
      · rintro ⟨k, q1, q2, q3⟩
        rcases z_orb.mp q2 with q2 | rfl
        · exact Or.inl ⟨k, q1, q2, q3⟩
        · exact Or.inr q3
theorem z_pas_in {m : Nat} {mk : Nat → Nat} {a : Nat} (hm : m ≤ 10) (hk : ∀ i, i < m → mk i < 4096) : ∀ (d i : Nat) (p : Nat × Nat), i + d ≤ m → z_in1 m mk a p → z_in1 m mk a (z_pas mk d i p)
  | 0, _, _, _, h => h
  | d + 1, i, p, hi, h => z_pas_in hm hk d (i + 1) _ (by omega) (z_ps_in hm hk (by omega) h)
theorem z_ps_sub {mk : Nat → Nat} {i : Nat} {p : Nat × Nat} : (∀ j, p.1.testBit j = true → (z_ps mk i p).1.testBit j = true) ∧ ∀ j, p.2.testBit j = true → (z_ps mk i p).2.testBit j = true := by
  unfold z_ps
  by_cases h0 : mk i &&& p.2 = 0
  · rw [if_pos h0]
    exact ⟨fun _ h => h, fun _ h => h⟩
  · rw [if_neg h0]
    exact ⟨fun j h => z_orb.mpr (Or.inl h), fun j h => by show (p.2 ||| mk i).testBit j = true; rw [Nat.testBit_or, h]; rfl⟩
theorem z_pas_sub {mk : Nat → Nat} : ∀ (d i : Nat) (p : Nat × Nat), ∀ j, p.1.testBit j = true → (z_pas mk d i p).1.testBit j = true
  | 0, _, _, _, h => h
  | d + 1, i, p, j, h => z_pas_sub d (i + 1) _ j (z_ps_sub.1 j h)
theorem z_pas_hit {mk : Nat → Nat} : ∀ (d i : Nat) (p : Nat × Nat) (j : Nat), i ≤ j → j < i + d → mk j &&& p.2 ≠ 0 → (z_pas mk d i p).1.testBit j = true
  | 0, i, _, j, h1, h2, _ => by omega
  | d + 1, i, p, j, h1, h2, h3 => by
    by_cases e : i = j
    · subst e
      refine z_pas_sub d (i + 1) _ i ?_
      unfold z_ps
      rw [if_neg h3]
      exact z_orb.mpr (Or.inr rfl)
    · refine z_pas_hit d (i + 1) _ j (by omega) (by omega) ?_
      obtain ⟨b, q1, q2⟩ := z_share.mp h3
      exact z_share.mpr ⟨b, q1, z_ps_sub.2 b q2⟩
theorem z_pas_clo {m : Nat} {mk : Nat → Nat} {a : Nat} {p : Nat × Nat} (h : z_in1 m mk a p) (hc : z_clo m mk (fun i => p.1.testBit i = true)) : ∀ (d i : Nat), i + d ≤ m → z_pas mk d i p = p
  | 0, _, _ => rfl
  | d + 1, i, hi => by
    have e : z_ps mk i p = p := by
      unfold z_ps
      by_cases h0 : mk i &&& p.2 = 0
      · rw [if_pos h0]
      · rw [if_neg h0]
        obtain ⟨b, hb1, hb2⟩ := z_share.mp h0
        obtain ⟨j, hj, hj1, hj2⟩ := (h.2.2.1 b).mp hb2
        have hin : p.1.testBit i = true := hc j i hj1 hj (by omega) (z_share.mpr ⟨b, hj2, hb1⟩)
        refine Prod.ext ?_ ?_
        · refine Nat.eq_of_testBit_eq (fun k => Bool.eq_iff_iff.mpr ⟨fun hk => ?_, fun hk => z_orb.mpr (Or.inl hk)⟩)
          rcases z_orb.mp hk with hk | rfl
          · exact hk
          · exact hin
        · refine Nat.eq_of_testBit_eq (fun k => ?_)
          show (p.2 ||| mk i).testBit k = p.2.testBit k
          rw [Nat.testBit_or]
          by_cases hk : (mk i).testBit k = true
          · have : p.2.testBit k = true := (h.2.2.1 k).mpr ⟨i, by omega, hin, hk⟩
            rw [this]
            rfl
          · rw [Bool.not_eq_true] at hk
            rw [hk, Bool.or_false]
    show z_pas mk d (i + 1) (z_ps mk i p) = p
    rw [e]
    exact z_pas_clo h hc d (i + 1) (by omega)
theorem z_hw26 {X : x_M} {m : Nat} {mk : Nat → Nat} {a : Nat} (hm : m ≤ 10) (hk : ∀ i, i < m → mk i < 4096) (hX : X 2 3 = nI m) (hX4 : ∀ i, i < m → X 4 i = nI (mk i)) {k14 : x_M → Int32 → Int32 → Int32 → Option (Int32 × x_M)} {r : Nat} : ∀ (d i n : Nat) (p : Nat × Nat), m = i + d → d < n → z_in1 m mk a p → f_X4_hangingWith_26 k14 n X (nI p.1) (nI p.2) (nI r) (nI i) = k14 X (nI (z_pas mk d i p).1) (nI (z_pas mk d i p).2) (nI (r + 1)) := by
  intro d
  induction d with
  | zero =>
    intro i n p hi hn h
    obtain ⟨n, rfl⟩ : ∃ a, n = a + 1 := ⟨n - 1, by omega⟩
    rw [f_X4_hangingWith_26_s]
    simp (disch := omega) only [z_gf, hX, z_le, z_add]
    rw [if_pos (by omega)]
    rfl
  | succ d ih =>
    intro i n p hi hn h
    obtain ⟨n, rfl⟩ : ∃ a, n = a + 1 := ⟨n - 1, by omega⟩
    have hki := hk i (by omega)
    rw [f_X4_hangingWith_26_s]
    unfold f_X4_hangingWith_64
    simp (disch := omega) only [z_gf, hX, z_le, z_add, z_rd]
    rw [if_neg (by omega), hX4 i (by omega)]
    simp only [z_and0 hki, z_sl (show i < 10 by omega), z_or32]
    have h' := z_ps_in hm hk (show i < m by omega) h
    show _ = k14 X (nI (z_pas mk d (i + 1) (z_ps mk i p)).1) (nI (z_pas mk d (i + 1) (z_ps mk i p)).2) (nI (r + 1))
    rw [← ih (i + 1) n (z_ps mk i p) (by omega) (by omega) h']
    unfold z_ps
    by_cases h0 : mk i &&& p.2 = 0
    · rw [if_pos h0, if_pos h0]
    · rw [if_neg h0, if_neg h0]
theorem z_hw14 {X : x_M} {m : Nat} {mk : Nat → Nat} {a : Nat} (hm : m ≤ 10) (ha : a < m) (hk : ∀ i, i < m → mk i < 4096) (hX : X 2 3 = nI m) (hX4 : ∀ i, i < m → X 4 i = nI (mk i)) : ∀ (e r n : Nat) (p : Nat × Nat), m = r + e → e < n → z_in1 m mk a p → (z_clo m mk (fun i => p.1.testBit i = true) ∨ r + 1 ≤ z_crd p.1 m) → ∃ s, s < 1024 ∧ f_X4_hangingWith_14 n X (nI p.1) (nI p.2) (nI r) = some (nI s, X) ∧ z_isC m mk a s := by
  intro e
  induction e with
  | zero =>
    intro r n p hr hn h hP
    obtain ⟨n, rfl⟩ : ∃ a, n = a + 1 := ⟨n - 1, by omega⟩
    rw [f_X4_hangingWith_14_s]
    simp (disch := omega) only [z_gf, hX, z_le]
    rw [if_pos (by omega)]
    refine ⟨p.1, h.2.2.2.2, rfl, z_isC_mk h.1 ?_ h.2.1⟩
    rcases hP with hP | hP
    · exact hP
    · have := z_crd_le (t := p.1) m
      omega
  | succ e ih =>
    intro r n p hr hn h hP
    obtain ⟨n, rfl⟩ : ∃ a, n = a + 1 := ⟨n - 1, by omega⟩
    rw [f_X4_hangingWith_14_s]
    simp (disch := omega) only [z_gf, hX, z_le]
    rw [if_neg (by omega), z_hw26 hm hk hX hX4 m 0 x_FU p (by omega) (by unfold x_FU; omega) h]
    have h' := z_pas_in hm hk m 0 p (by omega) h
    refine ih (r + 1) n _ (by omega) (by omega) h' ?_
    by_cases he : (z_pas mk m 0 p).1 = p.1
    · left
      rw [he]
      intro i j h1 h2 h3 h4
      rw [← he]
      refine z_pas_hit m 0 p j (by omega) (by omega) ?_
      obtain ⟨b, q1, q2⟩ := z_share.mp h4
      exact z_share.mpr ⟨b, q2, (h.2.2.1 b).mpr ⟨i, h2, h1, q1⟩⟩
    · right
      rcases hP with hP | hP
      · rw [z_pas_clo h hP m 0 (by omega)] at he
        exact absurd rfl he
      · have := z_diff (m := m) (z_pas_sub m 0 p) (fun i hi => z_cmp_lt ha (h'.2.1 i hi)) he
        omega
theorem z_hw {X : x_M} {m : Nat} {mk : Nat → Nat} {a : Nat} (hm : m ≤ 10) (ha : a < m) (hk : ∀ i, i < m → mk i < 4096) (hX : X 2 3 = nI m) (hX4 : ∀ i, i < m → X 4 i = nI (mk i)) : ∃ s, s < 1024 ∧ f_X4_hangingWith X (nI a) = some (nI s, X) ∧ z_isC m mk a s := by
  unfold f_X4_hangingWith
  rw [z_rd (by omega) (by omega), z_sl (by omega), hX4 a ha]
  refine z_hw14 hm ha hk hX hX4 m 0 x_FU (2 ^ a, mk a) (by omega) (by unfold x_FU; omega) ⟨Nat.testBit_two_pow_self, fun i hi => ?_, fun b => ?_, hk a ha, z_pw (by omega)⟩ (Or.inr (z_crd_pos Nat.testBit_two_pow_self m ha))
  · rw [Nat.testBit_two_pow, decide_eq_true_eq] at hi
    subst hi
    exact z_cmp_rf
  · constructor
    · intro h
      exact ⟨a, ha, Nat.testBit_two_pow_self, h⟩
    · rintro ⟨i, h1, h2, h3⟩
      have h2 : (2 ^ a).testBit i = true := h2
      rw [Nat.testBit_two_pow, decide_eq_true_eq] at h2
      subst h2
      exact h3
/-! ===== rings: the reference ===== -/
def z_om (mk : Nat → Nat) (s : Nat) : Nat → Nat → Nat → Nat
  | 0, _, th => th
  | d + 1, i, th => z_om mk s d (i + 1) (if s.testBit i = true then th ||| mk i else th)
def z_os (mk : Nat → Nat) (th : Nat) : Nat → Nat → Nat → Nat
  | 0, _, s => s
  | d + 1, i, s => z_os mk th d (i + 1) (if mk i &&& th = 0 then s else s ||| 2 ^ i)
theorem z_om_b {mk : Nat → Nat} {s b : Nat} : ∀ (d i th : Nat), (z_om mk s d i th).testBit b = true ↔ th.testBit b = true ∨ ∃ j, i ≤ j ∧ j < i + d ∧ s.testBit j = true ∧ (mk j).testBit b = true
  | 0, i, th => by
    constructor
    · intro h
      exact Or.inl h
    · rintro (h | ⟨j, h1, h2, -⟩)
      · exact h
      · omega
  | d + 1, i, th => by
    rw [z_om, z_om_b d (i + 1)]
    by_cases h : s.testBit i = true
    · rw [if_pos h, Nat.testBit_or, Bool.or_eq_true]
      constructor
      · rintro ((h1 | h1) | ⟨j, q1, q2, q3⟩)
        · exact Or.inl h1
        · exact Or.inr ⟨i, by omega, by omega, h, h1⟩
        · exact Or.inr ⟨j, by omega, by omega, q3⟩
      · rintro (h1 | ⟨j, q1, q2, q3, q4⟩)
        · exact Or.inl (Or.inl h1)
        · by_cases e : j = i
          · subst e
            exact Or.inl (Or.inr q4)
          · exact Or.inr ⟨j, by omega, by omega, q3, q4⟩
    · rw [if_neg h]
      constructor
      · rintro (h1 | ⟨j, q1, q2, q3⟩)
        · exact Or.inl h1
        · exact Or.inr ⟨j, by omega, by omega, q3⟩
      · rintro (h1 | ⟨j, q1, q2, q3, q4⟩)
        · exact Or.inl h1
        · by_cases e : j = i
          · subst e
            exact absurd q3 h
          · exact Or.inr ⟨j, by omega, by omega, q3, q4⟩
theorem z_os_b {mk : Nat → Nat} {th k : Nat} : ∀ (d i s : Nat), (z_os mk th d i s).testBit k = true ↔ s.testBit k = true ∨ (i ≤ k ∧ k < i + d ∧ mk k &&& th ≠ 0)
  | 0, i, s => by
    constructor
    · intro h
      exact Or.inl h
    · rintro (h | ⟨h1, h2, -⟩)
      · exact h
      · omega
  | d + 1, i, s => by
    rw [z_os, z_os_b d (i + 1)]
    by_cases h : mk i &&& th = 0
    · rw [if_pos h]
      constructor
      · rintro (h1 | ⟨q1, q2, q3⟩)
        · exact Or.inl h1
        · exact Or.inr ⟨by omega, by omega, q3⟩
      · rintro (h1 | ⟨q1, q2, q3⟩)
        · exact Or.inl h1
        · by_cases e : k = i
          · subst e
            exact absurd h q3
          · exact Or.inr ⟨by omega, by omega, q3⟩
    · rw [if_neg h, z_orb]
      constructor
      · rintro ((h1 | rfl) | ⟨q1, q2, q3⟩)
        · exact Or.inl h1
        · exact Or.inr ⟨by omega, by omega, h⟩
        · exact Or.inr ⟨by omega, by omega, q3⟩
      · rintro (h1 | ⟨q1, q2, q3⟩)
        · exact Or.inl (Or.inl h1)
        · by_cases e : k = i
          · exact Or.inl (Or.inr e.symm)
          · exact Or.inr ⟨by omega, by omega, q3⟩
theorem z_om_lt {mk : Nat → Nat} {s m : Nat} (hk : ∀ i, i < m → mk i < 4096) : ∀ (d i th : Nat), i + d ≤ m → th < 4096 → z_om mk s d i th < 4096
  | 0, _, _, _, h => h
  | d + 1, i, th, hi, h => by
    rw [z_om]
    refine z_om_lt hk d (i + 1) _ (by omega) ?_
    split
    · exact z_orlt2 h (hk i (by omega))
    · exact h
theorem z_os_lt {mk : Nat → Nat} {th m : Nat} (hm : m ≤ 10) : ∀ (d i s : Nat), i + d ≤ m → s < 1024 → z_os mk th d i s < 1024
  | 0, _, _, _, h => h
  | d + 1, i, s, hi, h => by
    rw [z_os]
    refine z_os_lt hm d (i + 1) _ (by omega) ?_
    split
    · exact h
    · exact z_orlt h (z_pw (by omega))
theorem z_ro19 {M : x_M} {m : Nat} {mk : Nat → Nat} (hm : m ≤ 10) (hk : ∀ i, i < m → mk i < 4096) (hM : M 1 4 = nI m) (hM4 : ∀ i, i < m → M 1 (21 + 3 * i) = nI (mk i)) {k6 : x_M → Int32 → Int32 → Option (Int32 × x_M)} {s w : Nat} (hs : s < 1024) : ∀ (d i n th : Nat), m = i + d → d < n → f_X12_ringOf_19 k6 n M (nI s) (nI w) (nI th) (nI i) = f_X12_ringOf_72 k6 x_FU M (nI s) (nI w) (nI (z_om mk s d i th)) (nI 0) := by
  intro d
  induction d with
  | zero =>
    intro i n th hi hn
    obtain ⟨n, rfl⟩ : ∃ a, n = a + 1 := ⟨n - 1, by omega⟩
    rw [f_X12_ringOf_19_s]
    simp (disch := omega) only [z_rd, hM, z_le]
    rw [if_pos (by omega)]
    rfl
  | succ d ih =>
    intro i n th hi hn
    obtain ⟨n, rfl⟩ : ∃ a, n = a + 1 := ⟨n - 1, by omega⟩
    have hr : s / 2 ^ i % 2 < 2 := Nat.mod_lt _ (by omega)
    rw [f_X12_ringOf_19_s]
    unfold f_X12_ringOf_60
    simp (disch := omega) only [z_rd, hM, z_le, z_sr, z_add, z_mul, z_eq, z_or32]
    rw [if_neg (by omega), show 20 + 3 * i + 1 = 21 + 3 * i by omega, hM4 i (by omega), z_or32, z_om]
    by_cases h : s / 2 ^ i % 2 = 1
    · rw [if_pos h, if_pos (z_tb.mpr h)]
      exact ih (i + 1) n _ (by omega) (by omega)
    · rw [if_neg h, if_neg (fun q => h (z_tb.mp q)), Nat.or_zero]
      exact ih (i + 1) n _ (by omega) (by omega)
theorem z_ro72 {M : x_M} {m : Nat} {mk : Nat → Nat} (hm : m ≤ 10) (hk : ∀ i, i < m → mk i < 4096) (hM : M 1 4 = nI m) (hM4 : ∀ i, i < m → M 1 (21 + 3 * i) = nI (mk i)) {k6 : x_M → Int32 → Int32 → Option (Int32 × x_M)} {w th : Nat} : ∀ (d i n s : Nat), m = i + d → d < n → f_X12_ringOf_72 k6 n M (nI s) (nI w) (nI th) (nI i) = k6 M (nI (z_os mk th d i s)) (nI w) := by
  intro d
  induction d with
  | zero =>
    intro i n s hi hn
    obtain ⟨n, rfl⟩ : ∃ a, n = a + 1 := ⟨n - 1, by omega⟩
    rw [f_X12_ringOf_72_s]
    simp (disch := omega) only [z_rd, hM, z_le]
    rw [if_pos (by omega)]
    rfl
  | succ d ih =>
    intro i n s hi hn
    obtain ⟨n, rfl⟩ : ∃ a, n = a + 1 := ⟨n - 1, by omega⟩
    have hki := hk i (by omega)
    rw [f_X12_ringOf_72_s]
    unfold f_X12_ringOf_112
    simp (disch := omega) only [z_rd, hM, z_le, z_add, z_mul, z_sl]
    rw [if_neg (by omega), show 20 + 3 * i + 1 = 21 + 3 * i by omega, hM4 i (by omega), z_os]
    simp only [z_and0 hki, z_or32]
    by_cases h : mk i &&& th = 0
    · rw [if_pos h, if_pos h, Nat.or_zero]
      exact ih (i + 1) n _ (by omega) (by omega)
    · rw [if_neg h, if_neg h]
      exact ih (i + 1) n _ (by omega) (by omega)
theorem z_ro6 {M : x_M} {m : Nat} {mk : Nat → Nat} {a : Nat} (hm : m ≤ 10) (ha : a < m) (hk : ∀ i, i < m → mk i < 4096) (hM : M 1 4 = nI m) (hM4 : ∀ i, i < m → M 1 (21 + 3 * i) = nI (mk i)) : ∀ (e n s w : Nat), m + 1 ≤ z_crd s m + e → e + 1 < n → s < 1024 → w < 1024 → w ≠ s → s.testBit a = true → (∀ i, s.testBit i = true → z_cmp m mk a i) → ∃ r, r < 1024 ∧ f_X12_ringOf_6 n M (nI s) (nI w) = some (nI r, M) ∧ z_isC m mk a r := by
  intro e
  induction e with
  | zero =>
    intro n s w h1
    have := z_crd_le (t := s) m
    omega
  | succ e ih =>
    intro n s w h1 hn hs hw hne h2 h3
    obtain ⟨n, rfl⟩ : ∃ a, n = a + 1 := ⟨n - 1, by omega⟩
    rw [f_X12_ringOf_6_s]
    simp (disch := omega) only [z_eq]
    rw [if_neg hne, z_ro19 hm hk hM hM4 hs m 0 x_FU 0 (by omega) (by unfold x_FU; omega), z_ro72 hm hk hM hM4 m 0 x_FU s (by omega) (by unfold x_FU; omega)]
    have hth : ∀ b, (z_om mk s m 0 0).testBit b = true ↔ ∃ j, j < m ∧ s.testBit j = true ∧ (mk j).testBit b = true := by
      intro b
      rw [z_om_b, Nat.zero_testBit]
      constructor
      · rintro (h | ⟨j, q1, q2, q3⟩)
        · cases h
        · exact ⟨j, by omega, q3⟩
      · rintro ⟨j, q1, q3⟩
        exact Or.inr ⟨j, by omega, by omega, q3⟩
    have hs' : ∀ k, (z_os mk (z_om mk s m 0 0) m 0 s).testBit k = true ↔ s.testBit k = true ∨ (k < m ∧ mk k &&& z_om mk s m 0 0 ≠ 0) := by
      intro k
      rw [z_os_b]
      constructor
      · rintro (h | ⟨-, q2, q3⟩)
        · exact Or.inl h
        · exact Or.inr ⟨by omega, q3⟩
      · rintro (h | ⟨q2, q3⟩)
        · exact Or.inl h
        · exact Or.inr ⟨by omega, by omega, q3⟩
    have hlt : z_os mk (z_om mk s m 0 0) m 0 s < 1024 := z_os_lt hm m 0 s (by omega) hs
    have hcm : ∀ i, (z_os mk (z_om mk s m 0 0) m 0 s).testBit i = true → z_cmp m mk a i := by
      intro i hi
      rcases (hs' i).mp hi with h | ⟨q1, q2⟩
      · exact h3 i h
      · obtain ⟨b, p1, p2⟩ := z_share.mp q2
        obtain ⟨j, r1, r2, r3⟩ := (hth b).mp p2
        exact z_cmp_tr (h3 j r2) (z_cmp_st r1 q1 (z_share.mpr ⟨b, r3, p1⟩))
    by_cases he : z_os mk (z_om mk s m 0 0) m 0 s = s
    · obtain ⟨n, rfl⟩ : ∃ a, n = a + 1 := ⟨n - 1, by omega⟩
      rw [he, f_X12_ringOf_6_s, if_pos rfl]
      refine ⟨s, hs, rfl, z_isC_mk h2 (fun i j q1 q2 q3 q4 => ?_) h3⟩
      rw [← he]
      refine (hs' j).mpr (Or.inr ⟨q3, ?_⟩)
      obtain ⟨b, p1, p2⟩ := z_share.mp q4
      exact z_share.mpr ⟨b, p2, (hth b).mpr ⟨i, q2, q1, p1⟩⟩
    · have hd := z_diff (m := m) (fun i hi => (hs' i).mpr (Or.inl hi)) (fun i hi => z_cmp_lt ha (hcm i hi)) he
      exact ih n _ s (by omega) (by omega) hlt hs (fun h => he h.symm) ((hs' a).mpr (Or.inl h2)) hcm
theorem z_ro {M : x_M} {m : Nat} {mk : Nat → Nat} {a : Nat} (hm : m ≤ 10) (ha : a < m) (hk : ∀ i, i < m → mk i < 4096) (hM : M 1 4 = nI m) (hM4 : ∀ i, i < m → M 1 (21 + 3 * i) = nI (mk i)) : ∃ s, s < 1024 ∧ f_X12_ringOf M (nI a) = some (nI s, M) ∧ z_isC m mk a s := by
  unfold f_X12_ringOf
  rw [z_sl (by omega)]
  have hp : 0 < 2 ^ a := Nat.pow_pos (by omega)
  refine z_ro6 hm ha hk hM hM4 (m + 1) x_FU (2 ^ a) 0 (by omega) (by unfold x_FU; omega) (z_pw (by omega)) (by omega) (by omega) Nat.testBit_two_pow_self (fun i hi => ?_)
  rw [Nat.testBit_two_pow, decide_eq_true_eq] at hi
  subst hi
  exact z_cmp_rf
