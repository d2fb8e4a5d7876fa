/-! ===== words and signs of a text ===== -/
def z_by (b : Nat) : Int32 := (nI b).toInt8.toInt32
theorem z_by_lo : ∀ b, b < 128 → z_by b = nI b := by decide +kernel
theorem z_by_hi : ∀ b, b < 256 → 128 ≤ b → z_by b < nI 0 := by decide +kernel
theorem z_by_let : ∀ b, b < 256 → ((z_by b &&& nI 255).toUInt32 % 65536).toInt32 = nI b := by decide +kernel
theorem z_by_eq {a b : Nat} (hb : b < 256) (ha : a < 128) : (z_by b = nI a) = (b = a) := by
  by_cases h : b < 128
  · rw [z_by_lo b h, z_eq (by omega) (by omega)]
  · have h1 := z_by_hi b hb (by omega)
    refine propext ⟨fun e => ?_, fun e => by omega⟩
    rw [e, z_lt (by omega) (by omega)] at h1
    omega
theorem z_by_in {lo hi b : Nat} (hb : b < 256) (hlo : lo < 128) (hhi : hi < 128) : (z_by b < nI lo ∨ nI hi < z_by b) = (b < lo ∨ hi < b) := by
  by_cases h : b < 128
  · rw [z_by_lo b h, z_lt (by omega) (by omega), z_lt (by omega) (by omega)]
  · have h1 := z_by_hi b hb (by omega)
    refine propext ⟨fun e => by omega, fun e => Or.inl ?_⟩
    by_cases h0 : lo = 0
    · rw [h0]
      exact h1
    · exact Int32.lt_trans h1 (by rw [z_lt (by omega) (by omega)]; omega)
theorem z_ieq {α : Type} {a b : Nat} {A C : α} (ha : a < 2147483648) (hb : b < 2147483648) : (if nI a = nI b then A else C) = if a = b then A else C := by
  simp only [z_eq ha hb]
theorem z_ilt {α : Type} {a b : Nat} {A C : α} (ha : a < 2147483648) (hb : b < 2147483648) : (if nI a < nI b then A else C) = if a < b then A else C := by
  simp only [z_lt ha hb]
theorem z_ile {α : Type} {a b : Nat} {A C : α} (ha : a < 2147483648) (hb : b < 2147483648) : (if nI a ≤ nI b then A else C) = if a ≤ b then A else C := by
  simp only [z_le ha hb]
theorem z_ile0 {α : Type} {a : Nat} {A C : α} (ha : a < 2147483648) : (if nI a ≤ 0 then A else C) = if a = 0 then A else C := by
  simp only [z_le0 ha]
theorem z_ieq0 {α : Type} {a : Nat} {A C : α} (ha : a < 2147483648) : (if nI a = 0 then A else C) = if a = 0 then A else C := by
  simp only [z_eq0 ha]
theorem z_iby {α : Type} {a b : Nat} {A C : α} (hb : b < 256) (ha : a < 128) : (if z_by b = nI a then A else C) = if b = a then A else C := by
  simp only [z_by_eq hb ha]
def z_kd (b : Nat) : Nat := if b < 97 ∨ 122 < b then (if b < 48 ∨ 57 < b then 3 else 2) else 1
theorem z_kd_b {b : Nat} : 1 ≤ z_kd b ∧ z_kd b ≤ 3 := by
  unfold z_kd
  split
  · split <;> omega
  · omega
def z_ka (B : Nat → Nat) (n p : Nat) : Nat := if p < n then z_kd (B p) else 0
theorem z_ka_b {B : Nat → Nat} {n p : Nat} : z_ka B n p ≤ 3 := by
  unfold z_ka
  split
  · exact z_kd_b.2
  · omega
theorem z_ka_0 {B : Nat → Nat} {n p : Nat} : z_ka B n p = 0 ↔ n ≤ p := by
  unfold z_ka
  split
  · have := (z_kd_b (b := B p)).1
    omega
  · omega
def z_bk (B : Nat → Nat) : Nat → Nat → Nat
  | 0, p => p
  | e + 1, p => if B p = 32 then z_bk B e (p + 1) else p
def z_bl (B : Nat → Nat) (n p : Nat) : Nat := z_bk B (n - p) p
theorem z_bk_b {B : Nat → Nat} : ∀ (e p : Nat), p ≤ z_bk B e p ∧ z_bk B e p ≤ p + e
  | 0, p => ⟨Nat.le_refl _, Nat.le_refl _⟩
  | e + 1, p => by
    rw [z_bk]
    split
    · have := z_bk_b (B := B) e (p + 1)
      omega
    · omega
theorem z_bl_b {B : Nat → Nat} {n p : Nat} (h : p ≤ n) : p ≤ z_bl B n p ∧ z_bl B n p ≤ n := by
  have := z_bk_b (B := B) (n - p) p
  unfold z_bl
  omega
def z_ex (B : Nat → Nat) (k : Nat) : Nat → Nat → Nat
  | 0, p => p
  | e + 1, p => if z_kd (B p) = k then z_ex B k e (p + 1) else p
theorem z_ex_b {B : Nat → Nat} {k : Nat} : ∀ (e p : Nat), p ≤ z_ex B k e p ∧ z_ex B k e p ≤ p + e ∧ ∀ i, p ≤ i → i < z_ex B k e p → z_kd (B i) = k
  | 0, p => ⟨Nat.le_refl _, Nat.le_refl _, fun i h1 h2 => by rw [z_ex] at h2; omega⟩
  | e + 1, p => by
    rw [z_ex]
    by_cases c : z_kd (B p) = k
    · rw [if_pos c]
      obtain ⟨h1, h2, h3⟩ := z_ex_b (B := B) (k := k) e (p + 1)
      refine ⟨by omega, by omega, fun i q1 q2 => ?_⟩
      by_cases q : i = p
      · rw [q]
        exact c
      · exact h3 i (by omega) q2
    · rw [if_neg c]
      exact ⟨Nat.le_refl _, by omega, fun i h1 h2 => by omega⟩
def z_en (B : Nat → Nat) (n s : Nat) : Nat := if n ≤ s then s else if z_ka B n s = 3 then s + 1 else z_ex B (z_ka B n s) (n - (s + 1)) (s + 1)
theorem z_en_b {B : Nat → Nat} {n s : Nat} (h : s ≤ n) : s ≤ z_en B n s ∧ z_en B n s ≤ n ∧ (z_ka B n s ≠ 0 → s < z_en B n s) ∧ (z_ka B n s = 3 → z_en B n s = s + 1) ∧ ∀ i, s ≤ i → i < z_en B n s → z_kd (B i) = z_ka B n s := by
  have h0 := z_ka_0 (B := B) (n := n) (p := s)
  unfold z_en
  by_cases c : n ≤ s
  · rw [if_pos c]
    exact ⟨by omega, by omega, by omega, by omega, fun i h1 h2 => by omega⟩
  · rw [if_neg c]
    have hs : z_ka B n s = z_kd (B s) := if_pos (by omega)
    by_cases c3 : z_ka B n s = 3
    · rw [if_pos c3]
      refine ⟨by omega, by omega, by omega, by omega, fun i h1 h2 => ?_⟩
      rw [show i = s by omega, hs]
    · rw [if_neg c3]
      obtain ⟨h1, h2, h3⟩ := z_ex_b (B := B) (k := z_ka B n s) (n - (s + 1)) (s + 1)
      refine ⟨by omega, by omega, by omega, fun q => absurd q c3, fun i q1 q2 => ?_⟩
      by_cases q : i = s
      · rw [q, hs]
      · exact h3 i (by omega) q2
/-! ===== the class's words ===== -/
def z_bX (X : x_M) (B : Nat → Nat) (n : Nat) : Prop := n ≤ 132 ∧ X 80 4 = nI n ∧ ∀ i, i < n → B i < 256 ∧ X 81 i = z_by (B i)
theorem z_wkdX {X : x_M} {k : Nat} (h : X 80 8 = nI k) (hk : k ≤ 3) : f_X7_isWordKind X = some (if k = 1 ∨ k = 2 then nI 1 else nI 0, X) := by
  unfold f_X7_isWordKind f_X7_isWordKind_16
  rw [z_gf, z_gf, h, z_ieq (by omega) (by omega), z_ieq (by omega) (by omega)]
  by_cases c : k = 1
  · rw [if_pos c, if_pos (Or.inl c)]
  · rw [if_neg c]
    by_cases c2 : k = 2
    · rw [if_pos c2, if_pos (Or.inr c2)]
    · rw [if_neg c2, if_neg (by omega)]
theorem z_blX {X : x_M} {B : Nat → Nat} {n : Nat} (h : z_bX X B n) : ∀ (e p fu : Nat), n = p + e → e < fu → f_X7_behindBlanks_2 fu X (nI p) = some (nI (z_bk B e p), X) := by
  obtain ⟨h1, h2, h3⟩ := h
  intro e
  induction e with
  | zero =>
    intro p fu hp hfu
    obtain ⟨fu, rfl⟩ : ∃ a, fu = a + 1 := ⟨fu - 1, by omega⟩
    rw [f_X7_behindBlanks_2_s, z_gf, h2, if_pos (by rw [z_le (by omega) (by omega)]; omega)]
    rfl
  | succ e ih =>
    intro p fu hp hfu
    obtain ⟨fu, rfl⟩ : ∃ a, fu = a + 1 := ⟨fu - 1, by omega⟩
    obtain ⟨q1, q2⟩ := h3 p (by omega)
    rw [f_X7_behindBlanks_2_s, z_gf, h2, if_neg (by rw [z_le (by omega) (by omega)]; omega), z_rd (by omega) (by omega), q2, z_iby q1 (by omega), z_bk]
    by_cases c : B p = 32
    · rw [if_pos c, if_pos c, z_add]
      exact ih (p + 1) fu (by omega) (by omega)
    · rw [if_neg c, if_neg c]
      rfl
theorem z_if2 {α : Type} {a b : Prop} [Decidable a] [Decidable b] {A B : α} : (if a then A else if b then A else B) = if a ∨ b then A else B := by
  by_cases h : a
  · rw [if_pos h, if_pos (Or.inl h)]
  · by_cases g : b
    · rw [if_neg h, if_pos g, if_pos (Or.inr g)]
    · rw [if_neg h, if_neg g, if_neg (fun k => k.elim h g)]
theorem z_kaX {X : x_M} {B : Nat → Nat} {n p : Nat} (h : z_bX X B n) (hp : p ≤ 132) : f_X7_kindAt X (nI p) = some (nI (z_ka B n p), X) := by
  obtain ⟨h1, h2, h3⟩ := h
  unfold f_X7_kindAt f_X7_kindAt_31 f_X7_kindAt_47 z_ka
  rw [z_gf, h2, z_ilt (by omega) (by omega)]
  by_cases c : p < n
  · obtain ⟨q1, q2⟩ := h3 p c
    rw [if_pos c, if_pos c, z_rd (by omega) (by omega), q2, z_if2, z_if2]
    unfold z_kd
    have e1 : (z_by (B p) < nI 97 ∨ nI 122 < z_by (B p)) = (B p < 97 ∨ 122 < B p) := z_by_in q1 (by omega) (by omega)
    simp only [e1]
    by_cases c1 : B p < 97 ∨ 122 < B p
    · rw [if_pos c1, if_pos c1]
      have e2 : (z_by (B p) < nI 48 ∨ nI 57 < z_by (B p)) = (B p < 48 ∨ 57 < B p) := z_by_in q1 (by omega) (by omega)
      simp only [e2]
      by_cases c2 : B p < 48 ∨ 57 < B p
      · rw [if_pos c2, if_pos c2]
      · rw [if_neg c2, if_neg c2]
    · rw [if_neg c1, if_neg c1]
  · rw [if_neg c, if_neg c]
theorem z_exX {X : x_M} {B : Nat → Nat} {n k : Nat} (h : z_bX X B n) (h8 : X 80 8 = nI k) (hk : k = 1 ∨ k = 2) : ∀ (e p fu : Nat), n = p + e → e < fu → f_X7_behindKind_11 fu X (nI p) = some (nI (z_ex B k e p), X) := by
  obtain ⟨h1, h2, h3⟩ := id h
  intro e
  induction e with
  | zero =>
    intro p fu hp hfu
    obtain ⟨fu, rfl⟩ : ∃ a, fu = a + 1 := ⟨fu - 1, by omega⟩
    rw [f_X7_behindKind_11_s, z_gf, h2, if_pos (by rw [z_le (by omega) (by omega)]; omega)]
    rfl
  | succ e ih =>
    intro p fu hp hfu
    obtain ⟨fu, rfl⟩ : ∃ a, fu = a + 1 := ⟨fu - 1, by omega⟩
    have hka : z_ka B n p = z_kd (B p) := if_pos (by omega)
    have hkb := z_kd_b (b := B p)
    rw [f_X7_behindKind_11_s, z_gf, h2, if_neg (by rw [z_le (by omega) (by omega)]; omega), z_wkdX h8 (by omega), z_bn, if_pos hk, if_neg z_n10, z_kaX h (by omega), z_bn, z_gf, h8, hka, z_ieq (by omega) (by omega), z_ex]
    by_cases c : z_kd (B p) = k
    · rw [if_pos c, if_pos c, z_add]
      exact ih (p + 1) fu (by omega) (by omega)
    · rw [if_neg c, if_neg c]
      rfl
theorem z_enX {X : x_M} {B : Nat → Nat} {n s : Nat} (h : z_bX X B n) (hs : s ≤ n) (h8 : X 80 8 = nI (z_ka B n s)) : f_X7_behindKind X (nI s) = some (nI (z_en B n s), X) := by
  obtain ⟨h1, h2, h3⟩ := id h
  have hkb := z_ka_b (B := B) (n := n) (p := s)
  have hk0 := z_ka_0 (B := B) (n := n) (p := s)
  have stop : ∀ p fu, p ≤ 132 → ¬ (z_ka B n s = 1 ∨ z_ka B n s = 2) → f_X7_behindKind_11 (fu + 1) X (nI p) = some (nI p, X) := by
    intro p fu hp hno
    rw [f_X7_behindKind_11_s, z_gf, h2, z_wkdX h8 (by omega), z_bn, if_neg hno, if_pos z_n00]
    exact ite_self _
  unfold f_X7_behindKind z_en
  rw [z_gf, h2, z_add, z_ilt (by omega) (by omega)]
  by_cases c : n ≤ s
  · have e0 : z_ka B n s = 0 := hk0.mpr c
    have e1 := stop n 99999 (by omega) (by omega)
    rw [if_pos (show n < s + 1 by omega), if_pos c, show s = n by omega]
    exact e1
  · rw [if_neg (show ¬ n < s + 1 by omega), if_neg c]
    by_cases c3 : z_ka B n s = 3
    · rw [if_pos c3]
      exact stop (s + 1) 99999 (by omega) (by omega)
    · rw [if_neg c3]
      exact z_exX h h8 (by omega) (n - (s + 1)) (s + 1) x_FU (by omega) (by unfold x_FU; omega)
/-- whether a word or sign is glued to the word ahead -/
def z_gl (B : Nat → Nat) (n p k : Nat) : Nat := if (k = 1 ∨ k = 2) ∧ (z_ka B n (z_bl B n p) = 1 ∨ z_ka B n (z_bl B n p) = 2) ∧ z_bl B n p = p then 1 else 0
theorem z_gl_b {B : Nat → Nat} {n p k : Nat} : z_gl B n p k ≤ 1 := by
  unfold z_gl
  split <;> omega
theorem z_nx {X : x_M} {B : Nat → Nat} {n p k : Nat} (h : z_bX X B n) (hp : p ≤ n) (h7 : X 80 7 = nI p) (h8 : X 80 8 = nI k) (hk : k ≤ 3) : ∃ X', f_X7_next X = some ((), X') ∧ X' 80 6 = nI (z_bl B n p) ∧ X' 80 7 = nI (z_en B n (z_bl B n p)) ∧ X' 80 8 = nI (z_ka B n (z_bl B n p)) ∧ X' 80 9 = nI (z_gl B n p k) ∧ (∀ q, q ≠ 80 → X' q = X q) ∧ ∀ c, c ≠ 6 → c ≠ 7 → c ≠ 8 → c ≠ 9 → X' 80 c = X 80 c := by
  obtain ⟨h1, h2, h3⟩ := id h
  obtain ⟨l1, l2⟩ := z_bl_b (B := B) hp
  have hkb := z_ka_b (B := B) (n := n) (p := z_bl B n p)
  unfold f_X7_next f_X7_next_67 f_X7_next_68
  have e1 : f_X7_behindBlanks X (nI p) = some (nI (z_bl B n p), X) := z_blX h (n - p) p x_FU (by omega) (by unfold x_FU; omega)
  rw [z_gf, h7, z_wkdX h8 hk, z_bn, e1, z_bn, z_pf, z_gf, z_upr, z_us]
  have hX1 : z_bX (x_up X 80 6 (nI (z_bl B n p))) B n := ⟨h1, by rw [z_upr, z_un (by omega)]; exact h2, fun i hi => by rw [z_upn (by omega)]; exact h3 i hi⟩
  rw [z_kaX hX1 (by omega), z_bn, z_pf, z_gf]
  have hX2 : z_bX (x_up (x_up X 80 6 (nI (z_bl B n p))) 80 8 (nI (z_ka B n (z_bl B n p)))) B n := ⟨h1, by rw [z_upr, z_un (by omega), z_upr, z_un (by omega)]; exact h2, fun i hi => by rw [z_upn (by omega), z_upn (by omega)]; exact h3 i hi⟩
  have e6 : (x_up (x_up X 80 6 (nI (z_bl B n p))) 80 8 (nI (z_ka B n (z_bl B n p)))) 80 6 = nI (z_bl B n p) := by rw [z_upr, z_un (by omega), z_upr, z_us]
  rw [e6, z_enX hX2 l2 (by rw [z_upr, z_us]), z_bn, z_pf]
  have e8 : (x_up (x_up (x_up X 80 6 (nI (z_bl B n p))) 80 8 (nI (z_ka B n (z_bl B n p)))) 80 7 (nI (z_en B n (z_bl B n p)))) 80 8 = nI (z_ka B n (z_bl B n p)) := by rw [z_upr, z_un (by omega), z_upr, z_us]
  have e6' : (x_up (x_up (x_up X 80 6 (nI (z_bl B n p))) 80 8 (nI (z_ka B n (z_bl B n p)))) 80 7 (nI (z_en B n (z_bl B n p)))) 80 6 = nI (z_bl B n p) := by rw [z_upr, z_un (by omega)]; exact e6
  rw [z_wkdX e8 (by omega), z_bn, z_gf, e6', z_ieq (by omega) (by omega), z_cz0, z_cz1]
  have fin : ∀ v : Nat, ∃ X', x_pf (x_up (x_up (x_up X 80 6 (nI (z_bl B n p))) 80 8 (nI (z_ka B n (z_bl B n p)))) 80 7 (nI (z_en B n (z_bl B n p)))) 80 9 (nI v) (fun M => some ((), M)) = some ((), X') ∧ X' 80 6 = nI (z_bl B n p) ∧ X' 80 7 = nI (z_en B n (z_bl B n p)) ∧ X' 80 8 = nI (z_ka B n (z_bl B n p)) ∧ X' 80 9 = nI v ∧ (∀ q, q ≠ 80 → X' q = X q) ∧ ∀ c, c ≠ 6 → c ≠ 7 → c ≠ 8 → c ≠ 9 → X' 80 c = X 80 c := by
    intro v
    rw [z_pf]
    refine ⟨_, rfl, ?_, ?_, ?_, ?_, fun q hq => ?_, fun c c1 c2 c3 c4 => ?_⟩
    · rw [z_upr, z_un (by omega)]
      exact e6'
    · rw [z_upr, z_un (by omega), z_upr, z_us]
    · rw [z_upr, z_un (by omega)]
      exact e8
    · rw [z_upr, z_us]
    · rw [z_upn hq, z_upn hq, z_upn hq, z_upn hq]
    · rw [z_upr, z_un c4, z_upr, z_un c2, z_upr, z_un c3, z_upr, z_un c1]
  unfold z_gl
  by_cases c1 : k = 1 ∨ k = 2
  · rw [if_pos c1, if_neg z_n10]
    by_cases c2 : z_ka B n (z_bl B n p) = 1 ∨ z_ka B n (z_bl B n p) = 2
    · rw [if_pos c2, if_neg z_n10]
      by_cases c3 : z_bl B n p = p
      · rw [if_pos c3, if_pos ⟨c1, c2, c3⟩]
        exact fin 1
      · rw [if_neg c3, if_neg (fun q => c3 q.2.2)]
        exact fin 0
    · rw [if_neg c2, if_pos z_n00, if_neg (fun q => c2 q.2.1)]
      exact fin 0
  · rw [if_neg c1, if_pos z_n00, if_neg (fun q => c1 q.1)]
    exact fin 0
