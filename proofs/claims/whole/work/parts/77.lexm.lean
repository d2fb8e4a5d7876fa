/-! ===== the reference's words ===== -/
def z_bM (M : x_M) (B : Nat → Nat) (n : Nat) : Prop := n ≤ 132 ∧ M 0 7 = nI n ∧ ∀ i, i < n → B i < 256 ∧ M 3 i = nI (B i)
theorem z_soM {M : x_M} {b : Nat} (hb : b < 256) : f_X12_sortOf M (nI b) = some (nI (z_kd b), M) := by
  unfold f_X12_sortOf z_kd
  rw [z_in, z_bn, z_ite, z_in, z_bn, z_ite]
  simp (disch := omega) only [z_lt]
  by_cases c1 : b < 97 ∨ 122 < b
  · rw [if_pos c1, if_pos c1]
    by_cases c2 : b < 48 ∨ 57 < b
    · rw [if_pos c2, if_pos c2]
    · rw [if_neg c2, if_neg c2]
  · rw [if_neg c1, if_neg c1]
theorem z_wrg {M : x_M} (h : M 0 10 = 0) : f_X12_wrong M = some ((), x_up (x_up M 0 9 (M 0 5)) 0 10 (nI 1)) := by
  unfold f_X12_wrong f_X12_wrong_15
  rw [z_gf, h, if_pos rfl, z_gf, z_pf, z_cz1, z_pf]
theorem z_n21 {B : Nat → Nat} {n : Nat} {v1 : Int32} : ∀ (e p fu : Nat) (M : x_M), z_bM M B n → M 0 5 = nI p → n = p + e → e < fu → ∃ M', f_X12_next_21 fu M v1 = f_X12_next_59 M' v1 ∧ M' 0 5 = nI (z_bk B e p) ∧ (∀ q, q ≠ 0 → M' q = M q) ∧ ∀ c, c ≠ 5 → M' 0 c = M 0 c := by
  intro e
  induction e with
  | zero =>
    intro p fu M h h5 hp hfu
    obtain ⟨fu, rfl⟩ : ∃ a, fu = a + 1 := ⟨fu - 1, by omega⟩
    obtain ⟨h1, h2, h3⟩ := id h
    rw [f_X12_next_21_s, z_gf, z_gf, h5, h2, if_pos (by rw [z_le (by omega) (by omega)]; omega)]
    exact ⟨M, rfl, h5, fun _ _ => rfl, fun _ _ => rfl⟩
  | succ e ih =>
    intro p fu M h h5 hp hfu
    obtain ⟨fu, rfl⟩ : ∃ a, fu = a + 1 := ⟨fu - 1, by omega⟩
    obtain ⟨h1, h2, h3⟩ := id h
    obtain ⟨q1, q2⟩ := h3 p (by omega)
    rw [f_X12_next_21_s, z_gf, z_gf, h5, h2, if_neg (by rw [z_le (by omega) (by omega)]; omega), z_gf, h5, z_rd (by omega) (by omega), q2, z_ieq (by omega) (by omega), z_bk]
    by_cases c : B p = 32
    · rw [if_pos c, if_pos c, z_gf, h5, z_pf, z_add]
      obtain ⟨M', a1, a2, a3, a4⟩ := ih (p + 1) fu (x_up M 0 5 (nI (p + 1))) ⟨h1, by rw [z_upr, z_un (by omega)]; exact h2, fun i hi => by rw [z_upn (by omega)]; exact h3 i hi⟩ (by rw [z_upr, z_us]) (by omega) (by omega)
      exact ⟨M', a1, a2, fun q hq => by rw [a3 q hq, z_upn hq], fun c hc => by rw [a4 c hc, z_upr, z_un hc]⟩
    · rw [if_neg c, if_neg c]
      exact ⟨M, rfl, h5, fun _ _ => rfl, fun _ _ => rfl⟩
theorem z_n144 {B : Nat → Nat} {n k : Nat} {v2 : Int32} (hk : k = 1 ∨ k = 2) : ∀ (e p fu : Nat) (M : x_M), z_bM M B n → M 0 6 = nI p → M 0 8 = nI k → n = p + e → e < fu → ∃ M', f_X12_next_144 fu M v2 = f_X12_next_202 M' v2 ∧ M' 0 6 = nI (z_ex B k e p) ∧ (∀ q, q ≠ 0 → M' q = M q) ∧ ∀ c, c ≠ 6 → M' 0 c = M 0 c := by
  intro e
  induction e with
  | zero =>
    intro p fu M h h6 h8 hp hfu
    obtain ⟨fu, rfl⟩ : ∃ a, fu = a + 1 := ⟨fu - 1, by omega⟩
    obtain ⟨h1, h2, h3⟩ := id h
    rw [f_X12_next_144_s, z_gf, h8, z_ieq (by omega) (by omega), if_neg (by omega), z_gf, z_gf, h6, h2, if_pos (by rw [z_le (by omega) (by omega)]; omega)]
    exact ⟨M, rfl, h6, fun _ _ => rfl, fun _ _ => rfl⟩
  | succ e ih =>
    intro p fu M h h6 h8 hp hfu
    obtain ⟨fu, rfl⟩ : ∃ a, fu = a + 1 := ⟨fu - 1, by omega⟩
    obtain ⟨h1, h2, h3⟩ := id h
    obtain ⟨q1, q2⟩ := h3 p (by omega)
    have hkb := z_kd_b (b := B p)
    rw [f_X12_next_144_s, z_gf, h8, z_ieq (by omega) (by omega), if_neg (by omega), z_gf, z_gf, h6, h2, if_neg (by rw [z_le (by omega) (by omega)]; omega), z_gf, h8, z_ieq0 (by omega), if_neg (by omega), z_gf, h6, z_rd (by omega) (by omega), q2, z_soM q1, z_bn, z_gf, h8, z_ieq (by omega) (by omega), z_ex]
    by_cases c : z_kd (B p) = k
    · rw [if_pos c, if_pos c, z_gf, h6, z_pf, z_add]
      obtain ⟨M', a1, a2, a3, a4⟩ := ih (p + 1) fu (x_up M 0 6 (nI (p + 1))) ⟨h1, by rw [z_upr, z_un (by omega)]; exact h2, fun i hi => by rw [z_upn (by omega)]; exact h3 i hi⟩ (by rw [z_upr, z_us]) (by rw [z_upr, z_un (by omega)]; exact h8) (by omega) (by omega)
      exact ⟨M', a1, a2, fun q hq => by rw [a3 q hq, z_upn hq], fun c hc => by rw [a4 c hc, z_upr, z_un hc]⟩
    · rw [if_neg c, if_neg c]
      exact ⟨M, rfl, h6, fun _ _ => rfl, fun _ _ => rfl⟩
theorem z_n124 {M : x_M} {B : Nat → Nat} {n s : Nat} {v2 : Int32} (h : z_bM M B n) (hs : s ≤ n) (h6 : M 0 6 = nI s) : ∃ M', f_X12_next_124 M v2 (nI (z_ka B n s)) = f_X12_next_202 M' v2 ∧ M' 0 6 = nI (z_en B n s) ∧ M' 0 8 = nI (z_ka B n s) ∧ (∀ q, q ≠ 0 → M' q = M q) ∧ ∀ c, c ≠ 6 → c ≠ 8 → M' 0 c = M 0 c := by
  obtain ⟨h1, h2, h3⟩ := id h
  have hkb := z_ka_b (B := B) (n := n) (p := s)
  have hk0 := z_ka_0 (B := B) (n := n) (p := s)
  unfold f_X12_next_124 z_en
  rw [z_pf, z_gf, z_upr, z_us, z_ieq0 (by omega)]
  by_cases c : n ≤ s
  · have e0 : z_ka B n s = 0 := hk0.mpr c
    have u7 : (x_up M 0 8 (nI (z_ka B n s))) 0 7 = nI n := by rw [z_upr, z_un (by omega)]; exact h2
    have u6 : (x_up M 0 8 (nI (z_ka B n s))) 0 6 = nI s := by rw [z_upr, z_un (by omega)]; exact h6
    have u8 : (x_up M 0 8 (nI (z_ka B n s))) 0 8 = nI 0 := by rw [z_upr, z_us, e0]
    rw [if_pos e0, if_pos c, show x_FU = 99999 + 1 from rfl, f_X12_next_144_s, z_gf, z_gf, z_gf, u7, u6, u8, if_neg (show ¬ (nI 0 : Int32) = nI 3 by decide), if_pos (by rw [z_le (by omega) (by omega)]; omega)]
    exact ⟨_, rfl, by rw [z_upr, z_un (by omega)]; exact h6, by rw [z_upr, z_us], fun q hq => z_upn hq, fun c c1 c2 => by rw [z_upr, z_un c2]⟩
  · have hn0 : z_ka B n s ≠ 0 := fun q => c (hk0.mp q)
    rw [if_neg hn0, if_neg c, z_gf, z_upr, z_un (by omega), h6, z_add, z_pf]
    have b2 : z_bM (x_up (x_up M 0 8 (nI (z_ka B n s))) 0 6 (nI (s + 1))) B n := ⟨h1, by rw [z_upr, z_un (by omega), z_upr, z_un (by omega)]; exact h2, fun i hi => by rw [z_upn (by omega), z_upn (by omega)]; exact h3 i hi⟩
    have e6 : (x_up (x_up M 0 8 (nI (z_ka B n s))) 0 6 (nI (s + 1))) 0 6 = nI (s + 1) := by rw [z_upr, z_us]
    have e8 : (x_up (x_up M 0 8 (nI (z_ka B n s))) 0 6 (nI (s + 1))) 0 8 = nI (z_ka B n s) := by rw [z_upr, z_un (by omega), z_upr, z_us]
    by_cases c3 : z_ka B n s = 3
    · rw [if_pos c3, show x_FU = 99999 + 1 from rfl, f_X12_next_144_s, z_gf, e8, if_pos (by rw [c3])]
      exact ⟨_, rfl, e6, e8, fun q hq => by rw [z_upn hq, z_upn hq], fun c c1 c2 => by rw [z_upr, z_un c1, z_upr, z_un c2]⟩
    · rw [if_neg c3]
      obtain ⟨M', a1, a2, a3, a4⟩ := z_n144 (v2 := v2) (k := z_ka B n s) (by omega) (n - (s + 1)) (s + 1) x_FU _ b2 e6 e8 (by omega) (by unfold x_FU; omega)
      exact ⟨M', a1, a2, by rw [a4 8 (by omega)]; exact e8, fun q hq => by rw [a3 q hq, z_upn hq, z_upn hq], fun c c1 c2 => by rw [a4 c c1, z_upr, z_un c1, z_upr, z_un c2]⟩
theorem z_n95 {M : x_M} {B : Nat → Nat} {n s : Nat} {v2 : Int32} (h : z_bM M B n) (hs : s ≤ n) (h5 : M 0 5 = nI s) (h6 : M 0 6 = nI s) : ∃ M', f_X12_next_95 M v2 = f_X12_next_202 M' v2 ∧ M' 0 6 = nI (z_en B n s) ∧ M' 0 8 = nI (z_ka B n s) ∧ (∀ q, q ≠ 0 → M' q = M q) ∧ ∀ c, c ≠ 6 → c ≠ 8 → M' 0 c = M 0 c := by
  obtain ⟨h1, h2, h3⟩ := id h
  have hn := z_n124 (v2 := v2) h hs h6
  unfold f_X12_next_95
  rw [z_gf, z_gf, h5, h2, z_ieq (by omega) (by omega)]
  by_cases c : s = n
  · rw [if_pos c]
    rw [z_ka_0.mpr (show n ≤ s by omega)] at hn ⊢
    exact hn
  · obtain ⟨q1, q2⟩ := h3 s (by omega)
    rw [show z_ka B n s = z_kd (B s) from if_pos (by omega)] at hn ⊢
    rw [if_neg c, z_gf, h5, z_rd (by omega) (by omega), q2, z_soM q1, z_bn]
    exact hn
theorem z_nxM {M : x_M} {B : Nat → Nat} {n p k : Nat} (h : z_bM M B n) (hp : p ≤ n) (h6 : M 0 6 = nI p) (h8 : M 0 8 = nI k) (hk : k ≤ 3) (h10 : M 0 10 = 0) : ∃ M', f_X12_next M = some ((), M') ∧ M' 0 5 = nI (z_bl B n p) ∧ M' 0 6 = nI (z_en B n (z_bl B n p)) ∧ M' 0 8 = nI (z_ka B n (z_bl B n p)) ∧ M' 0 10 = nI (z_gl B n p k) ∧ (z_gl B n p k = 1 → M' 0 9 = nI (z_bl B n p)) ∧ (∀ q, q ≠ 0 → M' q = M q) ∧ ∀ c, c ≠ 5 → c ≠ 6 → c ≠ 8 → c ≠ 9 → c ≠ 10 → M' 0 c = M 0 c := by
  obtain ⟨h1, h2, h3⟩ := id h
  obtain ⟨l1, l2⟩ := z_bl_b (B := B) hp
  have hkb := z_ka_b (B := B) (n := n) (p := z_bl B n p)
  unfold f_X12_next
  rw [z_gf, h10, if_pos rfl, z_gf, z_gf, h6, z_pf]
  have b1 : z_bM (x_up M 0 5 (nI p)) B n := ⟨h1, by rw [z_upr, z_un (by omega)]; exact h2, fun i hi => by rw [z_upn (by omega)]; exact h3 i hi⟩
  obtain ⟨M1, a1, a2, a3, a4⟩ := z_n21 (v1 := nI p) (n - p) p x_FU (x_up M 0 5 (nI p)) b1 (by rw [z_upr, z_us]) (by omega) (by unfold x_FU; omega)
  have a2 : M1 0 5 = nI (z_bl B n p) := a2
  have f1 : ∀ c, c ≠ 5 → M1 0 c = M 0 c := fun c hc => by rw [a4 c hc, z_upr, z_un hc]
  have f1q : ∀ q, q ≠ 0 → M1 q = M q := fun q hq => by rw [a3 q hq, z_upn hq]
  rw [a1]
  unfold f_X12_next_59 f_X12_next_94
  rw [z_gf, a2, z_pf, z_gf, z_upr, z_un (by omega), a2, z_gf, z_upr, z_un (by omega), f1 8 (by omega), h8, z_gf, z_upr, z_un (by omega), f1 8 (by omega), h8, z_ieq (by omega) (by omega), z_ieq0 (by omega), z_ieq (by omega) (by omega)]
  have b2 : z_bM (x_up M1 0 6 (nI (z_bl B n p))) B n := ⟨h1, by rw [z_upr, z_un (by omega), f1 7 (by omega)]; exact h2, fun i hi => by rw [z_upn (by omega), f1q 3 (by omega)]; exact h3 i hi⟩
  have fin : ∀ v : Nat, v ≤ 1 → (v = 1 ↔ (k = 1 ∨ k = 2) ∧ z_bl B n p = p) → ∃ M', f_X12_next_95 (x_up M1 0 6 (nI (z_bl B n p))) (nI v) = some ((), M') ∧ M' 0 5 = nI (z_bl B n p) ∧ M' 0 6 = nI (z_en B n (z_bl B n p)) ∧ M' 0 8 = nI (z_ka B n (z_bl B n p)) ∧ M' 0 10 = nI (z_gl B n p k) ∧ (z_gl B n p k = 1 → M' 0 9 = nI (z_bl B n p)) ∧ (∀ q, q ≠ 0 → M' q = M q) ∧ ∀ c, c ≠ 5 → c ≠ 6 → c ≠ 8 → c ≠ 9 → c ≠ 10 → M' 0 c = M 0 c := by
    intro v hv hvv
    obtain ⟨M2, d1, d2, d3, d4, d5⟩ := z_n95 (v2 := nI v) b2 l2 (by rw [z_upr, z_un (by omega)]; exact a2) (by rw [z_upr, z_us])
    have g5 : M2 0 5 = nI (z_bl B n p) := by rw [d5 5 (by omega) (by omega), z_upr, z_un (by omega)]; exact a2
    have g10 : M2 0 10 = 0 := by rw [d5 10 (by omega) (by omega), z_upr, z_un (by omega), f1 10 (by omega)]; exact h10
    have gq : ∀ q, q ≠ 0 → M2 q = M q := fun q hq => by rw [d4 q hq, z_upn hq, f1q q hq]
    have gc : ∀ c, c ≠ 5 → c ≠ 6 → c ≠ 8 → M2 0 c = M 0 c := fun c c1 c2 c3 => by rw [d5 c c2 c3, z_upr, z_un c2, f1 c c1]
    rw [d1]
    unfold f_X12_next_202 f_X12_next_222
    rw [z_ieq0 (by omega), z_gf, d3, z_gf, d3, z_ieq (by omega) (by omega), z_ieq (by omega) (by omega), z_wrg g10, z_bn, g5]
    have good : z_gl B n p k = 0 → ∃ M', some ((), M2) = some ((), M') ∧ M' 0 5 = nI (z_bl B n p) ∧ M' 0 6 = nI (z_en B n (z_bl B n p)) ∧ M' 0 8 = nI (z_ka B n (z_bl B n p)) ∧ M' 0 10 = nI (z_gl B n p k) ∧ (z_gl B n p k = 1 → M' 0 9 = nI (z_bl B n p)) ∧ (∀ q, q ≠ 0 → M' q = M q) ∧ ∀ c, c ≠ 5 → c ≠ 6 → c ≠ 8 → c ≠ 9 → c ≠ 10 → M' 0 c = M 0 c := fun q0 => ⟨M2, rfl, g5, d2, d3, by rw [q0]; exact g10, fun q => by omega, gq, fun c c1 c2 c3 _ _ => gc c c1 c2 c3⟩
    have bad : z_gl B n p k = 1 → ∃ M', some ((), x_up (x_up M2 0 9 (nI (z_bl B n p))) 0 10 (nI 1)) = some ((), M') ∧ M' 0 5 = nI (z_bl B n p) ∧ M' 0 6 = nI (z_en B n (z_bl B n p)) ∧ M' 0 8 = nI (z_ka B n (z_bl B n p)) ∧ M' 0 10 = nI (z_gl B n p k) ∧ (z_gl B n p k = 1 → M' 0 9 = nI (z_bl B n p)) ∧ (∀ q, q ≠ 0 → M' q = M q) ∧ ∀ c, c ≠ 5 → c ≠ 6 → c ≠ 8 → c ≠ 9 → c ≠ 10 → M' 0 c = M 0 c := by
      intro q1
      refine ⟨_, rfl, ?_, ?_, ?_, ?_, fun _ => ?_, fun q hq => ?_, fun c c1 c2 c3 c4 c5 => ?_⟩
      · rw [z_upr, z_un (by omega), z_upr, z_un (by omega)]
        exact g5
      · rw [z_upr, z_un (by omega), z_upr, z_un (by omega)]
        exact d2
      · rw [z_upr, z_un (by omega), z_upr, z_un (by omega)]
        exact d3
      · rw [z_upr, z_us, q1]
      · rw [z_upr, z_un (by omega), z_upr, z_us]
      · rw [z_upn hq, z_upn hq, gq q hq]
      · rw [z_upr, z_un c5, z_upr, z_un c4, gc c c1 c2 c3]
    unfold z_gl at good bad ⊢
    by_cases c1 : v = 0
    · rw [if_pos c1]
      exact good (if_neg (fun q => by have := hvv.mpr ⟨q.1, q.2.2⟩; omega))
    · rw [if_neg c1]
      have c1' := hvv.mp (by omega)
      by_cases c2 : z_ka B n (z_bl B n p) = 1
      · rw [if_pos c2]
        exact bad (if_pos ⟨c1'.1, Or.inl c2, c1'.2⟩)
      · rw [if_neg c2]
        by_cases c3 : z_ka B n (z_bl B n p) = 2
        · rw [if_pos c3]
          exact bad (if_pos ⟨c1'.1, Or.inr c3, c1'.2⟩)
        · rw [if_neg c3]
          exact good (if_neg (fun q => by omega))
  by_cases c1 : z_bl B n p = p
  · rw [if_pos c1]
    by_cases c2 : k = 0
    · rw [if_pos c2]
      exact fin 0 (by omega) (by omega)
    · rw [if_neg c2]
      by_cases c3 : k = 3
      · rw [if_pos c3]
        exact fin 0 (by omega) (by omega)
      · rw [if_neg c3]
        exact fin 1 (by omega) (by omega)
  · rw [if_neg c1]
    exact fin 0 (by omega) (by omega)
theorem z_nxb {M : x_M} (h : M 0 10 = nI 1) : f_X12_next M = some ((), M) := by
  unfold f_X12_next
  rw [z_gf, h, if_neg z_n10]
