/-! ===== a NUMBER, a NAME ===== -/
def z_num (B : Nat → Nat) : Nat → Nat → Nat → Nat
  | 0, _, v => v
  | e + 1, p, v => z_num B e (p + 1) (10 * v + B p - 48)
theorem z_kd2 {b : Nat} (h : z_kd b = 2) : 48 ≤ b ∧ b ≤ 57 := by
  unfold z_kd at h
  by_cases c1 : b < 97 ∨ 122 < b
  · rw [if_pos c1] at h
    by_cases c2 : b < 48 ∨ 57 < b
    · rw [if_pos c2] at h
      omega
    · omega
  · rw [if_neg c1] at h
    omega
theorem z_kd1 {b : Nat} (h : z_kd b = 1) : 97 ≤ b ∧ b ≤ 122 := by
  unfold z_kd at h
  by_cases c1 : b < 97 ∨ 122 < b
  · rw [if_pos c1] at h
    by_cases c2 : b < 48 ∨ 57 < b
    · rw [if_pos c2] at h
      omega
    · rw [if_neg c2] at h
      omega
  · omega
theorem z_num_b {B : Nat → Nat} : ∀ (e p v : Nat), (∀ i, p ≤ i → i < p + e → z_kd (B i) = 2) → z_num B e p v < (v + 1) * 10 ^ e
  | 0, p, v, _ => by rw [z_num]; omega
  | e + 1, p, v, h => by
    have h1 := z_num_b (B := B) e (p + 1) (10 * v + B p - 48) (fun i h1 h2 => h i (by omega) (by omega))
    have h2 := z_kd2 (h p (by omega) (by omega))
    rw [z_num, Nat.pow_succ]
    have h3 : (10 * v + B p - 48 + 1) * 10 ^ e ≤ (10 * (v + 1)) * 10 ^ e := Nat.mul_le_mul_right _ (by omega)
    have h4 : (10 * (v + 1)) * 10 ^ e = (v + 1) * (10 ^ e * 10) := by
      rw [Nat.mul_comm 10 (v + 1), Nat.mul_assoc, Nat.mul_comm 10 (10 ^ e)]
    omega
theorem z_nuX {X : x_M} {B : Nat → Nat} {n en : Nat} (h : z_bX X B n) (h7 : X 80 7 = nI en) (hen : en ≤ n) : ∀ (e p v fu : Nat), en = p + e → (∀ i, p ≤ i → i < p + e → z_kd (B i) = 2) → e < fu → f_X7_number_7 fu X (nI v) (nI p) = some (nI (z_num B e p v), X) := by
  obtain ⟨h1, h2, h3⟩ := h
  intro e
  induction e with
  | zero =>
    intro p v fu hp hd hfu
    obtain ⟨fu, rfl⟩ : ∃ a, fu = a + 1 := ⟨fu - 1, by omega⟩
    rw [f_X7_number_7_s, z_gf, h7, if_pos (by rw [z_le (by omega) (by omega)]; omega)]
    rfl
  | succ e ih =>
    intro p v fu hp hd hfu
    obtain ⟨fu, rfl⟩ : ∃ a, fu = a + 1 := ⟨fu - 1, by omega⟩
    have hb := z_kd2 (hd p (by omega) (by omega))
    rw [f_X7_number_7_s, z_gf, h7, if_neg (by rw [z_le (by omega) (by omega)]; omega), z_rd (by omega) (by omega), (h3 p (by omega)).2, z_by_lo _ (by omega), z_mul, z_add, z_sub (by omega), z_add, show v * 10 + B p - 48 = 10 * v + B p - 48 by omega, z_num]
    exact ih (p + 1) _ fu (by omega) (fun i q1 q2 => hd i (by omega) (by omega)) (by omega)
theorem z_nuM {M : x_M} {B : Nat → Nat} {n en : Nat} (h : z_bM M B n) (h6 : M 0 6 = nI en) (hen : en ≤ n) : ∀ (e p v fu : Nat), en = p + e → (∀ i, p ≤ i → i < p + e → z_kd (B i) = 2) → e < fu → f_X12_begins_149 fu M (nI v) (nI p) = x_bn (f_X12_emit M (nI 1) (nI (z_num B e p v))) (fun _ M => f_X12_begins_247 M) := by
  obtain ⟨h1, h2, h3⟩ := h
  intro e
  induction e with
  | zero =>
    intro p v fu hp hd hfu
    obtain ⟨fu, rfl⟩ : ∃ a, fu = a + 1 := ⟨fu - 1, by omega⟩
    rw [f_X12_begins_149_s, z_gf, h6, if_pos (by rw [z_le (by omega) (by omega)]; omega)]
    rfl
  | succ e ih =>
    intro p v fu hp hd hfu
    obtain ⟨fu, rfl⟩ : ∃ a, fu = a + 1 := ⟨fu - 1, by omega⟩
    have hb := z_kd2 (hd p (by omega) (by omega))
    rw [f_X12_begins_149_s, z_gf, h6, if_neg (by rw [z_le (by omega) (by omega)]; omega), z_rd (by omega) (by omega), (h3 p (by omega)).2, z_mul, z_add, z_sub (by omega), z_add, z_num]
    exact ih (p + 1) _ fu (by omega) (fun i q1 q2 => hd i (by omega) (by omega)) (by omega)
def z_at (B : Nat → Nat) (n s cl : Nat) : Option Int32 := if z_ka B n s = 2 ∧ z_en B n s - s ≤ 5 then some (nI (z_num B (z_en B n s - s) s 0)) else if z_ka B n s = 1 ∧ z_en B n s - s = 1 ∧ B s ∈ z_nm cl then some (-(nI (B s))) else none
theorem z_at_num {B : Nat → Nat} {n s : Nat} (hs : s ≤ n) (h : z_ka B n s = 2 ∧ z_en B n s - s ≤ 5) : z_num B (z_en B n s - s) s 0 ≤ 99999 ∧ ∀ i, s ≤ i → i < s + (z_en B n s - s) → z_kd (B i) = 2 := by
  obtain ⟨e1, e2, e3, e4, e5⟩ := z_en_b (B := B) hs
  have hd : ∀ i, s ≤ i → i < s + (z_en B n s - s) → z_kd (B i) = 2 := fun i h1 h2 => by rw [e5 i h1 (by omega)]; exact h.1
  have hb := z_num_b (B := B) (z_en B n s - s) s 0 hd
  have hp : 10 ^ (z_en B n s - s) ≤ 10 ^ 5 := Nat.pow_le_pow_right (by omega) h.2
  refine ⟨?_, hd⟩
  have e : (10 : Nat) ^ 5 = 100000 := by decide
  omega
theorem z_at_opd {B : Nat → Nat} {n s cl : Nat} {v : Int32} (hs : s ≤ n) (h : z_at B n s cl = some v) : z_opd (z_nm cl) v := by
  unfold z_at at h
  by_cases c1 : z_ka B n s = 2 ∧ z_en B n s - s ≤ 5
  · rw [if_pos c1] at h
    exact Or.inl ⟨_, (z_at_num hs c1).1, (Option.some.inj h).symm⟩
  · rw [if_neg c1] at h
    by_cases c2 : z_ka B n s = 1 ∧ z_en B n s - s = 1 ∧ B s ∈ z_nm cl
    · rw [if_pos c2] at h
      exact Or.inr ⟨_, c2.2.2, (Option.some.inj h).symm⟩
    · rw [if_neg c2] at h
      exact absurd h (by simp)
theorem z_at_w : ∀ b, b < 123 → 97 ≤ b → z_wo (-(nI b)) = nI 2 ∧ z_wv (-(nI b)) = nI b := by decide +kernel
theorem z_at_v {v : Nat} (h : v < 2147483648) : z_wo (nI v) = nI 1 ∧ z_wv (nI v) = nI v := by
  unfold z_wo z_wv
  have h0 : (0 : Int32) ≤ nI v := by
    rw [z_0le h]
    trivial
  rw [if_pos h0, if_pos h0]
  exact ⟨rfl, rfl⟩
theorem z_sb_nm : ∀ cl, cl ≤ 3 → z_sb (5 + cl) = z_nm cl := by
  intro cl h
  rcases (show cl = 0 ∨ cl = 1 ∨ cl = 2 ∨ cl = 3 by omega) with rfl | rfl | rfl | rfl <;> rfl
theorem z_cX_cnt {X : x_M} {B : Nat → Nat} {n s nb cnt pa ba : Nat} {nm : Int32} {code : List Int32} (h : z_cX X B n s nb cnt pa ba nm code) : z_cX (x_up X 80 5 (nI (cnt + 1))) B n s nb (cnt + 1) pa ba nm code ∧ z_fX X (x_up X 80 5 (nI (cnt + 1))) := by
  obtain ⟨⟨h1, h2, h3⟩, g1, g2, g3, g4, g5, g6, g7, g8, g9, g10, g11⟩ := h
  have f81 : ∀ c, c ≠ 5 → (x_up X 80 5 (nI (cnt + 1))) 80 c = X 80 c := fun c hc => by rw [z_upr, z_un hc]
  refine ⟨⟨⟨h1, ?_, fun i hi => ?_⟩, g1, ?_, ?_, ?_, ?_, ?_, ?_, ?_, ?_, ?_, fun j hj => ?_⟩, fun q q1 q2 => z_upn q1, f81 3 (by omega)⟩
  · rw [f81 4 (by omega)]; exact h2
  · rw [z_upn (by omega)]; exact h3 i hi
  · rw [f81 6 (by omega)]; exact g2
  · rw [f81 7 (by omega)]; exact g3
  · rw [f81 8 (by omega)]; exact g4
  · rw [f81 9 (by omega)]; exact g5
  · rw [z_upr, z_us]
  · rw [f81 11 (by omega)]; exact g7
  · rw [f81 12 (by omega)]; exact g8
  · rw [f81 13 (by omega)]; exact g9
  · rw [f81 10 (by omega)]; exact g10
  · rw [z_upn (by omega)]; exact g11 j hj
theorem z_at_1 {B : Nat → Nat} {n s cl : Nat} (c1 : z_ka B n s = 2) (c2 : z_en B n s - s ≤ 5) : z_at B n s cl = some (nI (z_num B (z_en B n s - s) s 0)) := if_pos ⟨c1, c2⟩
theorem z_at_2 {B : Nat → Nat} {n s cl : Nat} (c1 : z_ka B n s = 1) (c2 : z_en B n s - s = 1) (c3 : B s ∈ z_nm cl) : z_at B n s cl = some (-(nI (B s))) := (if_neg (fun q => by omega)).trans (if_pos ⟨c1, c2, c3⟩)
theorem z_at_0 {B : Nat → Nat} {n s cl : Nat} (c1 : ¬ (z_ka B n s = 2 ∧ z_en B n s - s ≤ 5)) (c2 : ¬ (z_ka B n s = 1 ∧ z_en B n s - s = 1 ∧ B s ∈ z_nm cl)) : z_at B n s cl = none := (if_neg c1).trans (if_neg c2)
theorem z_atX {X : x_M} {B : Nat → Nat} {n s cnt pa ba cl : Nat} {code : List Int32} (h : z_cX X B n s 0 cnt pa ba (nI (5 + cl)) code) (hcl : cl ≤ 3) (hc : code.length ≤ s) : (∀ v, z_at B n s cl = some v → ∃ X', f_X7_isNumberOrName X = some (nI 1, X') ∧ z_cX X' B n (z_go B n s) (z_gl B n (z_en B n s) (z_ka B n s)) (cnt + 1) pa ba (nI (5 + cl)) (code ++ [v]) ∧ z_fX X X') ∧ (z_at B n s cl = none → f_X7_isNumberOrName X = some (nI 0, X)) := by
  obtain ⟨⟨h1, h2, h3⟩, g1, g2, g3, g4, g5, g6, g7, g8, g9, g10, g11⟩ := id h
  obtain ⟨e1, e2, e3, e4, e5⟩ := z_en_b (B := B) g1
  have hkb := z_ka_b (B := B) (n := n) (p := s)
  have hk0 := z_ka_0 (B := B) (n := n) (p := s)
  have fin : ∀ (v : Int32), code.length < 132 → ∃ X', x_bn (f_X7_emit X v) (fun _ M => f_X7_isNumberOrName_90 M) = some (nI 1, X') ∧ z_cX X' B n (z_go B n s) (z_gl B n (z_en B n s) (z_ka B n s)) (cnt + 1) pa ba (nI (5 + cl)) (code ++ [v]) ∧ z_fX X X' := by
    intro v hl
    obtain ⟨X1, a1, a2, a3⟩ := z_emX (v := v) h hl
    have c5 := a2.2.2.2.2.2.2.1
    obtain ⟨d1, d2⟩ := z_cX_cnt a2
    obtain ⟨X2, b1, b2, b3⟩ := z_nxX d1
    unfold f_X7_isNumberOrName_90
    rw [a1, z_bn, z_gf, c5, z_add, z_pf, b1, z_bn]
    exact ⟨X2, rfl, b2, z_fX_t (z_fX_t a3 d2) b3⟩
  unfold f_X7_isNumberOrName f_X7_isNumberOrName_41 f_X7_isNumberOrName_88 
  rw [z_gf, g5, if_pos z_n00, z_gf, g4, z_gf, z_gf, g3, g2, z_ieq (by omega) (by omega), z_sub e1, z_gf, z_gf, g4, z_ieq (by omega) (by omega), z_gf, z_gf, g3, g2, z_sub e1, z_ilt (by omega) (by omega), z_ieq (by omega) (by omega)]
  by_cases c1 : z_ka B n s = 2
  · by_cases c2 : z_en B n s - s ≤ 5
    · obtain ⟨n1, n2⟩ := z_at_num g1 ⟨c1, c2⟩
      have hnum : f_X7_number X = some (nI (z_num B (z_en B n s - s) s 0), X) := by
        unfold f_X7_number
        rw [z_gf, g2]
        exact z_nuX ⟨h1, h2, h3⟩ g3 e2 _ s 0 x_FU (by omega) n2 (by unfold x_FU; omega)
      rw [z_at_1 c1 c2, if_pos c1, if_neg (show ¬ 5 < z_en B n s - s by omega), hnum, z_bn]
      refine ⟨fun v hv => ?_, fun q => absurd q (by simp)⟩
      rw [← Option.some.inj hv]
      exact fin _ (by have := e3 (by omega); omega)
    · rw [z_at_0 (fun q => c2 q.2) (fun q => by omega), if_pos c1, if_pos (show 5 < z_en B n s - s by omega), if_neg (show ¬ z_ka B n s = 1 by omega)]
      exact ⟨fun v hv => absurd hv (by simp), fun _ => rfl⟩
  · rw [if_neg c1]
    by_cases c2 : z_ka B n s = 1
    · have hs : s < n := by omega
      obtain ⟨q1, q2⟩ := h3 s hs
      rw [if_pos c2]
      by_cases c3 : z_en B n s - s = 1
      · obtain ⟨r, i1, i2⟩ := z_ixo (X := X) (t := 5 + cl) (b := B s) (by omega) q1
        rw [z_sb_nm cl hcl] at i2
        rw [if_pos c3, g9, z_letX h hs, z_bn, z_cs (by omega), i1, z_bn]
        by_cases c4 : B s ∈ z_nm cl
        · rw [if_neg (fun q => (i2.mp q) c4), z_letX h hs, z_bn, z_at_2 c2 c3 c4]
          refine ⟨fun v hv => ?_, fun q => absurd q (by simp)⟩
          rw [← Option.some.inj hv]
          exact fin _ (by omega)
        · rw [if_pos (i2.mpr c4), z_at_0 (fun q => c1 q.1) (fun q => c4 q.2.2)]
          exact ⟨fun v hv => absurd hv (by simp), fun _ => rfl⟩
      · rw [if_neg c3, z_at_0 (fun q => c1 q.1) (fun q => c3 q.2.1)]
        exact ⟨fun v hv => absurd hv (by simp), fun _ => rfl⟩
    · rw [if_neg c2, z_at_0 (fun q => c1 q.1) (fun q => c2 q.1)]
      exact ⟨fun v hv => absurd hv (by simp), fun _ => rfl⟩
theorem z_inmM {M : x_M} {cl b : Nat} (h : M 0 11 = nI cl) (hcl : cl ≤ 3) (hb : b < 256) : f_X12_isName M (nI b) = some (if b ∈ z_nm cl then nI 1 else nI 0, M) := by
  unfold f_X12_isName f_X12_isName_20 f_X12_isName_22 f_X12_isName_53 f_X12_isName_91 f_X12_isName_117
  rw [z_gf, z_gf, z_gf, z_gf, h]
  by_cases hin : b = 116 ∨ b = 107 ∨ b = 108 ∨ b = 102 ∨ b = 112 ∨ b = 99 ∨ b = 111 ∨ b = 100 ∨ b = 113
  · rcases (show cl = 0 ∨ cl = 1 ∨ cl = 2 ∨ cl = 3 by omega) with rfl | rfl | rfl | rfl <;> rcases hin with rfl | rfl | rfl | rfl | rfl | rfl | rfl | rfl | rfl <;> rfl
  · have k : ∀ a, a < 128 → b ≠ a → ¬ nI b = nI a := fun a ha hne => by
      rw [z_eq (by omega) (by omega)]
      exact hne
    have hno : b ∉ z_nm cl := by
      intro hm
      rcases (show cl = 0 ∨ cl = 1 ∨ cl = 2 ∨ cl = 3 by omega) with rfl | rfl | rfl | rfl
      · have hm : b ∈ [108, 102, 112, 99, 116, 107] := hm
        simp only [List.mem_cons, List.not_mem_nil, or_false] at hm
        omega
      · have hm : b ∈ [116, 107] := hm
        simp only [List.mem_cons, List.not_mem_nil, or_false] at hm
        omega
      · have hm : b ∈ [108, 102, 111, 100, 116, 107] := hm
        simp only [List.mem_cons, List.not_mem_nil, or_false] at hm
        omega
      · have hm : b ∈ [113] := hm
        simp only [List.mem_cons, List.not_mem_nil, or_false] at hm
        omega
    simp only [if_neg hno, if_neg (k 116 (by omega) (by omega)), if_neg (k 107 (by omega) (by omega)), if_neg (k 108 (by omega) (by omega)), if_neg (k 102 (by omega) (by omega)), if_neg (k 112 (by omega) (by omega)), if_neg (k 99 (by omega) (by omega)), if_neg (k 111 (by omega) (by omega)), if_neg (k 100 (by omega) (by omega)), if_neg (k 113 (by omega) (by omega)), ite_self]
theorem z_atM {M : x_M} {B : Nat → Nat} {n s cnt cl pa ba j : Nat} {ft : Int32} {out : List Int32} {st : List Nat} (h : z_cM M B n s cnt cl pa ba 0 ft out (List.replicate j 3 ++ st)) (hcl : cl ≤ 3) (hst : z_stp 9 st) (h3 : ∀ x st', st = x :: st' → x ≠ 3) (hj : j ≤ ba) (hba : ba ≤ 8) (hl : out.length + (j + st.length) ≤ s) (h33 : z_sg0 B n s ≠ 33) (h40 : z_sg0 B n s ≠ 40) : (∀ v, z_at B n s cl = some v → ∃ M' ft', f_X12_begins M = some (nI 0, M') ∧ z_cM M' B n (z_go B n s) (cnt + 1) cl pa (ba - j) (z_gl B n (z_en B n s) (z_ka B n s)) ft' (out ++ [v] ++ List.replicate j (-33)) st ∧ (z_gl B n (z_en B n s) (z_ka B n s) = 1 → ft' = nI (z_go B n s)) ∧ z_fM cl M M') ∧ (z_at B n s cl = none → ∃ M', f_X12_begins M = some (nI 0, M') ∧ z_cM M' B n s cnt cl pa ba 1 (nI s) out (List.replicate j 3 ++ st) ∧ z_fM cl M M') := by
  obtain ⟨⟨b1, b2, b3⟩, g1, g2, g3, g4, g5, g6, g7, g8, g9, g10, g11, g12, g13, g14⟩ := id h
  obtain ⟨e1, e2, e3, e4, e5⟩ := z_en_b (B := B) g1
  have hkb := z_ka_b (B := B) (n := n) (p := s)
  have hk0 := z_ka_0 (B := B) (n := n) (p := s)
  have fin : ∀ (v : Int32), s < n → ∃ M' ft', x_bn (f_X12_emit M (z_wo v) (z_wv v)) (fun _ M => f_X12_begins_247 M) = some (nI 0, M') ∧ z_cM M' B n (z_go B n s) (cnt + 1) cl pa (ba - j) (z_gl B n (z_en B n s) (z_ka B n s)) ft' (out ++ [v] ++ List.replicate j (-33)) st ∧ (z_gl B n (z_en B n s) (z_ka B n s) = 1 → ft' = nI (z_go B n s)) ∧ z_fM cl M M' := by
    intro v hs
    obtain ⟨M1, a1, a2, a3, a4, a5⟩ := z_emM (v := v) h hcl (by omega)
    obtain ⟨-, -, -, -, -, -, -, -, -, -, k10, k11, k12, k13, k14⟩ := id a2
    have hM2 : z_cM (x_up M1 0 13 (nI (cnt + 1))) B n s (cnt + 1) cl pa ba 0 ft (out ++ [v]) (List.replicate j 3 ++ st) := z_cM_f a2 (fun q q1 _ => z_upn q1) (fun c hc => by rw [z_upr, z_un (by omega)]) (by rw [z_upr, z_us]) (by rw [z_upr, z_un (by omega)]; exact k11) (by rw [z_upr, z_un (by omega)]; exact k12) (by rw [z_upr, z_un (by omega)]; exact k13) (by rw [z_upn (by omega)]; exact k14)
    obtain ⟨M3, ft', d1, d2, d3, d4⟩ := z_neM hM2
    obtain ⟨M4, p1, p2, p3⟩ := z_parM hcl hst h3 j x_FU M3 (out ++ [v]) ba d2 hj (by omega) (by rw [List.length_append, List.length_singleton]; omega) (by omega) (by unfold x_FU; omega)
    unfold f_X12_begins_247 f_X12_parted
    rw [a1, z_bn, z_gf, k10, z_add, z_pf, d1, z_bn, p1, z_bn]
    exact ⟨M4, ft', rfl, p2, d3, z_fM_t (z_fM_t (z_fM_t a3 ⟨fun q q1 _ _ => z_upn q1, fun c hc => by rw [z_upr, z_un (by omega)], fun i _ => by rw [z_upn (by omega)]⟩) d4) p3⟩
  have bad : ∃ M', f_X12_begins_241 M = some (nI 0, M') ∧ z_cM M' B n s cnt cl pa ba 1 (nI s) out (List.replicate j 3 ++ st) ∧ z_fM cl M M' := by
    obtain ⟨M1, a1, a2, a3⟩ := z_wrM h
    unfold f_X12_begins_241
    rw [a1, z_bn]
    exact ⟨M1, rfl, a2, a3⟩
  unfold f_X12_begins f_X12_begins_187 
  rw [z_sgM h (by omega), z_bn, if_neg h33, if_pos z_n00, z_sgM h (by omega), z_bn, if_neg h40, if_pos z_n00, z_gf, g4, z_gf, z_gf, g3, g2, z_ieq (by omega) (by omega), z_sub e1, z_gf, z_gf, g4, z_ieq (by omega) (by omega), z_gf, z_gf, g3, g2, z_sub e1, z_ilt (by omega) (by omega), z_ieq (by omega) (by omega), z_gf, g2]
  by_cases c1 : z_ka B n s = 2
  · by_cases c2 : z_en B n s - s ≤ 5
    · obtain ⟨n1, n2⟩ := z_at_num g1 ⟨c1, c2⟩
      have hw := z_at_v (v := z_num B (z_en B n s - s) s 0) (by omega)
      have hf := fin (nI (z_num B (z_en B n s - s) s 0)) (by omega)
      rw [hw.1, hw.2] at hf
      rw [z_at_1 c1 c2, if_pos c1, if_neg (show ¬ 5 < z_en B n s - s by omega), z_nuM ⟨b1, b2, b3⟩ g3 e2 (z_en B n s - s) s 0 x_FU (by omega) n2 (by unfold x_FU; omega)]
      refine ⟨fun v hv => ?_, fun q => absurd q (by simp)⟩
      rw [← Option.some.inj hv]
      exact hf
    · rw [z_at_0 (fun q => c2 q.2) (fun q => by omega), if_pos c1, if_pos (show 5 < z_en B n s - s by omega), if_neg (show ¬ z_ka B n s = 1 by omega)]
      exact ⟨fun v hv => absurd hv (by simp), fun _ => bad⟩
  · rw [if_neg c1]
    by_cases c2 : z_ka B n s = 1
    · have hs : s < n := by omega
      obtain ⟨q1, q2⟩ := b3 s hs
      have q97 := z_kd1 (show z_kd (B s) = 1 by rw [e5 s (by omega) (e3 (by omega))]; exact c2)
      rw [if_pos c2]
      by_cases c3 : z_en B n s - s = 1
      · rw [if_pos c3, z_rd (by omega) (by omega), q2, z_inmM g7 hcl q1, z_bn]
        by_cases c4 : B s ∈ z_nm cl
        · have hw := z_at_w (B s) (by omega) q97.1
          have hf := fin (-(nI (B s))) hs
          rw [hw.1, hw.2] at hf
          rw [if_pos c4, if_neg z_n10, z_gf, g2, z_rd (by omega) (by omega), q2, z_at_2 c2 c3 c4]
          refine ⟨fun v hv => ?_, fun q => absurd q (by simp)⟩
          rw [← Option.some.inj hv]
          exact hf
        · rw [if_neg c4, if_pos z_n00, z_at_0 (fun q => c1 q.1) (fun q => c4 q.2.2)]
          exact ⟨fun v hv => absurd hv (by simp), fun _ => bad⟩
      · rw [if_neg c3, z_at_0 (fun q => c1 q.1) (fun q => c3 q.2.1)]
        exact ⟨fun v hv => absurd hv (by simp), fun _ => bad⟩
    · rw [if_neg c2, z_at_0 (fun q => c1 q.1) (fun q => c2 q.1)]
      exact ⟨fun v hv => absurd hv (by simp), fun _ => bad⟩
