/-! ===== texts of the class: which signs ===== -/
def z_sbl : List (List Nat) := [[], [101, 97, 114, 110], [108, 97, 112, 115, 101], [112, 114, 105, 99, 101], [116, 105, 101, 114], [108, 102, 112, 99, 116, 107], [116, 107], [108, 102, 111, 100, 116, 107], [113], [124], [38], [60, 61, 62], [43, 45], [42, 47], [33], [40], [41]]
def z_sb (t : Nat) : List Nat := z_sbl.getD t []
theorem z_sb_l : ∀ t, t < 17 → x_len.getD t 0 = (z_sb t).length ∧ (z_sb t).length ≤ 6 := by decide +kernel
theorem z_sb_g : ∀ t, t < 17 → ∀ j, j < 6 → (x_byt.getD t []).getD j 0 = nI ((z_sb t).getD j 0) ∧ (z_sb t).getD j 0 < 128 := by decide +kernel
theorem z_tn {t : Nat} (h : t < 17) : (nI t).toNatClampNeg = t := nI_clamp (by omega)
theorem z_cs {α : Type} {t : Nat} {K : Option α} (h : t < 17) : x_cs (nI t) K = K := by
  unfold x_cs
  rw [z_tn h, if_pos h]
theorem z_ls {α : Type} {t : Nat} {K : Int32 → Option α} (h : t < 17) : x_ls (nI t) K = K (nI (z_sb t).length) := by
  unfold x_ls
  rw [z_tn h, if_pos h, (z_sb_l t h).1]
theorem z_rs0 {α : Type} {t j : Nat} {K : Int32 → Option α} (h : t < 17) (hj : j < (z_sb t).length) : x_rs (nI t) (nI j) K = K (nI ((z_sb t).getD j 0)) := by
  have h6 := (z_sb_l t h).2
  unfold x_rs
  rw [z_tn h, if_pos h, (z_sb_l t h).1, z_rd hj (by omega), (z_sb_g t h j (by omega)).1]
theorem z_len {X : x_M} {t : Nat} (h : t < 17) : f_J0_length_8abf5 X (nI t) = some (nI (z_sb t).length, X) := by
  unfold f_J0_length_8abf5 f_J0_coder_7d493
  rw [z_cs h, z_ls h, z_cs h, if_neg z_n10, z_cs h, z_bn]
  have h6 := (z_sb_l t h).2
  have e : ∀ a, a ≤ 6 → nI a >>> (nI 0 &&& 31) = nI a := by decide +kernel
  rw [e _ h6]
theorem z_ixl {X : x_M} {t b : Nat} (ht : t < 17) (hb : b < 256) : ∀ (e j fu : Nat), (z_sb t).length = j + e → e < fu → ∃ r, f_J1_indexOfChar_4cfef_7 fu X (nI t) (nI (z_sb t).length) (z_by b) (nI j) = some (r, X) ∧ (r < 0 ↔ ∀ i, j ≤ i → i < (z_sb t).length → (z_sb t).getD i 0 ≠ b) := by
  have h6 := (z_sb_l t ht).2
  intro e
  induction e with
  | zero =>
    intro j fu hj hfu
    obtain ⟨fu, rfl⟩ : ∃ a, fu = a + 1 := ⟨fu - 1, by omega⟩
    rw [f_J1_indexOfChar_4cfef_7_s, if_pos (by rw [z_le (by omega) (by omega)]; omega)]
    exact ⟨-1, rfl, fun _ i h1 h2 => by omega, fun _ => by decide⟩
  | succ e ih =>
    intro j fu hj hfu
    obtain ⟨fu, rfl⟩ : ∃ a, fu = a + 1 := ⟨fu - 1, by omega⟩
    have h128 := (z_sb_g t ht j (by omega)).2
    rw [f_J1_indexOfChar_4cfef_7_s, if_neg (by rw [z_le (by omega) (by omega)]; omega), z_rs0 ht (by omega)]
    by_cases c : (z_sb t).getD j 0 = b
    · have c' : nI ((z_sb t).getD j 0) = z_by b := by
        rw [← c]
        exact (z_by_lo _ h128).symm
      rw [if_pos c']
      refine ⟨nI j, rfl, fun q => ?_, fun q => absurd c (q j (Nat.le_refl _) (by omega))⟩
      rw [z_lt0 (by omega)] at q
      exact q.elim
    · have c' : ¬ nI ((z_sb t).getD j 0) = z_by b := by
        intro q
        have := z_by_eq hb h128
        rw [← q] at this
        exact c (this.mp rfl).symm
      rw [if_neg c', z_add]
      obtain ⟨r, a1, a2⟩ := ih (j + 1) fu (by omega) (by omega)
      refine ⟨r, a1, a2.trans ⟨fun q i h1 h2 => ?_, fun q i h1 h2 => q i (by omega) h2⟩⟩
      by_cases e1 : i = j
      · rw [e1]
        exact c
      · exact q i (by omega) h2
theorem z_ixo {X : x_M} {t b : Nat} (ht : t < 17) (hb : b < 256) : ∃ r, f_J0_indexOf_0f7a4 X (nI t) (nI b) = some (r, X) ∧ (r < 0 ↔ b ∉ z_sb t) := by
  have h6 := (z_sb_l t ht).2
  have m : (∀ i, 0 ≤ i → i < (z_sb t).length → (z_sb t).getD i 0 ≠ b) ↔ b ∉ z_sb t := by
    refine ⟨fun q hm => ?_, fun q i _ hi e => q ?_⟩
    · obtain ⟨i, hi, e⟩ := List.mem_iff_getElem.mp hm
      refine q i (Nat.zero_le _) hi ?_
      rw [List.getD_eq_getElem?_getD, List.getElem?_eq_getElem hi]
      exact e
    · rw [List.getD_eq_getElem?_getD, List.getElem?_eq_getElem hi] at e
      exact List.mem_iff_getElem.mpr ⟨i, hi, e⟩
  unfold f_J0_indexOf_0f7a4 f_J0_indexOf_7cf53 f_J0_isLatin1_aae02
  rw [z_cs ht, z_cs ht, if_neg z_n10, z_cs ht, if_pos z_n00, z_bn, if_neg z_n10, z_cs ht, z_cs ht, z_len ht, z_bn]
  unfold f_J1_indexOf_4cfef f_J1_canEncode_9a6ad
  rw [if_neg (show ¬ nI b < 0 by rw [z_lt0 (by omega)]; exact id), if_neg (show ¬ nI 255 < nI b by rw [z_lt (by omega) (by omega)]; omega), z_bn, if_neg z_n10, z_ls ht, if_neg (show ¬ (nI 0 : Int32) < nI 0 by decide), ite_self, z_ilt (by omega) (by omega)]
  by_cases c : 0 < (z_sb t).length
  · obtain ⟨r, a1, a2⟩ := z_ixl (X := X) ht hb (z_sb t).length 0 x_FU (by omega) (by unfold x_FU; omega)
    rw [if_pos c]
    unfold f_J1_indexOfChar_4cfef
    have a1' : f_J1_indexOfChar_4cfef_7 x_FU X (nI t) (nI (z_sb t).length) ((nI b).toInt8.toInt32) (nI 0) = some (r, X) := a1
    rw [a1', z_bn, z_bn, z_bn]
    exact ⟨r, rfl, a2.trans m⟩
  · rw [if_neg c, z_bn, z_bn]
    exact ⟨-1, rfl, fun _ => m.mp (fun i _ hi => by omega), fun _ => by decide⟩
theorem z_gdb {l l' : List Int32} {j : Nat} (h : j < l.length) : (l ++ l').getD j 0 = l.getD j 0 := by
  rw [List.getD_eq_getElem?_getD, List.getD_eq_getElem?_getD, List.getElem?_append_left h]
theorem z_gda {l : List Int32} {v : Int32} : (l ++ [v]).getD l.length 0 = v := by
  rw [List.getD_eq_getElem?_getD, List.getElem?_append_right (Nat.le_refl _), Nat.sub_self]
  rfl
/-! ===== as the class stands while it reads ===== -/
def z_cX (X : x_M) (B : Nat → Nat) (n s nb cnt pa ba : Nat) (nm : Int32) (code : List Int32) : Prop := z_bX X B n ∧ s ≤ n ∧ X 80 6 = nI s ∧ X 80 7 = nI (z_en B n s) ∧ X 80 8 = nI (z_ka B n s) ∧ X 80 9 = nI nb ∧ X 80 5 = nI cnt ∧ X 80 11 = nI pa ∧ X 80 12 = nI ba ∧ X 80 13 = nm ∧ X 80 10 = nI code.length ∧ ∀ j, j < code.length → X 82 j = code.getD j 0
def z_fX (X X' : x_M) : Prop := (∀ q, q ≠ 80 → q ≠ 82 → X' q = X q) ∧ X' 80 3 = X 80 3
theorem z_fX_r {X : x_M} : z_fX X X := ⟨fun _ _ _ => rfl, rfl⟩
theorem z_fX_t {X X' X'' : x_M} (h : z_fX X X') (h' : z_fX X' X'') : z_fX X X'' := ⟨fun q h1 h2 => by rw [h'.1 q h1 h2, h.1 q h1 h2], by rw [h'.2, h.2]⟩
theorem z_letX {X : x_M} {B : Nat → Nat} {n s nb cnt pa ba : Nat} {nm : Int32} {code : List Int32} (h : z_cX X B n s nb cnt pa ba nm code) (hs : s < n) : f_X7_letter X = some (nI (B s), X) := by
  obtain ⟨⟨h1, h2, h3⟩, -, h6, -⟩ := h
  obtain ⟨q1, q2⟩ := h3 s hs
  unfold f_X7_letter
  rw [z_gf, z_gf, h6, h2, if_neg (by rw [z_le (by omega) (by omega)]; omega), z_gf, h6, z_rd (by omega) (by omega), q2, z_by_let _ q1]
/-- which sign stands there, 0: none -/
def z_sg0 (B : Nat → Nat) (n s : Nat) : Nat := if z_ka B n s = 3 then B s else 0
theorem z_sg0_b {B : Nat → Nat} {n s : Nat} (h : z_sg0 B n s ≠ 0) : z_ka B n s = 3 ∧ s < n ∧ z_sg0 B n s = B s := by
  unfold z_sg0 at h ⊢
  by_cases c : z_ka B n s = 3
  · refine ⟨c, ?_, if_pos c⟩
    have := z_ka_0 (B := B) (n := n) (p := s)
    omega
  · rw [if_neg c] at h
    exact absurd rfl h
theorem z_isoX {X : x_M} {B : Nat → Nat} {n s nb cnt pa ba t : Nat} {nm : Int32} {code : List Int32} (h : z_cX X B n s nb cnt pa ba nm code) (ht : t < 17) (h0 : 0 ∉ z_sb t) : f_X7_isSignOf X (nI t) = some (if z_sg0 B n s ∈ z_sb t then nI 1 else nI 0, X) := by
  have hkb := z_ka_b (B := B) (n := n) (p := s)
  have hk0 := z_ka_0 (B := B) (n := n) (p := s)
  unfold f_X7_isSignOf f_X7_isSignOf_23 z_sg0
  rw [z_gf, h.2.2.2.2.1, z_ieq (by omega) (by omega)]
  by_cases c : z_ka B n s = 3
  · have hs : s < n := by omega
    obtain ⟨r, a1, a2⟩ := z_ixo (X := X) ht (h.1.2.2 s hs).1
    rw [if_pos c, if_pos c, z_letX h hs, z_bn, z_cs ht, a1, z_bn]
    by_cases c2 : B s ∈ z_sb t
    · rw [if_pos c2, if_neg (fun q => (a2.mp q) c2)]
    · rw [if_neg c2, if_pos (a2.mpr c2)]
  · rw [if_neg c, if_neg c, if_neg h0]
theorem z_emX {X : x_M} {B : Nat → Nat} {n s nb cnt pa ba : Nat} {nm v : Int32} {code : List Int32} (h : z_cX X B n s nb cnt pa ba nm code) (hl : code.length < 132) : ∃ X', f_X7_emit X v = some ((), X') ∧ z_cX X' B n s nb cnt pa ba nm (code ++ [v]) ∧ z_fX X X' := by
  obtain ⟨⟨h1, h2, h3⟩, g1, g2, g3, g4, g5, g6, g7, g8, g9, g10, g11⟩ := h
  unfold f_X7_emit
  rw [z_gf, g10, if_neg (by rw [z_le (by omega) (by omega)]; omega), z_gf, g10, z_wr (by omega) (by omega), z_gf, z_upn (by omega), g10, z_pf, z_add]
  have f81 : ∀ c, c ≠ 10 → (x_up (x_up X 82 code.length v) 80 10 (nI (code.length + 1))) 80 c = X 80 c := fun c hc => by rw [z_upr, z_un hc, z_upn (by omega)]
  refine ⟨_, rfl, ⟨⟨h1, ?_, fun i hi => ?_⟩, g1, ?_, ?_, ?_, ?_, ?_, ?_, ?_, ?_, ?_, fun j hj => ?_⟩, fun q q1 q2 => ?_, f81 3 (by omega)⟩
  · rw [f81 4 (by omega)]; exact h2
  · rw [z_upn (by omega), z_upn (by omega)]; exact h3 i hi
  · rw [f81 6 (by omega)]; exact g2
  · rw [f81 7 (by omega)]; exact g3
  · rw [f81 8 (by omega)]; exact g4
  · rw [f81 9 (by omega)]; exact g5
  · rw [f81 5 (by omega)]; exact g6
  · rw [f81 11 (by omega)]; exact g7
  · rw [f81 12 (by omega)]; exact g8
  · rw [f81 13 (by omega)]; exact g9
  · rw [z_upr, z_us, List.length_append]; rfl
  · rw [List.length_append, List.length_singleton] at hj
    rw [z_upn (by omega), z_upr]
    by_cases e : j = code.length
    · rw [e, z_us, z_gda]
    · rw [z_un e, z_gdb (by omega)]
      exact g11 j (by omega)
  · rw [z_upn q1, z_upn q2]
theorem z_nxX {X : x_M} {B : Nat → Nat} {n s nb cnt pa ba : Nat} {nm : Int32} {code : List Int32} (h : z_cX X B n s nb cnt pa ba nm code) : ∃ X', f_X7_next X = some ((), X') ∧ z_cX X' B n (z_bl B n (z_en B n s)) (z_gl B n (z_en B n s) (z_ka B n s)) cnt pa ba nm code ∧ z_fX X X' := by
  obtain ⟨⟨h1, h2, h3⟩, g1, g2, g3, g4, g5, g6, g7, g8, g9, g10, g11⟩ := h
  have en := z_en_b (B := B) g1
  obtain ⟨X', a1, a2, a3, a4, a5, a6, a7⟩ := z_nx ⟨h1, h2, h3⟩ en.2.1 g3 g4 z_ka_b
  refine ⟨X', a1, ⟨⟨h1, ?_, fun i hi => ?_⟩, (z_bl_b en.2.1).2, a2, a3, a4, a5, ?_, ?_, ?_, ?_, ?_, fun j hj => ?_⟩, fun q q1 q2 => a6 q q1, a7 3 (by omega) (by omega) (by omega) (by omega)⟩
  · rw [a7 4 (by omega) (by omega) (by omega) (by omega)]; exact h2
  · rw [a6 81 (by omega)]; exact h3 i hi
  · rw [a7 5 (by omega) (by omega) (by omega) (by omega)]; exact g6
  · rw [a7 11 (by omega) (by omega) (by omega) (by omega)]; exact g7
  · rw [a7 12 (by omega) (by omega) (by omega) (by omega)]; exact g8
  · rw [a7 13 (by omega) (by omega) (by omega) (by omega)]; exact g9
  · rw [a7 10 (by omega) (by omega) (by omega) (by omega)]; exact g10
  · rw [a6 82 (by omega)]; exact g11 j hj
/-- the place behind the word or sign at s -/
def z_go (B : Nat → Nat) (n s : Nat) : Nat := z_bl B n (z_en B n s)
theorem z_go_b {B : Nat → Nat} {n s : Nat} (h : s ≤ n) : z_go B n s ≤ n ∧ s ≤ z_go B n s ∧ (z_ka B n s ≠ 0 → s < z_go B n s) := by
  have h1 := z_en_b (B := B) h
  have h2 := z_bl_b (B := B) h1.2.1
  unfold z_go
  exact ⟨by omega, by omega, fun q => by have := h1.2.2.1 q; omega⟩
theorem z_gl3 {B : Nat → Nat} {n p : Nat} : z_gl B n p 3 = 0 := by
  unfold z_gl
  rw [if_neg (by omega)]
theorem z_gl_k {B : Nat → Nat} {n s k : Nat} (h : z_gl B n (z_en B n s) k = 1) : z_ka B n (z_go B n s) = 1 ∨ z_ka B n (z_go B n s) = 2 := by
  unfold z_gl at h
  by_cases c : (k = 1 ∨ k = 2) ∧ (z_ka B n (z_bl B n (z_en B n s)) = 1 ∨ z_ka B n (z_bl B n (z_en B n s)) = 2) ∧ z_bl B n (z_en B n s) = z_en B n s
  · exact c.2.1
  · rw [if_neg c] at h
    omega
