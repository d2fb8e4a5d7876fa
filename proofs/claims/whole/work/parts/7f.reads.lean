/-! ===== one part of TERMS: the reference ===== -/
def z_fRr (w : Nat) (M M' : x_M) : Prop := (∀ q, q ≠ 0 → q ≠ 4 → q ≠ 5 → M' q = M q) ∧ (∀ c, c < 5 ∨ 18 < c → M' 0 c = M 0 c) ∧ ∀ i, ¬ (265 * w ≤ i ∧ i ≤ 265 * w + 264) → M' 4 i = M 4 i
theorem z_fRr_M {w : Nat} {M M' : x_M} (h : z_fM w M M') : z_fRr w M M' := ⟨h.1, h.2.1, fun i hi => h.2.2 i (by omega)⟩
theorem z_fRr_t {w : Nat} {M M' M'' : x_M} (h : z_fRr w M M') (h' : z_fRr w M' M'') : z_fRr w M M'' := ⟨fun q h1 h2 h3 => by rw [h'.1 q h1 h2 h3, h.1 q h1 h2 h3], fun c hc => by rw [h'.2.1 c hc, h.2.1 c hc], fun i hi => by rw [h'.2.2 i hi, h.2.2 i hi]⟩
theorem z_rdb {M : x_M} (h : z_bd1 M) {a b : Int32} : f_X12_reads M a b = some ((), M) := by
  unfold f_X12_reads
  rw [z_gf, h.1, if_neg z_n10]
/-- what is done once the E has been read -/
def z_rdE (w : Nat) (M : x_M) : Option (Unit × x_M) := x_gf M 0 12 (fun r44 => x_wr 1060 M 4 (nI 265 * nI w) r44 (fun M => some ((), M)))
theorem z_rdE_b {w : Nat} {M : x_M} {v : Int32} (hw : w < 4) (h : z_bd1 M) (h9 : M 0 9 = v) : ∃ M', z_rdE w M = some ((), M') ∧ z_bd1 M' ∧ M' 0 9 = v ∧ z_fRr w M M' := by
  obtain ⟨k1, s, e, k2, k3, k4, k5⟩ := h
  unfold z_rdE
  rw [z_gf, z_mul, z_wr (by omega) (by omega)]
  refine ⟨_, rfl, ⟨by rw [z_upn (by omega)]; exact k1, s, e, by rw [z_upn (by omega)]; exact k2, by rw [z_upn (by omega)]; exact k3, k4, k5⟩, by rw [z_upn (by omega)]; exact h9, fun q h1 h2 h3 => z_upn h2, fun c hc => by rw [z_upn (by omega)], fun i hi => by rw [z_upr, z_un (by omega)]⟩
theorem z_rd0 {M : x_M} {B : Nat → Nat} {n s cnt w : Nat} (h : z_cW M B n s cnt) (hw : w < 4) : ∃ M1, z_cW M1 B n s cnt ∧ M1 0 11 = nI w ∧ M1 0 12 = nI 0 ∧ z_fRr w M M1 ∧ (∀ r, f_X12_reads M (nI w) r = if r = 0 then x_bn (f_X12_wrong M1) (fun _ M => f_X12_reads_26 M (nI w)) else f_X12_reads_26 M1 (nI w)) := by
  obtain ⟨⟨b1, b2, b3⟩, g1, g2, g3, g4, g6, g10⟩ := h
  have f0 : ∀ c, c ≠ 11 → c ≠ 12 → (x_up (x_up M 0 11 (nI w)) 0 12 (nI 0)) 0 c = M 0 c := fun c c1 c2 => by rw [z_upr, z_un c2, z_upr, z_un c1]
  have fq : ∀ q, q ≠ 0 → (x_up (x_up M 0 11 (nI w)) 0 12 (nI 0)) q = M q := fun q h1 => by rw [z_upn h1, z_upn h1]
  refine ⟨x_up (x_up M 0 11 (nI w)) 0 12 (nI 0), ⟨⟨b1, ?_, fun i hi => ?_⟩, g1, ?_, ?_, ?_, ?_, ?_⟩, ?_, ?_, ⟨fun q q1 _ _ => fq q q1, fun c hc => f0 c (by omega) (by omega), fun i _ => by rw [fq 4 (by omega)]⟩, fun r => ?_⟩
  · rw [f0 7 (by omega) (by omega)]; exact b2
  · rw [fq 3 (by omega)]; exact b3 i hi
  · rw [f0 5 (by omega) (by omega)]; exact g2
  · rw [f0 6 (by omega) (by omega)]; exact g3
  · rw [f0 8 (by omega) (by omega)]; exact g4
  · rw [f0 10 (by omega) (by omega)]; exact g6
  · rw [f0 13 (by omega) (by omega)]; exact g10
  · rw [z_upr, z_un (by omega), z_upr, z_us]
  · rw [z_upr, z_us]
  · unfold f_X12_reads
    rw [z_gf, g6, if_pos z_n00, z_pf, z_pf]
theorem z_r26b {M : x_M} {w : Nat} {v : Int32} (hw : w < 4) (h : z_bd1 M) (h9 : M 0 9 = v) : ∃ M', f_X12_reads_26 M (nI w) = some ((), M') ∧ z_bd1 M' ∧ M' 0 9 = v ∧ z_fRr w M M' := by
  obtain ⟨k1, s, e, k2, k3, k4, k5⟩ := h
  have f0 : ∀ c, c < 16 → (x_up (x_up (x_up M 0 16 (nI 0)) 0 17 (nI 0)) 0 18 (nI 0)) 0 c = M 0 c := fun c hc => by rw [z_upr, z_un (by omega), z_upr, z_un (by omega), z_upr, z_un (by omega)]
  have hb : z_bd1 (x_up (x_up (x_up M 0 16 (nI 0)) 0 17 (nI 0)) 0 18 (nI 0)) := ⟨by rw [f0 10 (by omega)]; exact k1, s, e, by rw [f0 5 (by omega)]; exact k2, by rw [f0 6 (by omega)]; exact k3, k4, k5⟩
  obtain ⟨M', a1, a2, a3, a4⟩ := z_rdE_b (v := v) hw hb (by rw [f0 9 (by omega)]; exact h9)
  unfold f_X12_reads_26 f_X12_expression
  rw [z_nxb k1, z_bn, z_pf, z_pf, z_pf, show x_FU = 99999 + 1 from rfl, z_ebad hb, z_bn]
  refine ⟨M', a1, a2, a3, z_fRr_t ⟨fun q q1 _ _ => by rw [z_upn q1, z_upn q1, z_upn q1], fun c hc => by rw [z_upr, z_un (by omega), z_upr, z_un (by omega), z_upr, z_un (by omega)], fun i _ => by rw [z_upn (by omega), z_upn (by omega), z_upn (by omega)]⟩ a4⟩
/-- no word where one is wanted -/
theorem z_rdN {M : x_M} {B : Nat → Nat} {n s cnt w : Nat} (h : z_cW M B n s cnt) (hw : w < 4) : ∃ M', f_X12_reads M (nI w) (nI 0) = some ((), M') ∧ z_bd1 M' ∧ M' 0 9 = nI s ∧ z_fRr w M M' := by
  obtain ⟨M1, a1, k11, k12, a2, a3⟩ := z_rd0 h hw
  obtain ⟨⟨b1, b2, b3⟩, g1, g2, g3, g4, g6, g10⟩ := id a1
  have en := z_en_b (B := B) g1
  have f0 : ∀ c, c ≠ 9 → c ≠ 10 → (x_up (x_up M1 0 9 (nI s)) 0 10 (nI 1)) 0 c = M1 0 c := fun c c1 c2 => by rw [z_upr, z_un c2, z_upr, z_un c1]
  have hb : z_bd1 (x_up (x_up M1 0 9 (nI s)) 0 10 (nI 1)) := ⟨by rw [z_upr, z_us], s, _, by rw [f0 5 (by omega) (by omega)]; exact g2, by rw [f0 6 (by omega) (by omega)]; exact g3, by omega, by omega⟩
  obtain ⟨M3, p1, p2, p3, p4⟩ := z_r26b (v := nI s) hw hb (by rw [z_upr, z_un (by omega), z_upr, z_us])
  rw [a3, if_pos z_n00, z_wrg g6, z_bn, g2, p1]
  exact ⟨M3, rfl, p2, p3, z_fRr_t a2 (z_fRr_t ⟨fun q q1 _ _ => by rw [z_upn q1, z_upn q1], fun c hc => f0 c (by omega) (by omega), fun i _ => by rw [z_upn (by omega), z_upn (by omega)]⟩ p4)⟩
/-- the word, and the next is glued to it -/
theorem z_rdG {M : x_M} {B : Nat → Nat} {n s cnt w : Nat} (h : z_cW M B n s cnt) (hw : w < 4) : (z_gl B n (z_en B n s) (z_ka B n s) = 1 → ∃ M', f_X12_reads M (nI w) (nI 1) = some ((), M') ∧ z_bd1 M' ∧ M' 0 9 = nI (z_go B n s) ∧ z_fRr w M M') ∧ (z_gl B n (z_en B n s) (z_ka B n s) = 0 → ∃ M1 ft1, f_X12_reads M (nI w) (nI 1) = x_bn (f_X12_expression_19 x_FU M1 (nI 1) (nI 1)) (fun _ M => z_rdE w M) ∧ z_cM M1 B n (z_go B n s) cnt w 0 0 0 ft1 [] [] ∧ z_fRr w M M1) := by
  obtain ⟨M1, a1, k11, k12, a2, a3⟩ := z_rd0 h hw
  obtain ⟨⟨b1, b2, b3⟩, g1, g2, g3, g4, g6, g10⟩ := id a1
  have en := z_en_b (B := B) g1
  obtain ⟨M2, d1, d2, d3, d4, d5, d6, d7, d8⟩ := z_nxM ⟨b1, b2, b3⟩ en.2.1 g3 g4 z_ka_b g6
  have hgo := z_go_b (B := B) g1
  have hen := z_en_b (B := B) hgo.1
  rw [a3, if_neg z_n10]
  have e26 : f_X12_reads_26 M1 (nI w) = x_bn (f_X12_expression_19 x_FU (x_up (x_up (x_up M2 0 16 (nI 0)) 0 17 (nI 0)) 0 18 (nI 0)) (nI 1) (nI 1)) (fun _ M => z_rdE w M) := by
    unfold f_X12_reads_26 f_X12_expression
    rw [d1, z_bn, z_pf, z_pf, z_pf]
    rfl
  have f0 : ∀ c, c < 16 → (x_up (x_up (x_up M2 0 16 (nI 0)) 0 17 (nI 0)) 0 18 (nI 0)) 0 c = M2 0 c := fun c hc => by rw [z_upr, z_un (by omega), z_upr, z_un (by omega), z_upr, z_un (by omega)]
  have fr : z_fRr w M (x_up (x_up (x_up M2 0 16 (nI 0)) 0 17 (nI 0)) 0 18 (nI 0)) := z_fRr_t (z_fRr_t a2 ⟨fun q q1 _ _ => d7 q q1, fun c hc => d8 c (by omega) (by omega) (by omega) (by omega) (by omega), fun i _ => by rw [d7 4 (by omega)]⟩) ⟨fun q q1 _ _ => by rw [z_upn q1, z_upn q1, z_upn q1], fun c hc => by rw [z_upr, z_un (by omega), z_upr, z_un (by omega), z_upr, z_un (by omega)], fun i _ => by rw [z_upn (by omega), z_upn (by omega), z_upn (by omega)]⟩
  refine ⟨fun c => ?_, fun c => ?_⟩
  · have hb : z_bd1 (x_up (x_up (x_up M2 0 16 (nI 0)) 0 17 (nI 0)) 0 18 (nI 0)) := ⟨by rw [f0 10 (by omega), d5, c], z_go B n s, _, by rw [f0 5 (by omega)]; exact d2, by rw [f0 6 (by omega)]; exact d3, by omega, by unfold z_go at hen; omega⟩
    obtain ⟨M', p1, p2, p3, p4⟩ := z_rdE_b (v := nI (z_go B n s)) hw hb (by rw [f0 9 (by omega)]; exact d6 c)
    rw [e26, show x_FU = 99999 + 1 from rfl, z_ebad hb, z_bn]
    exact ⟨M', p1, p2, p3, z_fRr_t fr p4⟩
  · refine ⟨_, M2 0 9, e26, ⟨⟨b1, ?_, fun i hi => ?_⟩, hgo.1, ?_, ?_, ?_, ?_, ?_, ?_, ?_, fun j hj => absurd hj (by simp), ?_, ?_, ?_, ?_, trivial⟩, fr⟩
    · rw [f0 7 (by omega), d8 7 (by omega) (by omega) (by omega) (by omega) (by omega)]; exact b2
    · rw [z_upn (by omega), z_upn (by omega), z_upn (by omega), d7 3 (by omega)]; exact b3 i hi
    · rw [f0 5 (by omega)]; exact d2
    · rw [f0 6 (by omega)]; exact d3
    · rw [f0 8 (by omega)]; exact d4
    · rw [f0 9 (by omega)]
    · rw [f0 10 (by omega), d5, c]
    · rw [f0 11 (by omega), d8 11 (by omega) (by omega) (by omega) (by omega) (by omega)]; exact k11
    · rw [f0 12 (by omega), d8 12 (by omega) (by omega) (by omega) (by omega) (by omega)]; exact k12
    · rw [f0 13 (by omega), d8 13 (by omega) (by omega) (by omega) (by omega) (by omega)]; exact g10
    · rw [z_upr, z_un (by omega), z_upr, z_un (by omega), z_upr, z_us]; rfl
    · rw [z_upr, z_un (by omega), z_upr, z_us]
    · rw [z_upr, z_us]
/-! ===== one part of TERMS: the class ===== -/
theorem z_J1 {B : Nat → Nat} {n s cnt pa ba : Nat} {nm : Int32} {code : List Int32} {X : x_M} (h : z_cX X B n s 1 cnt pa ba nm code) (hk : z_ka B n s = 1 ∨ z_ka B n s = 2) : ∀ (d : Nat), (1 ≤ d → (x_rec d).2 X = some (nI 0, X)) ∧ ∀ l, l ≤ 5 → 7 - l ≤ d → (x_rec d).1 X (nI l) = some (nI 0, X)
  | 0 => ⟨fun q => by omega, fun l h1 h2 => by omega⟩
  | d + 1 => by
    have ih := z_J1 h hk d
    have hsg := z_wk_sg hk
    refine ⟨fun _ => ?_, fun l h1 h2 => ?_⟩
    · show f_X7_isPart (x_rec d).1 (x_rec d).2 X = some (nI 0, X)
      unfold f_X7_isPart f_X7_isNumberOrName
      rw [z_isoX h (t := 14) (by omega) (by decide), z_bn, hsg, if_neg (show ¬ 0 ∈ z_sb 14 by decide), if_pos z_n00, z_isoX h (t := 15) (by omega) (by decide), z_bn, hsg, if_neg (show ¬ 0 ∈ z_sb 15 by decide), if_pos z_n00, z_gf, h.2.2.2.2.2.1, if_neg z_n10, z_bn, z_cz0]
    · show f_X7_isJoined (x_rec d).1 (x_rec d).2 X (nI l) = some (nI 0, X)
      unfold f_X7_isJoined
      rw [z_ilt (by omega) (by omega)]
      by_cases c : l < 5
      · rw [if_pos c, z_add, ih.2 (l + 1) (by omega) (by omega), z_bn, if_pos z_n00]
      · rw [if_neg c, ih.1 (by omega), z_bn, z_cz0]
theorem z_wofX {X : x_M} {w : Nat} (hw : w < 4) : f_X7_wordOf X (nI w) = some (nI (1 + w), X) ∧ f_X7_namesOf X (nI w) = some (nI (5 + w), X) := by
  rcases (show w = 0 ∨ w = 1 ∨ w = 2 ∨ w = 3 by omega) with rfl | rfl | rfl | rfl <;> exact ⟨rfl, rfl⟩
theorem z_cX_nm {X : x_M} {B : Nat → Nat} {n s nb cnt pa ba : Nat} {nm v : Int32} {code : List Int32} (h : z_cX X B n s nb cnt pa ba nm code) : z_cX (x_up X 80 13 v) B n s nb cnt pa ba v code ∧ z_fX X (x_up X 80 13 v) := by
  obtain ⟨⟨h1, h2, h3⟩, g1, g2, g3, g4, g5, g6, g7, g8, g9, g10, g11⟩ := h
  have f81 : ∀ c, c ≠ 13 → (x_up X 80 13 v) 80 c = X 80 c := fun c hc => by rw [z_upr, z_un hc]
  exact ⟨⟨⟨h1, by rw [f81 4 (by omega)]; exact h2, fun i hi => by rw [z_upn (by omega)]; exact h3 i hi⟩, g1, by rw [f81 6 (by omega)]; exact g2, by rw [f81 7 (by omega)]; exact g3, by rw [f81 8 (by omega)]; exact g4, by rw [f81 9 (by omega)]; exact g5, by rw [f81 5 (by omega)]; exact g6, by rw [f81 11 (by omega)]; exact g7, by rw [f81 12 (by omega)]; exact g8, by rw [z_upr, z_us], by rw [f81 10 (by omega)]; exact g10, fun j hj => by rw [z_upn (by omega)]; exact g11 j hj⟩, fun q q1 _ => z_upn q1, f81 3 (by omega)⟩
