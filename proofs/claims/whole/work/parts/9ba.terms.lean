/-! ===== terms ===== -/
theorem z_y_v {NC : Nat} {X M : x_M} {G H : z_G} {Cd Ch : Nat → Nat → List Int32} (R : z_R NC X M G H Cd Ch) : y_v NC X := by
  have hN : NC ≤ 100000 := R.2.1.2.2.2.2.2.1
  have key : ∀ x : Int32, (x = 0 ∨ ∃ r, x = nI r ∧ z_tk NC r) → x = 0 ∨ x.toNatClampNeg ≤ NC := by
    intro x hx
    rcases hx with q | ⟨r, q1, q2⟩
    · exact Or.inl q
    · refine Or.inr ?_
      unfold z_tk at q2
      rw [q1, nI_clamp (by omega)]
      omega
  intro k i hk
  rcases hk with rfl | rfl
  · exact key _ (R.1.2.2.2.2.1 i)
  · exact key _ (R.2.1.2.2.2.2.2.2.2.2.2 i)
theorem z_t172 {M : x_M} {T day cnt : Nat} {cd : Nat → List Int32} (hT : T < 4) (h6 : M 1 6 = nI T) (h10 : M 0 10 = nI 0) (h13 : M 0 13 = nI cnt) (hl : ∀ w, w < 4 → (cd w).length ≤ 132) (hc : z_pcM M 4 cd) : ∃ M', f_X12_terms_172 M (nI day) = some (nI cnt, M') ∧ (∀ q, q ≠ 1 → M' q = M q) ∧ M' 1 6 = nI (T + 1) ∧ M' 1 (1050 + 1062 * T) = nI day ∧ z_wds (M' 1) (1052 + 1062 * T) cd ∧ ∀ p, p ≠ 6 → ¬ (1050 + 1062 * T ≤ p ∧ p < 2112 + 1062 * T) → M' 1 p = M 1 p := by
  unfold f_X12_terms_172
  rw [z_gf, h10, if_pos z_n00, z_rd (by omega) (by omega), h6, z_ieq (by omega) (by omega), if_neg (by omega), z_rd (by omega) (by omega), h6, z_mul, z_add, z_wr (by omega) (by omega)]
  obtain ⟨M1, a1, a2, a3, a4⟩ := z_t226 (b := 1050 + 1062 * T) (W := M 4) (by omega) 1060 0 x_FU (x_up M 1 (1050 + 1062 * T) (nI day)) (by omega) (by unfold x_FU; omega) (z_upn (by omega)) (fun i hi => by omega)
  have k6 : M1 1 6 = nI T := by rw [a4 6 (by omega), z_upr, z_un (by omega)]; exact h6
  rw [a1, z_rd (by omega) (by omega), k6, z_add, z_wr (by omega) (by omega), z_gf, z_upn (by omega), a2 0 (by omega), z_upn (by omega), h13]
  refine ⟨_, rfl, fun q hq => by rw [z_upn hq, a2 q hq, z_upn hq], by rw [z_upr, z_us], by rw [z_upr, z_un (by omega), a4 _ (by omega), z_upr, z_us], fun w hw => ?_, fun p p1 p2 => by rw [z_upr, z_un p1, a4 p (by omega), z_upr, z_un (by omega)]⟩
  obtain ⟨y1, y2⟩ := hc w hw
  have hlw := hl w hw
  have cp : ∀ i, i < 1060 → (x_up M1 1 6 (nI (T + 1))) 1 (1052 + 1062 * T + i) = M 4 i := fun i hi => by
    rw [z_upr, z_un (by omega), show 1052 + 1062 * T + i = 1050 + 1062 * T + 2 + i by omega]
    exact a3 i hi
  refine ⟨by rw [cp _ (by omega)]; exact y1, fun j hj => ?_⟩
  rw [show 1052 + 1062 * T + 265 * w + 1 + 2 * j = 1052 + 1062 * T + (265 * w + 1 + 2 * j) by omega, show 1052 + 1062 * T + 265 * w + 2 + 2 * j = 1052 + 1062 * T + (265 * w + 2 + 2 * j) by omega, cp _ (by omega), cp _ (by omega)]
  exact y2 j hj
theorem z_t103 {NC : Nat} {X M M' : x_M} {G H : z_G} {Cd Ch : Nat → Nat → List Int32} {day cnt : Nat} {cd : Nat → List Int32} {code : List Int32} (R : z_R NC X M G H Cd Ch) (hN : NC + 3 ≤ 100000) (hT : G 16 2 < 4) (hd : day ≤ 1200) (h5 : X 80 5 = nI cnt) (h10 : X 80 10 = nI code.length) (hl : code.length ≤ 132) (h83 : ∀ j, j < code.length → X 82 j = code.getD j 0) (hpX : z_pcX X 4 cd code) (hq : ∀ q, q ≠ 1 → M' q = M q) (h6 : M' 1 6 = nI (G 16 2 + 1)) (h50 : M' 1 (1050 + 1062 * G 16 2) = nI day) (hwd : z_wds (M' 1) (1052 + 1062 * G 16 2) cd) (hp : ∀ p, p ≠ 6 → ¬ (1050 + 1062 * G 16 2 ≤ p ∧ p < 2112 + 1062 * G 16 2) → M' 1 p = M 1 p) : ∃ X' G' Cd', f_X11_terms_103 NC X (nI day) = some ((nI cnt, NC + 3), X') ∧ z_R (NC + 3) X' M' G' H Cd' Ch := by
  have h95 : 94 ≤ NC := R.2.1.2.2.2.2.1
  have hN3 : NC % 3 = 1 := R.2.1.2.2.2.2.2.2.1
  have g16 := (z_g16 R.1.1).1
  have e103 : f_X11_terms_103 NC X (nI day) = x_bn (f_X9_add (NC + 3) (y_M X NC (nI day) code.length) (nI (NC + 1))) (fun _ M => x_gf M 80 5 (fun r => some ((r, NC + 3), M))) := by
    unfold f_X11_terms_103
    rw [if_neg (fun q => q (z_y_v R)), z_gf, h10, if_neg (fun q => by
      rcases q with q | q
      · rw [z_lt0 (by omega)] at q
        exact q
      · rw [z_lt (by omega) (by omega)] at q
        omega), nI_clamp (by omega)]
  have yk : ∀ k, k < NC → y_M X NC (nI day) code.length k = X k := fun k hk => by
    unfold y_M
    rw [if_neg (by omega), if_neg (by omega), if_neg (by omega)]
  have y0 : y_M X NC (nI day) code.length NC = upd (fun _ => 0) 0 (nI day) := if_pos rfl
  have y1 : y_M X NC (nI day) code.length (NC + 1) = upd (X 82) 2147483648 (nI code.length) := by
    unfold y_M
    rw [if_neg (by omega), if_pos rfl]
  have y2 : y_M X NC (nI day) code.length (NC + 2) = X 83 := by
    unfold y_M
    rw [if_neg (by omega), if_neg (by omega), if_pos rfl]
  have R1 := z_R_e R yk hN
  have htk : z_tk (NC + 3) (NC + 1) := by
    unfold z_tk
    omega
  have hcd : z_code (y_M X NC (nI day) code.length) (NC + 1) cd := by
    have hb := hpX.1
    refine ⟨by rw [y1, z_us, hb], by omega, fun w hw => ?_⟩
    obtain ⟨q1, q2, q3⟩ := hpX.2 w hw
    have := z_beg_m (cd := cd) (v := w) 4 hw
    refine ⟨by rw [y2]; exact q1, fun j hj => ?_⟩
    rw [y1, z_un (by omega), h83 _ (by omega)]
    exact q2 j hj
  have R2 := z_R_add (M' := M') R1 hT hd htk (by rw [show NC + 1 - 1 = NC by omega, y0, z_us]) hcd (fun w hw => (hpX.2 w hw).2.2) hq h6 h50 hwd hp
  have eadd : f_X9_add (NC + 3) (y_M X NC (nI day) code.length) (nI (NC + 1)) = some ((), x_up (x_up (y_M X NC (nI day) code.length) 17 (G 16 2) (nI (NC + 1))) 16 2 (nI (G 16 2 + 1))) := by
    have e16 : (y_M X NC (nI day) code.length) 16 2 = nI (G 16 2) := by rw [yk 16 (by omega)]; exact g16
    unfold f_X9_add
    rw [z_gf, e16, if_neg (by rw [z_le (by omega) (by omega)]; omega), z_gf, e16]
    unfold x_tk
    rw [nI_clamp (by omega), if_pos ⟨by omega, by omega, by omega, by omega⟩, z_wr (by omega) (by omega), z_gf, z_upn (by omega), e16, z_add, z_pf]
  rw [e103, eadd, z_bn, z_gf, z_upn (by omega), z_upn (by omega), yk 80 (by omega), h5]
  exact ⟨_, _, _, rfl, R2⟩
theorem z_t65 {NC : Nat} {X M : x_M} {G H : z_G} {Cd Ch : Nat → Nat → List Int32} {B : Nat → Nat} {n day : Nat} (R : z_R NC X M G H Cd Ch) (hN : NC + 3 ≤ 100000) (hX : z_bX X B n) (hM : z_bM M B n) (h3 : X 80 3 = nI 0) (h4 : M 0 4 = nI 0) (hd : day ≤ 1200) : ∃ (r : Int32) (NC' : Nat) (X' M' : x_M) (G' : z_G) (Cd' : Nat → Nat → List Int32), f_X11_terms_65 NC X (nI day) = some ((r, NC'), X') ∧ f_X12_terms_56 M (nI day) = some (r, M') ∧ NC' ≤ NC + 3 ∧ z_R NC' X' M' G' H Cd' Ch := by
  obtain ⟨r, X1, M1, a1, a2, a3, a4, a5, a6⟩ := z_txt (v1 := nI day) hX hM
  have R1 : z_R NC X1 M1 G H Cd Ch := z_R_t R a3.1 a5.1 (a5.2 2 (by omega)) (a5.2 35 (by omega)) (by rw [a3.2]; exact h3) (by rw [a5.2 4 (by omega)]; exact h4)
  have hS := R1.1.2.1.1
  unfold z_IS at hS
  unfold f_X11_terms_65
  rw [a1, z_bn, a4]
  unfold z_tEnd
  rcases a6 with ⟨rfl, s, b1, b2⟩ | ⟨rfl, b1, b2, cnt, cd, code, b3, b4, b5, b6, b7, b8, b9⟩
  · rw [if_pos z_n00, z_gf, b1]
    rcases b2 with ⟨c1, c2⟩ | ⟨c1, c2, k, c3, c4, c5⟩
    · unfold f_X12_terms_172
      rw [z_gf, c1.1, if_neg z_n10, z_gf, c1.1, if_neg z_n10, z_gf, c2]
      exact ⟨_, _, _, _, _, _, rfl, rfl, by omega, R1⟩
    · have w10 : (x_up (x_up M1 0 9 (M1 0 5)) 0 10 (nI 1)) 0 10 = nI 1 := by rw [z_upr, z_us]
      have w9 : (x_up (x_up M1 0 9 (M1 0 5)) 0 10 (nI 1)) 0 9 = nI s := by rw [z_upr, z_un (by omega), z_upr, z_us]; exact c2
      unfold f_X12_terms_172
      rw [z_gf, c1, if_pos z_n00, z_gf, c3, z_ieq0 (by omega), if_neg c4, z_wrg c1, z_bn, z_gf, w10, if_neg z_n10, z_gf, w9]
      refine ⟨_, _, _, _, _, _, rfl, rfl, by omega, z_R_t R1 (fun _ _ _ _ => rfl) (fun q q1 _ _ => by rw [z_upn q1, z_upn q1]) (by rw [z_upr, z_un (by omega), z_upr, z_un (by omega)]) (by rw [z_upr, z_un (by omega), z_upr, z_un (by omega)]) (by rw [a3.2]; exact h3) ?_⟩
      rw [z_upr, z_un (by omega), z_upr, z_un (by omega), a5.2 4 (by omega)]
      exact h4
  · have g16 := z_g16 R1.1.1
    rw [if_neg z_n10, z_gf, g16.1, z_ilt (by omega) (by omega), z_gf, b1, if_pos z_n00, z_gf, b2, if_pos z_n00]
    by_cases c : G 16 2 < 4
    · have hlen : ∀ w, w < 4 → (cd w).length ≤ 132 := fun w hw => by
        have := z_beg_m (cd := cd) (v := w) 4 hw
        have := b8.1
        omega
      obtain ⟨M2, d1, d2, d3, d4, d5, d6⟩ := z_t172 (day := day) c g16.2 b1 b4 hlen b9
      obtain ⟨X2, G2, Cd2, e1, e2⟩ := z_t103 R1 hN c hd b3 b5 b6 b7 b8 d2 d3 d4 d5 d6
      rw [if_pos c, e1, d1]
      exact ⟨_, _, _, _, _, _, rfl, rfl, by omega, e2⟩
    · unfold f_X12_terms_172
      rw [if_neg c, z_gf, b1, if_pos z_n00, z_rd (by omega) (by omega), g16.2, if_pos (show nI (G 16 2) = nI 4 by rw [show G 16 2 = 4 by omega])]
      exact ⟨_, _, _, _, _, _, rfl, rfl, by omega, R1⟩
theorem e_terms {NC : Nat} {X M : x_M} {G H : z_G} {Cd Ch : Nat → Nat → List Int32} (R : z_R NC X M G H Cd Ch) (hN : NC + 3 ≤ 100000) (a1 : Int32) : ∃ (r : Int32) (NC' : Nat) (X' M' : x_M) (G' : z_G) (Cd' : Nat → Nat → List Int32), f_X11_terms NC X a1 = some ((r, NC'), X') ∧ f_X12_terms M a1 = some (r, M') ∧ NC' ≤ NC + 3 ∧ z_R NC' X' M' G' H Cd' Ch := by
  obtain ⟨n, hn, t1, t2, t3⟩ := R.2.1.2.2.2.1
  obtain ⟨B, hB⟩ : ∃ B : Nat → Nat, ∀ i, i < n → B i < 256 ∧ M 3 i = nI (B i) ∧ X 81 i = (nI (B i)).toInt8.toInt32 := by
    refine ⟨fun i => if h : i < n then Classical.choose (t3 i h) else 0, fun i hi => ?_⟩
    have q := Classical.choose_spec (t3 i hi)
    simp only [dif_pos hi]
    exact q
  have R0 : z_R NC (x_up (x_up X 80 4 (nI n)) 80 3 (nI 0)) (x_up (x_up M 0 7 (nI n)) 0 4 (nI 0)) G H Cd Ch := z_R_t R (fun k k1 _ _ => by rw [z_upn k1, z_upn k1]) (fun k k1 _ _ => by rw [z_upn k1, z_upn k1]) (by rw [z_upr, z_un (by omega), z_upr, z_un (by omega)]) (by rw [z_upr, z_un (by omega), z_upr, z_un (by omega)]) (by rw [z_upr, z_us]) (by rw [z_upr, z_us])
  have hbX : z_bX (x_up (x_up X 80 4 (nI n)) 80 3 (nI 0)) B n := ⟨hn, by rw [z_upr, z_un (by omega), z_upr, z_us], fun i hi => by rw [z_upn (by omega), z_upn (by omega)]; exact ⟨(hB i hi).1, (hB i hi).2.2⟩⟩
  have hbM : z_bM (x_up (x_up M 0 7 (nI n)) 0 4 (nI 0)) B n := ⟨hn, by rw [z_upr, z_un (by omega), z_upr, z_us], fun i hi => by rw [z_upn (by omega), z_upn (by omega)]; exact ⟨(hB i hi).1, (hB i hi).2.1⟩⟩
  have x3 : (x_up (x_up X 80 4 (nI n)) 80 3 (nI 0)) 80 3 = nI 0 := by rw [z_upr, z_us]
  have m4 : (x_up (x_up M 0 7 (nI n)) 0 4 (nI 0)) 0 4 = nI 0 := by rw [z_upr, z_us]
  unfold f_X11_terms f_X12_terms f_X7_useUp
  rw [z_gf, t1, z_pf, z_pf, z_bn, z_gf, t2, z_pf, z_pf]
  generalize x_up (x_up X 80 4 (nI n)) 80 3 (nI 0) = X0 at *
  generalize x_up (x_up M 0 7 (nI n)) 0 4 (nI 0) = M0 at *
  have hS := R0.1.2.1.1
  unfold z_IS at hS
  have hT := z_g1 R0.1.1
  have hG := z_g31 R0.1.1 (show 0 < 3 by omega)
  unfold f_X11_isDay f_X12_isDay
  simp only [z_in, z_wi, z_bn, z_czi, z_ite]
  by_cases h1 : a1 < nI 0 ∨ nI 1200 < a1
  · simp only [if_pos h1]
    exact ⟨_, _, _, _, _, _, rfl, rfl, by omega, R0⟩
  simp only [if_neg h1]
  obtain ⟨day, -, hd, rfl⟩ := z_nat h1 (by decide) (by decide)
  have go := z_t65 R0 hN hbX hbM x3 m4 hd
  have no : ∃ (r : Int32) (NC' : Nat) (X' M' : x_M) (G' : z_G) (Cd' : Nat → Nat → List Int32), some ((-1000000002, NC), X0) = some ((r, NC'), X') ∧ some (-1000000002, M0) = some (r, M') ∧ NC' ≤ NC + 3 ∧ z_R NC' X' M' G' H Cd' Ch := ⟨_, _, _, _, _, _, rfl, rfl, by omega, R0⟩
  have hdz : (nI (G 31 0) ≤ nI day - nI (G 1 8)) = (G 1 8 + G 31 0 ≤ day) := z_dsub (by omega) hd (by omega)
  unfold f_X11_terms_35 f_X11_terms_36 f_X12_terms_53
  have hG2 : M0 1 1 = nI (G 31 0) := hG.2
  simp (disch := omega) only [z_gf, z_rd, hT.1, hT.2, hG.1, hG2, hdz, z_add, z_eq0, z_le, if_neg z_n10, if_pos z_n00]
  by_cases c1 : G 1 8 + G 31 0 ≤ day
  · simp only [if_pos c1, ite_self]
    exact go
  · simp only [if_neg c1]
    by_cases c2 : day = 0
    · simp only [if_pos c2]
      by_cases c3 : G 1 8 = 0
      · simp only [if_pos c3]
        exact go
      · simp only [if_neg c3]
        exact no
    · simp only [if_neg c2]
      exact no
