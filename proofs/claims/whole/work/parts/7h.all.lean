/-! ===== a whole text ===== -/
def z_ch {α : Type} (K : x_M → Option α) : Nat → Nat → x_M → Option α
  | 0, _, M => K M
  | e + 1, w, M => x_bn (z_wM w M) (fun r M => x_bn (f_X12_reads M (nI w) r) (fun _ M => z_ch K e (w + 1) M))
theorem z_chB {α : Type} {K : x_M → Option α} {M : x_M} (h : z_bd1 M) : ∀ e w, z_ch K e w M = K M
  | 0, _ => rfl
  | e + 1, w => by
    obtain ⟨r, hr⟩ := z_wMB h (w := w)
    rw [z_ch, hr, z_bn, z_rdb h, z_bn]
    exact z_chB h e (w + 1)
theorem z_hbX {B : Nat → Nat} {n s nb cnt w fu : Nat} {nm : Int32} {code : List Int32} {X M : x_M} (h : z_cX X B n s nb cnt 0 0 nm code) (hb : z_hB B n s nb M) (hw : w ≤ 4) : f_X7_isTerms_36 (fu + 1) X (nI w) = some (nI 0, X) := by
  obtain ⟨h1, h2, h3, -, -⟩ := hb
  have hkb := z_ka_b (B := B) (n := n) (p := s)
  rw [f_X7_isTerms_36_s, z_ile (by omega) (by omega)]
  by_cases c : 4 ≤ w
  · rw [if_pos c, z_gf, h.2.2.2.2.1, z_ieq0 (by omega), if_neg h2]
  · rw [if_neg c, (z_wofX (show w < 4 by omega)).1, z_bn, (z_iswX h h3 (show 1 + w < 17 by omega)).2 (fun q => by have := q.2.1; omega), z_bn, if_pos z_n00]
def z_res (r : Nat) (X M : x_M) : Prop := (r = 0 ∧ ∃ s, X 80 6 = nI s ∧ ((z_bd1 M ∧ M 0 9 = nI s) ∨ (M 0 10 = nI 0 ∧ M 0 5 = nI s ∧ ∃ k, M 0 8 = nI k ∧ k ≠ 0 ∧ k ≤ 3))) ∨ (r = 1 ∧ M 0 10 = nI 0 ∧ M 0 8 = nI 0 ∧ ∃ cnt cd code, X 80 5 = nI cnt ∧ M 0 13 = nI cnt ∧ X 80 10 = nI code.length ∧ code.length ≤ 132 ∧ (∀ j, j < code.length → X 82 j = code.getD j 0) ∧ z_pcX X 4 cd code ∧ z_pcM M 4 cd)
theorem z_fin {B : Nat → Nat} {n : Nat} {α : Type} {K : x_M → Option α} : ∀ (e w fu s cnt : Nat) (nm : Int32) (code : List Int32) (cd : Nat → List Int32) (X M : x_M), 4 = w + e → e < fu → z_cX X B n s 0 cnt 0 0 nm code → code.length ≤ s → z_pcX X w cd code → z_cW M B n s cnt → z_pcM M w cd → ∃ r X' M', f_X7_isTerms_36 fu X (nI w) = some (nI r, X') ∧ r ≤ 1 ∧ z_fX4 X X' ∧ z_ch K e w M = K M' ∧ z_fM4 M M' ∧ z_res r X' M' := by
  intro e
  induction e with
  | zero =>
    intro w fu s cnt nm code cd X M hw hfu h hc hpX hM hpM
    obtain ⟨fu, rfl⟩ : ∃ a, fu = a + 1 := ⟨fu - 1, by omega⟩
    obtain rfl : w = 4 := by omega
    obtain ⟨-, g1, g2, g3, g4, g6, g10⟩ := hM
    have hkb := z_ka_b (B := B) (n := n) (p := s)
    have hn := h.1.1
    rw [f_X7_isTerms_36_s, if_pos (by decide), z_gf, h.2.2.2.2.1, z_ieq0 (by omega)]
    by_cases c : z_ka B n s = 0
    · rw [if_pos c]
      rw [c] at g4
      exact ⟨1, X, M, rfl, by omega, ⟨fun _ _ _ _ => rfl, rfl⟩, rfl, ⟨fun _ _ _ _ => rfl, fun _ _ => rfl⟩, Or.inr ⟨rfl, g6, g4, cnt, cd, code, h.2.2.2.2.2.2.1, g10, h.2.2.2.2.2.2.2.2.2.2.1, by omega, h.2.2.2.2.2.2.2.2.2.2.2, hpX, hpM⟩⟩
    · rw [if_neg c]
      exact ⟨0, X, M, rfl, by omega, ⟨fun _ _ _ _ => rfl, rfl⟩, rfl, ⟨fun _ _ _ _ => rfl, fun _ _ => rfl⟩, Or.inl ⟨rfl, s, h.2.2.1, Or.inr ⟨g6, g2, _, g4, c, hkb⟩⟩⟩
  | succ e ih =>
    intro w fu s cnt nm code cd X M hw hfu h hc hpX hM hpM
    obtain ⟨fu, rfl⟩ : ∃ a, fu = a + 1 := ⟨fu - 1, by omega⟩
    obtain ⟨X1, M1, a1, a2, a3, a4⟩ := z_one (fu := fu) (Kc := fun M => z_ch K e (w + 1) M) (show w < 4 by omega) h hc hpX hM hpM
    rw [z_ch, a2]
    rcases a4 with ⟨b1, s', b2, b3, b4⟩ | ⟨b1, s', nb, cnt', code', cd', b2, b3, b4, b5⟩
    · rw [b1, z_chB b3]
      exact ⟨0, X1, M1, rfl, by omega, a1, rfl, a3, Or.inl ⟨rfl, s', b2, Or.inl ⟨b3, b4⟩⟩⟩
    · rw [b1]
      rcases b5 with ⟨rfl, ft', out', b6, b7⟩ | b6
      · obtain ⟨r, X2, M2, d1, d2, d3, d4, d5, d6⟩ := ih (w + 1) fu s' cnt' _ code' cd' X1 M1 (by omega) (by omega) b2 b3 b4 (z_cW_c b6) b7
        rw [d1, d4]
        exact ⟨r, X2, M2, rfl, d2, z_fX4_t a1 d3, rfl, z_fM4_t a3 d5, d6⟩
      · obtain ⟨fu, rfl⟩ : ∃ a, fu = a + 1 := ⟨fu - 1, by omega⟩
        rw [z_hbX b2 b6 (by omega), z_chB b6.2.2.2.1]
        exact ⟨0, X1, M1, rfl, by omega, a1, rfl, a3, Or.inl ⟨rfl, s', b2.2.2.1, Or.inl ⟨b6.2.2.2.1, b6.2.2.2.2⟩⟩⟩
/-- what the reference does at the end of a text -/
def z_tEnd (v1 : Int32) (M : x_M) : Option (Int32 × x_M) := x_gf M 0 10 (fun r155 => if r155 = 0 then x_gf M 0 8 (fun r162 => if r162 = 0 then f_X12_terms_172 M v1 else x_bn (f_X12_wrong M) (fun _ M => f_X12_terms_172 M v1)) else f_X12_terms_172 M v1)
theorem z_txt {X M : x_M} {B : Nat → Nat} {n : Nat} {v1 : Int32} (hX : z_bX X B n) (hM : z_bM M B n) : ∃ r X' M', f_X7_isTerms X = some (nI r, X') ∧ r ≤ 1 ∧ z_fX4 X X' ∧ f_X12_terms_56 M v1 = z_tEnd v1 M' ∧ z_fM4 M M' ∧ z_res r X' M' := by
  obtain ⟨h1, h2, h3⟩ := id hX
  obtain ⟨b1, b2, b3⟩ := id hM
  unfold f_X7_isTerms f_X12_terms_56
  rw [z_pf, z_pf, z_pf, z_pf, z_pf, z_pf, z_pf, z_pf, z_cz0, z_pf, z_pf]
  have fx : ∀ c, c ≠ 5 → c ≠ 10 → c ≠ 11 → c ≠ 12 → c ≠ 7 → c ≠ 8 → (x_up (x_up (x_up (x_up (x_up (x_up X 80 5 (nI 0)) 80 10 (nI 0)) 80 11 (nI 0)) 80 12 (nI 0)) 80 7 (nI 0)) 80 8 (nI 0)) 80 c = X 80 c := fun c c1 c2 c3 c4 c5 c6 => by
    simp only [z_upr]
    rw [z_un c6, z_un c5, z_un c4, z_un c3, z_un c2, z_un c1]
  have fxq : ∀ q, q ≠ 80 → (x_up (x_up (x_up (x_up (x_up (x_up X 80 5 (nI 0)) 80 10 (nI 0)) 80 11 (nI 0)) 80 12 (nI 0)) 80 7 (nI 0)) 80 8 (nI 0)) q = X q := fun q hq => by rw [z_upn hq, z_upn hq, z_upn hq, z_upn hq, z_upn hq, z_upn hq]
  have x5 : (x_up (x_up (x_up (x_up (x_up (x_up X 80 5 (nI 0)) 80 10 (nI 0)) 80 11 (nI 0)) 80 12 (nI 0)) 80 7 (nI 0)) 80 8 (nI 0)) 80 5 = nI 0 := by simp (disch := omega) only [z_upr, z_un, z_us]
  have x10 : (x_up (x_up (x_up (x_up (x_up (x_up X 80 5 (nI 0)) 80 10 (nI 0)) 80 11 (nI 0)) 80 12 (nI 0)) 80 7 (nI 0)) 80 8 (nI 0)) 80 10 = nI 0 := by simp (disch := omega) only [z_upr, z_un, z_us]
  have x11 : (x_up (x_up (x_up (x_up (x_up (x_up X 80 5 (nI 0)) 80 10 (nI 0)) 80 11 (nI 0)) 80 12 (nI 0)) 80 7 (nI 0)) 80 8 (nI 0)) 80 11 = nI 0 := by simp (disch := omega) only [z_upr, z_un, z_us]
  have x12 : (x_up (x_up (x_up (x_up (x_up (x_up X 80 5 (nI 0)) 80 10 (nI 0)) 80 11 (nI 0)) 80 12 (nI 0)) 80 7 (nI 0)) 80 8 (nI 0)) 80 12 = nI 0 := by simp (disch := omega) only [z_upr, z_un, z_us]
  have x7 : (x_up (x_up (x_up (x_up (x_up (x_up X 80 5 (nI 0)) 80 10 (nI 0)) 80 11 (nI 0)) 80 12 (nI 0)) 80 7 (nI 0)) 80 8 (nI 0)) 80 7 = nI 0 := by simp (disch := omega) only [z_upr, z_un, z_us]
  have x8 : (x_up (x_up (x_up (x_up (x_up (x_up X 80 5 (nI 0)) 80 10 (nI 0)) 80 11 (nI 0)) 80 12 (nI 0)) 80 7 (nI 0)) 80 8 (nI 0)) 80 8 = nI 0 := by simp (disch := omega) only [z_upr, z_us]
  generalize x_up (x_up (x_up (x_up (x_up (x_up X 80 5 (nI 0)) 80 10 (nI 0)) 80 11 (nI 0)) 80 12 (nI 0)) 80 7 (nI 0)) 80 8 (nI 0) = X0 at *
  have fm : ∀ c, c ≠ 6 → c ≠ 8 → c ≠ 10 → c ≠ 13 → (x_up (x_up (x_up (x_up M 0 6 (nI 0)) 0 8 (nI 0)) 0 10 (nI 0)) 0 13 (nI 0)) 0 c = M 0 c := fun c c1 c2 c3 c4 => by
    simp only [z_upr]
    rw [z_un c4, z_un c3, z_un c2, z_un c1]
  have fmq : ∀ q, q ≠ 0 → (x_up (x_up (x_up (x_up M 0 6 (nI 0)) 0 8 (nI 0)) 0 10 (nI 0)) 0 13 (nI 0)) q = M q := fun q hq => by rw [z_upn hq, z_upn hq, z_upn hq, z_upn hq]
  have m6 : (x_up (x_up (x_up (x_up M 0 6 (nI 0)) 0 8 (nI 0)) 0 10 (nI 0)) 0 13 (nI 0)) 0 6 = nI 0 := by simp (disch := omega) only [z_upr, z_un, z_us]
  have m8 : (x_up (x_up (x_up (x_up M 0 6 (nI 0)) 0 8 (nI 0)) 0 10 (nI 0)) 0 13 (nI 0)) 0 8 = nI 0 := by simp (disch := omega) only [z_upr, z_un, z_us]
  have m10 : (x_up (x_up (x_up (x_up M 0 6 (nI 0)) 0 8 (nI 0)) 0 10 (nI 0)) 0 13 (nI 0)) 0 10 = nI 0 := by simp (disch := omega) only [z_upr, z_un, z_us]
  have m13 : (x_up (x_up (x_up (x_up M 0 6 (nI 0)) 0 8 (nI 0)) 0 10 (nI 0)) 0 13 (nI 0)) 0 13 = nI 0 := by simp (disch := omega) only [z_upr, z_us]
  generalize x_up (x_up (x_up (x_up M 0 6 (nI 0)) 0 8 (nI 0)) 0 10 (nI 0)) 0 13 (nI 0) = M0 at *
  have hX0 : z_bX X0 B n := ⟨h1, by rw [fx 4 (by omega) (by omega) (by omega) (by omega) (by omega) (by omega)]; exact h2, fun i hi => by rw [fxq 81 (by omega)]; exact h3 i hi⟩
  have hM0 : z_bM M0 B n := ⟨b1, by rw [fm 7 (by omega) (by omega) (by omega) (by omega)]; exact b2, fun i hi => by rw [fmq 3 (by omega)]; exact b3 i hi⟩
  obtain ⟨X1, a1, a2, a3, a4, a5, a6, a7⟩ := z_nx hX0 (Nat.zero_le n) x7 x8 (by omega)
  obtain ⟨M1, d1, d2, d3, d4, d5, d6, d7, d8⟩ := z_nxM hM0 (Nat.zero_le n) m6 m8 (by omega) m10
  have gl0 : z_gl B n 0 0 = 0 := if_neg (by omega)
  have hbl := z_bl_b (B := B) (Nat.zero_le n)
  rw [gl0] at a5 d5
  have c1 : z_cX X1 B n (z_bl B n 0) 0 0 0 0 (X1 80 13) [] := ⟨⟨h1, by rw [a7 4 (by omega) (by omega) (by omega) (by omega)]; exact hX0.2.1, fun i hi => by rw [a6 81 (by omega)]; exact hX0.2.2 i hi⟩, hbl.2, a2, a3, a4, a5, by rw [a7 5 (by omega) (by omega) (by omega) (by omega)]; exact x5, by rw [a7 11 (by omega) (by omega) (by omega) (by omega)]; exact x11, by rw [a7 12 (by omega) (by omega) (by omega) (by omega)]; exact x12, rfl, by rw [a7 10 (by omega) (by omega) (by omega) (by omega)]; exact x10, fun j hj => absurd hj (by simp)⟩
  have c2 : z_cW M1 B n (z_bl B n 0) 0 := ⟨⟨b1, by rw [d8 7 (by omega) (by omega) (by omega) (by omega) (by omega)]; exact hM0.2.1, fun i hi => by rw [d7 3 (by omega)]; exact hM0.2.2 i hi⟩, hbl.2, d2, d3, d4, d5, by rw [d8 13 (by omega) (by omega) (by omega) (by omega) (by omega)]; exact m13⟩
  obtain ⟨r, X2, M2, e1, e2, e3, e4, e5, e6⟩ := z_fin (K := z_tEnd v1) 4 0 x_FU (z_bl B n 0) 0 (X1 80 13) [] (fun _ => []) X1 M1 (by omega) (by unfold x_FU; omega) c1 (by simp) ⟨rfl, fun v hv => by omega⟩ c2 (fun v hv => by omega)
  rw [a1, z_bn, e1, d1, z_bn]
  refine ⟨r, X2, M2, rfl, e2, ⟨fun q q1 q2 q3 => by rw [e3.1 q q1 q2 q3, a6 q q1, fxq q q1], by rw [e3.2, a7 3 (by omega) (by omega) (by omega) (by omega), fx 3 (by omega) (by omega) (by omega) (by omega) (by omega) (by omega)]⟩, ?_, ⟨fun q q1 q2 q3 => by rw [e5.1 q q1 q2 q3, d7 q q1, fmq q q1], fun c hc => by rw [e5.2 c hc, d8 c (by omega) (by omega) (by omega) (by omega) (by omega), fm c (by omega) (by omega) (by omega) (by omega)]⟩, e6⟩
  rw [← e4]
  rfl
