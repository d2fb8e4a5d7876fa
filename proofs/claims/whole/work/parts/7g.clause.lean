/-! ===== the four parts of TERMS ===== -/
def z_fX4 (X X' : x_M) : Prop := (∀ q, q ≠ 80 → q ≠ 82 → q ≠ 83 → X' q = X q) ∧ X' 80 3 = X 80 3
def z_fM4 (M M' : x_M) : Prop := (∀ q, q ≠ 0 → q ≠ 4 → q ≠ 5 → M' q = M q) ∧ ∀ c, c < 5 ∨ 18 < c → M' 0 c = M 0 c
theorem z_fX4_x {X X' : x_M} (h : z_fX X X') : z_fX4 X X' := ⟨fun q h1 h2 _ => h.1 q h1 h2, h.2⟩
theorem z_fX4_t {X X' X'' : x_M} (h : z_fX4 X X') (h' : z_fX4 X' X'') : z_fX4 X X'' := ⟨fun q h1 h2 h3 => by rw [h'.1 q h1 h2 h3, h.1 q h1 h2 h3], by rw [h'.2, h.2]⟩
theorem z_fM4_r {w : Nat} {M M' : x_M} (h : z_fRr w M M') : z_fM4 M M' := ⟨h.1, h.2.1⟩
theorem z_fM4_t {M M' M'' : x_M} (h : z_fM4 M M') (h' : z_fM4 M' M'') : z_fM4 M M'' := ⟨fun q h1 h2 h3 => by rw [h'.1 q h1 h2 h3, h.1 q h1 h2 h3], fun c hc => by rw [h'.2 c hc, h.2 c hc]⟩
def z_pcX (X : x_M) (w : Nat) (cd : Nat → List Int32) (code : List Int32) : Prop := code.length = z_beg cd w ∧ ∀ v, v < w → X 83 v = nI (z_beg cd (v + 1)) ∧ (∀ j, j < (cd v).length → code.getD (z_beg cd v + j) 0 = (cd v).getD j 0) ∧ z_wf (z_nm v) (cd v) 0 1
def z_pcM (M : x_M) (w : Nat) (cd : Nat → List Int32) : Prop := ∀ v, v < w → M 4 (265 * v) = nI (cd v).length ∧ ∀ j, j < (cd v).length → M 4 (265 * v + 1 + 2 * j) = z_wo ((cd v).getD j 0) ∧ M 4 (265 * v + 2 + 2 * j) = z_wv ((cd v).getD j 0)
def z_cds (cd : Nat → List Int32) (w : Nat) (seg : List Int32) : Nat → List Int32 := fun k => if k = w then seg else cd k
theorem z_cds_s {cd : Nat → List Int32} {w : Nat} {seg : List Int32} : z_cds cd w seg w = seg := if_pos rfl
theorem z_cds_n {cd : Nat → List Int32} {w k : Nat} {seg : List Int32} (h : k ≠ w) : z_cds cd w seg k = cd k := if_neg h
theorem z_beg_c {cd cd' : Nat → List Int32} : ∀ w, (∀ k, k < w → cd' k = cd k) → z_beg cd' w = z_beg cd w
  | 0, _ => rfl
  | w + 1, h => by rw [z_beg, z_beg, z_beg_c w (fun k hk => h k (by omega)), h w (by omega)]
theorem z_beg_m {cd : Nat → List Int32} {v : Nat} : ∀ w, v < w → z_beg cd v + (cd v).length ≤ z_beg cd w
  | 0, h => by omega
  | w + 1, h => by
    rw [z_beg]
    by_cases e : v = w
    · rw [e]
      omega
    · have := z_beg_m (cd := cd) (v := v) w (by omega)
      omega
theorem z_gdc {l l' : List Int32} {j : Nat} : (l ++ l').getD (l.length + j) 0 = l'.getD j 0 := by
  rw [List.getD_eq_getElem?_getD, List.getD_eq_getElem?_getD, List.getElem?_append_right (by omega), Nat.add_sub_cancel_left]
def z_hB (B : Nat → Nat) (n s nb : Nat) (M : x_M) : Prop := (nb = 1 ∨ z_ka B n s = 3) ∧ z_ka B n s ≠ 0 ∧ nb ≤ 1 ∧ z_bd1 M ∧ M 0 9 = nI s
theorem z_sgk {B : Nat → Nat} {n s : Nat} (h : z_sg0 B n s ≠ 0) : z_ka B n s = 3 := (z_sg0_b h).1
theorem z_one {B : Nat → Nat} {n s cnt w fu : Nat} {nm : Int32} {code : List Int32} {cd : Nat → List Int32} {X M : x_M} {α : Type} {Kc : x_M → Option α} (hw : w < 4) (h : z_cX X B n s 0 cnt 0 0 nm code) (hc : code.length ≤ s) (hpX : z_pcX X w cd code) (hM : z_cW M B n s cnt) (hpM : z_pcM M w cd) : ∃ X' M', z_fX4 X X' ∧ x_bn (z_wM w M) (fun r M => x_bn (f_X12_reads M (nI w) r) (fun _ M => Kc M)) = Kc M' ∧ z_fM4 M M' ∧ ((f_X7_isTerms_36 (fu + 1) X (nI w) = some (nI 0, X') ∧ ∃ s', X' 80 6 = nI s' ∧ z_bd1 M' ∧ M' 0 9 = nI s') ∨ (f_X7_isTerms_36 (fu + 1) X (nI w) = f_X7_isTerms_36 fu X' (nI (w + 1)) ∧ ∃ s' nb cnt' code' cd', z_cX X' B n s' nb cnt' 0 0 (nI (5 + w)) code' ∧ code'.length ≤ s' ∧ z_pcX X' (w + 1) cd' code' ∧ ((nb = 0 ∧ ∃ ft' out', z_cM M' B n s' cnt' w 0 0 0 ft' out' [] ∧ z_pcM M' (w + 1) cd') ∨ z_hB B n s' nb M'))) := by
  have hn : n ≤ 132 := h.1.1
  have hs : s ≤ n := h.2.1
  have hgo := z_go_b (B := B) hs
  obtain ⟨w1, w2⟩ := z_wofX (X := X) hw
  have hw3 : w ≤ 3 := by omega
  by_cases ci : z_isw B n s (1 + w)
  · have hk1 : z_ka B n s = 1 := ci.1
    have hgs := hgo.2.2 (by omega)
    have hX := (z_iswX h (by omega) (show 1 + w < 17 by omega)).1 ⟨rfl, ci⟩
    have hMw := (z_iswM hM hw).1 ci
    obtain ⟨X1, a1, a2, a3⟩ := z_nxX h
    obtain ⟨b1, b2⟩ := z_cX_nm (v := nI (5 + w)) a2
    have hgl := z_gl_b (B := B) (n := n) (p := z_en B n s) (k := z_ka B n s)
    have cls : f_X7_isTerms_36 (fu + 1) X (nI w) = x_bn ((x_rec x_DEP).1 (x_up X1 80 13 (nI (5 + w))) (nI 0)) (fun r68 M => if r68 = 0 then some ((nI 0), M) else x_gf M 80 10 (fun r82 => x_wr 4 M 83 (nI w) r82 (fun M => (f_X7_isTerms_36 fu) M (nI w + (nI 1))))) := by
      rw [f_X7_isTerms_36_s, if_neg (show ¬ nI 4 ≤ nI w by rw [z_le (by omega) (by omega)]; omega), w1, z_bn, hX, z_bn, if_neg z_n10, a1, z_bn, (z_wofX hw).2, z_bn, z_pf]
    rw [cls, hMw, z_bn]
    by_cases cg : z_gl B n (z_en B n s) (z_ka B n s) = 1
    · obtain ⟨M', p1, p2, p3, p4⟩ := (z_rdG hM hw).1 cg
      rw [cg] at b1
      have hJ := (z_J1 b1 (z_gl_k cg) x_DEP).2 0 (by omega) (by unfold x_DEP; omega)
      rw [hJ, z_bn, if_pos z_n00, p1, z_bn]
      exact ⟨_, M', z_fX4_x (z_fX_t a3 b2), rfl, z_fM4_r p4, Or.inl ⟨rfl, _, b1.2.2.1, p2, p3⟩⟩
    · have cg0 : z_gl B n (z_en B n s) (z_ka B n s) = 0 := by omega
      obtain ⟨M1, ft1, p1, p2, p3⟩ := (z_rdG hM hw).2 cg0
      rw [cg0] at b1
      obtain ⟨r, X3, q1, q2, q3⟩ := (z_clPJ (B := B) (n := n) hw3 x_DEP).2 0 _ (z_go B n s) cnt 0 0 code (by omega) (by unfold x_DEP; omega) (by omega) (by omega) b1 (by omega)
      have fx : z_fX X X3 := z_fX_t (z_fX_t a3 b2) q2
      have stn : z_stJ 0 [] := Or.inl rfl
      rw [q1, z_bn, p1]
      have badE : ∀ s' : Nat, (∃ M', f_X12_expression_19 x_FU M1 (nI 1) (nI 1) = some ((), M') ∧ z_bd1 M' ∧ M' 0 9 = nI s' ∧ z_fM w M1 M') → ∃ M', x_bn (x_bn (f_X12_expression_19 x_FU M1 (nI 1) (nI 1)) (fun _ M => z_rdE w M)) (fun _ M => Kc M) = Kc M' ∧ z_fM4 M M' ∧ z_bd1 M' ∧ M' 0 9 = nI s' := by
        rintro s' ⟨M2, e1, e2, e3, e4⟩
        obtain ⟨M3, u1, u2, u3, u4⟩ := z_rdE_b hw e2 e3
        rw [e1, z_bn, u1, z_bn]
        exact ⟨M3, rfl, z_fM4_r (z_fRr_t p3 (z_fRr_t (z_fRr_M e4) u4)), u2, u3⟩
      rcases q3 with ⟨rfl, s', m1, m2⟩ | ⟨rfl, s', nb, cnt', seg, ⟨m1, m2, m3, m4⟩, m5⟩
      · obtain ⟨M', v1, v2, v3, v4⟩ := badE s' (m2 M1 ft1 [] [] x_FU p2 stn (by simp) (by unfold x_FU; omega))
        rw [if_pos z_n00]
        exact ⟨X3, M', z_fX4_x fx, v1, v2, Or.inl ⟨rfl, s', m1, v3, v4⟩⟩
      · have hs' : s' ≤ n := m1.2.1
        have hlen : (code ++ seg).length ≤ s' := by
          rw [List.length_append]
          omega
        rw [if_neg z_n10, z_gf, m1.2.2.2.2.2.2.2.2.2.2.1, z_wr (by omega) (by omega), z_add]
        have hX4 : z_cX (x_up X3 83 w (nI (code ++ seg).length)) B n s' nb cnt' 0 0 (nI (5 + w)) (code ++ seg) := by
          obtain ⟨⟨h1, h2, h3⟩, g1, g2, g3, g4, g5, g6, g7, g8, g9, g10, g11⟩ := m1
          have f81 : (x_up X3 83 w (nI (code ++ seg).length)) 80 = X3 80 := z_upn (by omega)
          exact ⟨⟨h1, by rw [f81]; exact h2, fun i hi => by rw [z_upn (by omega)]; exact h3 i hi⟩, g1, by rw [f81]; exact g2, by rw [f81]; exact g3, by rw [f81]; exact g4, by rw [f81]; exact g5, by rw [f81]; exact g6, by rw [f81]; exact g7, by rw [f81]; exact g8, by rw [f81]; exact g9, by rw [f81]; exact g10, fun j hj => by rw [z_upn (by omega)]; exact g11 j hj⟩
        have hbw : z_beg (z_cds cd w seg) w = z_beg cd w := z_beg_c w (fun k hk => z_cds_n (by omega))
        have hbw1 : z_beg (z_cds cd w seg) (w + 1) = (code ++ seg).length := by
          rw [z_beg, hbw, z_cds_s, List.length_append, hpX.1]
        have hpX4 : z_pcX (x_up X3 83 w (nI (code ++ seg).length)) (w + 1) (z_cds cd w seg) (code ++ seg) := by
          refine ⟨hbw1.symm, fun v hv => ?_⟩
          by_cases e : v = w
          · subst e
            rw [z_upr, z_us, hbw1, hbw, z_cds_s]
            exact ⟨rfl, fun j hj => by rw [← hpX.1, z_gdc], m4 0⟩
          · obtain ⟨y1, y2, y3⟩ := hpX.2 v (by omega)
            have e1 : z_beg (z_cds cd w seg) (v + 1) = z_beg cd (v + 1) := z_beg_c _ (fun k hk => z_cds_n (by omega))
            have e2 : z_beg (z_cds cd w seg) v = z_beg cd v := z_beg_c _ (fun k hk => z_cds_n (by omega))
            rw [z_upr, z_un e, fx.1 83 (by omega) (by omega), e1, e2, z_cds_n e]
            refine ⟨y1, fun j hj => ?_, y3⟩
            have := z_beg_m (cd := cd) (v := v) w (by omega)
            have hl := hpX.1
            rw [z_gdb (by omega)]
            exact y2 j hj
        have f4 : z_fX4 X (x_up X3 83 w (nI (code ++ seg).length)) := z_fX4_t (z_fX4_x fx) ⟨fun q _ _ h3 => z_upn h3, by rw [z_upn (by omega)]⟩
        rcases m5 with ⟨n1, n2, n3⟩ | ⟨n1, K, n2, n3, n4⟩
        · obtain ⟨M', v1, v2, v3, v4⟩ := badE s' (n3 M1 ft1 [] [] x_FU p2 stn (by simp) (by unfold x_FU; omega))
          exact ⟨_, M', f4, v1, v2, Or.inr ⟨rfl, s', nb, cnt', code ++ seg, z_cds cd w seg, hX4, hlen, hpX4, Or.inr ⟨Or.inl n1, by omega, by omega, v3, v4⟩⟩⟩
        · subst n1
          obtain ⟨M2, ft2, fu2, out2, e1, e2, e3, e4, e5⟩ := n4 M1 ft1 [] [] x_FU p2 stn (by simp) (by unfold x_FU; omega)
          obtain ⟨f2, rfl⟩ := z_fu1 e2 hs' hn
          rw [List.nil_append] at e4
          rw [List.append_nil] at e3
          have hlen2 := congrArg List.length e4
          simp only [List.length_append, List.length_map] at hlen2
          rcases n3 with n3 | ⟨n3, n5⟩
          · have hsn : z_sn (z_sg0 B n s') = 0 := by
              by_cases w0 : z_sn (z_sg0 B n s') = 0
              · exact w0
              · have := (z_sn_f _ (z_sg0_256 (s := s') e3.1) w0).1
                omega
            obtain ⟨M3, u1, u2, u3⟩ := z_st_end (fu := f2) e3 hw3 hsn (fun q hq => (n2.1 q hq).1) (by omega)
            rw [e4] at u2
            have hk12 : M3 0 12 = nI seg.length := u2.2.2.2.2.2.2.2.2.1
            have hrd : z_rdE w M3 = some ((), x_up M3 4 (265 * w) (nI seg.length)) := by
              unfold z_rdE
              rw [z_gf, hk12, z_mul, z_wr (by omega) (by omega)]
            rw [e1, u1, z_bn, hrd, z_bn]
            refine ⟨_, _, f4, rfl, z_fM4_r (w := w) (z_fRr_t p3 (z_fRr_t (z_fRr_M e5) (z_fRr_t (z_fRr_M u3) ⟨fun q _ h2 _ => z_upn h2, fun c hc => by rw [z_upn (by omega)], fun i hi => by rw [z_upr, z_un (by omega)]⟩))), Or.inr ⟨rfl, s', 0, cnt', code ++ seg, z_cds cd w seg, hX4, hlen, hpX4, Or.inl ⟨rfl, ft2, seg, ?_, fun v hv => ?_⟩⟩⟩
            · obtain ⟨⟨h1, h2, h3⟩, g1, g2, g3, g4, g5, g6, g7, g8, g9, g10, g11, g12, g13, g14⟩ := u2
              have f0 : (x_up M3 4 (265 * w) (nI seg.length)) 0 = M3 0 := z_upn (by omega)
              exact ⟨⟨h1, by rw [f0]; exact h2, fun i hi => by rw [z_upn (by omega)]; exact h3 i hi⟩, g1, by rw [f0]; exact g2, by rw [f0]; exact g3, by rw [f0]; exact g4, by rw [f0]; exact g5, by rw [f0]; exact g6, by rw [f0]; exact g7, by rw [f0]; exact g8, fun j hj => by rw [z_upr, z_un (by omega), z_un (by omega)]; exact g9 j hj, by rw [f0]; exact g10, by rw [f0]; exact g11, by rw [f0]; exact g12, by rw [f0]; exact g13, by rw [z_upn (by omega)]; exact g14⟩
            · by_cases e : v = w
              · subst e
                rw [z_cds_s, z_upr, z_us]
                refine ⟨rfl, fun j hj => ?_⟩
                rw [z_un (by omega), z_un (by omega)]
                exact u2.2.2.2.2.2.2.2.2.2.1 j hj
              · obtain ⟨y1, y2⟩ := hpM v (by omega)
                have hvl : (cd v).length ≤ 132 := by
                  have := z_beg_m (cd := cd) (v := v) w (by omega)
                  have hl := hpX.1
                  omega
                have fr4 : ∀ i, 265 * v ≤ i → i ≤ 265 * v + 264 → (x_up M3 4 (265 * w) (nI seg.length)) 4 i = M 4 i := fun i h1 h2 => by
                  rw [z_upr, z_un (by omega), u3.2.2 i (by omega), e5.2.2 i (by omega), p3.2.2 i (by omega)]
                rw [z_cds_n e, fr4 _ (by omega) (by omega)]
                refine ⟨y1, fun j hj => ?_⟩
                rw [fr4 _ (by omega) (by omega), fr4 _ (by omega) (by omega)]
                exact y2 j hj
          · have hk3 : z_ka B n s' = 3 := z_sgk (fun q => by rw [q] at n3; simp [z_sn] at n3)
            obtain ⟨M', v1, v2, v3, v4⟩ := badE s' (by
              have e3' := e3
              rw [← List.append_nil K] at e3'
              obtain ⟨M3, u1, u2, u3, u4⟩ := z_st_two (fu := f2) e3' hw3 n3 (fun q hq => (n2.1 q hq).1) n2.2 n5 (by rw [List.append_nil]; omega)
              exact ⟨M3, by rw [e1, u1], u2, u3, z_fM_t e5 u4⟩)
            exact ⟨_, M', f4, v1, v2, Or.inr ⟨rfl, s', 0, cnt', code ++ seg, z_cds cd w seg, hX4, hlen, hpX4, Or.inr ⟨Or.inr hk3, by omega, by omega, v3, v4⟩⟩⟩
  · have hX := (z_iswX h (by omega) (show 1 + w < 17 by omega)).2 (fun q => ci q.2)
    have hMw := (z_iswM hM hw).2 ci
    obtain ⟨M', p1, p2, p3, p4⟩ := z_rdN hM hw
    have cls : f_X7_isTerms_36 (fu + 1) X (nI w) = some (nI 0, X) := by
      rw [f_X7_isTerms_36_s, if_neg (show ¬ nI 4 ≤ nI w by rw [z_le (by omega) (by omega)]; omega), w1, z_bn, hX, z_bn, if_pos z_n00]
    rw [hMw, z_bn, p1, z_bn]
    exact ⟨X, M', ⟨fun _ _ _ _ => rfl, rfl⟩, rfl, z_fM4_r p4, Or.inl ⟨cls, s, h.2.2.1, p2, p3⟩⟩
