/-! ===== signs between parts ===== -/
theorem z_stJ_w {l l' : Nat} {st : List Nat} (h : z_stJ l st) (hl : l ≤ l') : z_stJ l' st := by
  rcases h with h | ⟨x, st', h, h2⟩
  · exact Or.inl h
  · exact Or.inr ⟨x, st', h, h2.imp id (fun q => ⟨q.1, Nat.le_trans q.2 hl⟩)⟩
theorem z_sigX {X : x_M} {l : Nat} (hl : l < 5) : f_X7_signsOf X (nI l) = some (nI (9 + l), X) := by
  rcases (show l = 0 ∨ l = 1 ∨ l = 2 ∨ l = 3 ∨ l = 4 by omega) with rfl | rfl | rfl | rfl | rfl <;> rfl
theorem z_sb90 : ∀ l, l < 5 → 0 ∉ z_sb (9 + l) := by decide +kernel
theorem z_sg0_X {X : x_M} {B : Nat → Nat} {n s : Nat} (h : z_bX X B n) : z_sg0 B n s < 256 := by
  unfold z_sg0
  by_cases c : z_ka B n s = 3
  · rw [if_pos c]
    have := z_ka_0 (B := B) (n := n) (p := s)
    exact (h.2.2 s (by omega)).1
  · rw [if_neg c]
    omega
theorem z_mst {l : Nat} (hl : l < 5) {kJ : x_M → Int32 → Option (Int32 × x_M)} {kP : x_M → Option (Int32 × x_M)} {X : x_M} : (if nI l = nI 2 then f_X7_isJoined_34 kJ kP X (nI l) (nI 1) else f_X7_isJoined_34 kJ kP X (nI l) (nI 132)) = f_X7_isJoined_37 kJ kP x_FU X (nI l) (nI (if l = 2 then 1 else 132)) (nI 0) := by
  unfold f_X7_isJoined_34
  rw [z_ieq (by omega) (by omega)]
  by_cases c : l = 2
  · rw [if_pos c, if_pos c]
  · rw [if_neg c, if_neg c]
/-- where a word stands that is glued, no sign is read -/
theorem z_lp1 {kJ : x_M → Int32 → Option (Int32 × x_M)} {kP : x_M → Option (Int32 × x_M)} {X : x_M} {B : Nat → Nat} {n s nb cnt pa ba l i mo fu : Nat} {nm : Int32} {code : List Int32} (h : z_cX X B n s nb cnt pa ba nm code) (hsg : z_sg0 B n s = 0) (hl : l < 5) : f_X7_isJoined_37 kJ kP (fu + 1) X (nI l) (nI mo) (nI i) = some (nI 1, X) := by
  rw [f_X7_isJoined_37_s, z_sigX hl, z_bn, z_isoX h (by omega) (z_sb90 l hl), z_bn, hsg, if_neg (z_sb90 l hl), if_pos z_n00]
  unfold f_X7_isJoined_88
  exact ite_self _
theorem z_lpJ {B : Nat → Nat} {n cl d l : Nat} (hcl : cl ≤ 3) (hl : l < 5) (ih : z_clJ B n cl d) {s cnt pa ba : Nat} {code : List Int32} (hd : (6 - (l + 1)) + (1 + 7 * (8 - pa) + (8 - ba)) ≤ d) (hpa : pa ≤ 8) (hba : ba ≤ 8) (hs : s ≤ n) (hcs : code.length ≤ s) : ∀ (e i fu : Nat) (X : x_M) (s1 cnt1 : Nat) (seg : List Int32) (K : List Nat), n ≤ s1 + e → e < fu → i ≤ s1 → z_cc X B n cl s s1 0 cnt1 pa ba code seg → z_kk l K → z_tc B n s1 (l + 1) K → (l = 2 → i = 0 → ∀ q, q ∈ K → 4 ≤ q / 10) → (l = 2 → i ≠ 0 → ∃ q, q ∈ K ∧ q / 10 = 3) → z_gdJ B n cl s cnt pa ba l s1 cnt1 K seg → ∃ r X', f_X7_isJoined_37 (x_rec d).1 (x_rec d).2 fu X (nI l) (nI (if l = 2 then 1 else 132)) (nI i) = some (nI r, X') ∧ z_fX X X' ∧ z_oJ B n cl s cnt pa ba l code r X' := by
  intro e
  induction e with
  | zero =>
    intro i fu X s1 cnt1 seg K hn1 hfu hi hcc hkk htc hl0 hl1 hg
    obtain ⟨fu, rfl⟩ : ∃ a, fu = a + 1 := ⟨fu - 1, by omega⟩
    have h0 : z_sg0 B n s1 = 0 := by
      unfold z_sg0
      rw [if_neg (by have := z_ka_0 (B := B) (n := n) (p := s1); omega)]
    rw [z_lp1 hcc.1 h0 hl]
    exact ⟨1, X, rfl, z_fX_r, Or.inr ⟨rfl, s1, 0, cnt1, seg, hcc, Or.inr ⟨rfl, K, hkk, Or.inl (by rw [h0]; exact Nat.zero_le _), hg⟩⟩⟩
  | succ e ihe =>
    intro i fu X s1 cnt1 seg K hn1 hfu hi hcc hkk htc hl0 hl1 hg
    obtain ⟨fu, rfl⟩ : ∃ a, fu = a + 1 := ⟨fu - 1, by omega⟩
    obtain ⟨k1, k2, k3, k4⟩ := id hcc
    have hn : n ≤ 132 := k1.1.1
    have hs1 : s1 ≤ n := k1.2.1
    have hmo : (if l = 2 then 1 else 132) ≤ 132 := by split <;> omega
    have h256 := z_sg0_X (s := s1) k1.1
    have hsl := z_sn_l l hl _ h256
    have done : z_tc B n s1 l K → ∃ r X', some (nI 1, X) = some (nI r, X') ∧ z_fX X X' ∧ z_oJ B n cl s cnt pa ba l code r X' := fun htc' => ⟨1, X, rfl, z_fX_r, Or.inr ⟨rfl, s1, 0, cnt1, seg, hcc, Or.inr ⟨rfl, K, hkk, htc', hg⟩⟩⟩
    rw [f_X7_isJoined_37_s, z_ile (by omega) (by omega)]
    unfold f_X7_isJoined_88
    by_cases cm : (if l = 2 then 1 else 132) ≤ i
    · rw [if_pos cm]
      apply done
      by_cases c2 : l = 2
      · rw [if_pos c2] at cm
        rcases htc with q | q
        · by_cases c3 : z_sn (z_sg0 B n s1) / 10 = 3
          · exact Or.inr ⟨c3, hl1 c2 (by omega)⟩
          · exact Or.inl (by omega)
        · exact Or.inr q
      · rw [if_neg c2] at cm
        have h0 : z_sg0 B n s1 = 0 := by
          unfold z_sg0
          rw [if_neg (by have := z_ka_0 (B := B) (n := n) (p := s1); omega)]
        exact Or.inl (by rw [h0]; exact Nat.zero_le _)
    · rw [if_neg cm, z_sigX hl, z_bn, z_isoX k1 (by omega) (z_sb90 l hl), z_bn]
      by_cases cs : z_sg0 B n s1 ∈ z_sb (9 + l)
      · have hw := hsl.mp cs
        have hsn0 : z_sg0 B n s1 ≠ 0 := fun q => by rw [q] at hw; simp [z_sn] at hw
        obtain ⟨h3, hsn, hsb⟩ := z_sg0_b hsn0
        obtain ⟨hf1, hf2⟩ := z_sn_f _ h256 (by omega)
        have hgo := z_go_b (B := B) hs1
        have hgs := hgo.2.2 (by omega)
        have hi2 : l = 2 → i = 0 := fun c2 => by rw [if_pos c2] at cm; omega
        have hKb : ∀ q, q ∈ K → z_op q ∧ (if l = 2 then 4 else l + 1) ≤ q / 10 := fun q hq => by
          refine ⟨(hkk.1 q hq).1, ?_⟩
          by_cases c2 : l = 2
          · rw [if_pos c2]
            exact hl0 c2 (hi2 c2) q hq
          · rw [if_neg c2]
            exact (hkk.1 q hq).2
        obtain ⟨X2, a1, a2, a3⟩ := z_nxX k1
        rw [h3, z_gl3] at a2
        obtain ⟨r, X3, p1, p2, p3⟩ := ih (l + 1) X2 (z_go B n s1) cnt1 pa ba (code ++ seg) (by omega) hd hpa hba a2 (by rw [List.length_append]; omega)
        have hstw : ∀ st : List Nat, z_stJ (l + 1) (z_sn (z_sg0 B n s1) :: st) := fun st => Or.inr ⟨_, st, rfl, Or.inr ⟨hf1, by omega⟩⟩
        have bad : ∀ s', z_bdJ B n cl (z_go B n s1) cnt1 pa ba (l + 1) s' → z_bdJ B n cl s cnt pa ba l s' := by
          intro s' hb M ft out st f0 hM hst hlen hf0
          obtain ⟨M1, ft1, fu1, out1, e1, e2, e3, e4, e5⟩ := hg M ft out st f0 hM hst hlen hf0
          obtain ⟨f2, rfl⟩ := z_fu1 e2 hs1 hn
          have hlen2 := congrArg List.length e4
          simp only [List.length_append, List.length_map] at hlen2
          obtain ⟨M2, ft2, u1, u2, u3⟩ := z_st_bin (fu := f2 + 1) e3 hcl hl hw hst hKb (by rw [List.length_append]; omega)
          obtain ⟨M3, v1, v2, v3, v4⟩ := hb M2 ft2 _ _ (f2 + 1) u2 (hstw st) (by simp only [List.length_append, List.length_map, List.length_cons]; omega) (by omega)
          rw [e1, u1, v1]
          exact ⟨M3, rfl, v2, v3, z_fM_t e5 (z_fM_t u3 v4)⟩
        rw [if_pos cs, if_neg z_n10, z_letX k1 hsn, z_bn, a1, z_bn, z_add, p1, z_bn]
        rcases p3 with ⟨rfl, s', m1, m2⟩ | ⟨rfl, s', nb, cnt', seg', ⟨m1, m2, m3, m4⟩, m5⟩
        · rw [if_pos z_n00]
          exact ⟨0, X3, rfl, z_fX_t a3 p2, Or.inl ⟨rfl, s', m1, bad s' m2⟩⟩
        · have hs' : s' ≤ n := m1.2.1
          obtain ⟨X4, d1, d2, d3⟩ := z_emX (v := -(nI (B s1))) m1 (by simp only [List.length_append]; omega)
          rw [if_neg z_n10, d1, z_bn, z_add]
          have hsc : -(nI (B s1)) = z_sc (z_sn (z_sg0 B n s1)) := by rw [hf2, hsb]
          have hopr := (z_op_c (w := z_sn (z_sg0 B n s1)) hf1).2.2
          have hcc2 : z_cc X4 B n cl s s' nb cnt' pa ba code (seg ++ seg' ++ [-(nI (B s1))]) := by
            refine ⟨?_, by simp only [List.length_append, List.length_singleton]; omega, by omega, fun dd => ?_⟩
            · rw [show code ++ (seg ++ seg' ++ [-(nI (B s1))]) = code ++ seg ++ seg' ++ [-(nI (B s1))] by simp only [List.append_assoc]]
              exact d2
            · refine z_wf_app (show z_wf (z_nm cl) [-(nI (B s1))] (dd + 2) (dd + 1) from Or.inr (Or.inr ⟨by rw [hsc]; exact hopr, by omega, rfl⟩)) _ dd ?_
              exact z_wf_app (m4 (dd + 1)) seg dd (k4 dd)
          have fx : z_fX X X4 := z_fX_t (z_fX_t a3 p2) d3
          rcases m5 with ⟨n1, n2, n3⟩ | ⟨n1, K', n2, n3, n4⟩
          · obtain ⟨fu, rfl⟩ : ∃ a, fu = a + 1 := ⟨fu - 1, by omega⟩
            rw [z_lp1 hcc2.1 (z_wk_sg n2) hl]
            exact ⟨1, X4, rfl, fx, Or.inr ⟨rfl, s', nb, cnt', _, hcc2, Or.inl ⟨n1, n2, bad s' n3⟩⟩⟩
          · subst n1
            obtain ⟨r5, X5, z1, z2, z3⟩ := ihe (i + 1) fu X4 s' cnt' (seg ++ seg' ++ [-(nI (B s1))]) (K' ++ [z_sn (z_sg0 B n s1)]) (by omega) (by omega) (by omega) hcc2 ⟨fun q hq => by
              rw [List.mem_append, List.mem_singleton] at hq
              rcases hq with hq | rfl
              · have := n2.1 q hq
                exact ⟨this.1, by omega⟩
              · exact ⟨hf1, by omega⟩, by
              rw [List.pairwise_append]
              refine ⟨n2.2, List.pairwise_singleton _ _, fun a ha b hb => ?_⟩
              rw [List.mem_singleton] at hb
              subst hb
              have := (n2.1 a ha).2
              omega⟩ (by
              rcases n3 with q | ⟨q, q2, q3, q4⟩
              · exact Or.inl q
              · exact Or.inr ⟨q, q2, by simp [q3], q4⟩) (fun _ q => by omega) (fun c2 _ => ⟨z_sn (z_sg0 B n s1), by simp, by omega⟩) (by
              intro M ft out st f0 hM hst hlen hf0
              obtain ⟨M1, ft1, fu1, out1, e1, e2, e3, e4, e5⟩ := hg M ft out st f0 hM hst hlen hf0
              obtain ⟨f2, rfl⟩ := z_fu1 e2 hs1 hn
              have hlen2 := congrArg List.length e4
              simp only [List.length_append, List.length_map] at hlen2
              obtain ⟨M2, ft2, u1, u2, u3⟩ := z_st_bin (fu := f2 + 1) e3 hcl hl hw hst hKb (by rw [List.length_append]; omega)
              obtain ⟨M3, ft3, fu3, out3, v1, v2, v3, v4, v5⟩ := n4 M2 ft2 _ _ (f2 + 1) u2 (hstw st) (by simp only [List.length_append, List.length_map, List.length_cons]; omega) (by omega)
              rw [e1, u1, v1]
              refine ⟨M3, ft3, fu3, out3, rfl, v2, ?_, ?_, z_fM_t e5 (z_fM_t u3 v5)⟩
              · rw [List.append_assoc]
                exact v3
              · rw [List.map_append, ← List.append_assoc, v4, e4, hsc]
                simp only [List.append_assoc, List.map_cons, List.map_nil])
            rw [z1]
            exact ⟨r5, X5, rfl, z_fX_t fx z2, z3⟩
      · rw [if_neg cs, if_pos z_n00]
        apply done
        have hne : ¬ z_sn (z_sg0 B n s1) / 10 = l + 1 := fun q => cs (hsl.mpr q)
        rcases htc with q | q
        · exact Or.inl (by omega)
        · exact Or.inr q
theorem z_pJ {B : Nat → Nat} {n cl d : Nat} (hcl : cl ≤ 3) (ihP : z_clP B n cl d) (ihJ : z_clJ B n cl d) : z_clJ B n cl (d + 1) := by
  intro l X s cnt pa ba code hl5 hd hpa hba h hc
  have hs : s ≤ n := h.2.1
  show ∃ r X', f_X7_isJoined (x_rec d).1 (x_rec d).2 X (nI l) = some (nI r, X') ∧ z_fX X X' ∧ z_oJ B n cl s cnt pa ba l code r X'
  unfold f_X7_isJoined
  rw [z_ilt (by omega) (by omega)]
  by_cases hl : l < 5
  · rw [if_pos hl, z_add]
    obtain ⟨r, X1, p1, p2, p3⟩ := ihJ (l + 1) X s cnt pa ba code (by omega) (by omega) hpa hba h hc
    have bad : ∀ s', z_bdJ B n cl s cnt pa ba (l + 1) s' → z_bdJ B n cl s cnt pa ba l s' := fun s' hb M ft out st fu hM hst hlen hfu => hb M ft out st fu hM (z_stJ_w hst (by omega)) hlen hfu
    rw [p1, z_bn]
    rcases p3 with ⟨rfl, s', m1, m2⟩ | ⟨rfl, s', nb, cnt', seg, m1, m5⟩
    · rw [if_pos z_n00]
      exact ⟨0, X1, rfl, p2, Or.inl ⟨rfl, s', m1, bad s' m2⟩⟩
    · rw [if_neg z_n10, z_mst hl]
      rcases m5 with ⟨n1, n2, n3⟩ | ⟨n1, K, n2, n3, n4⟩
      · rw [show x_FU = 99999 + 1 from rfl, z_lp1 m1.1 (z_wk_sg n2) hl]
        exact ⟨1, X1, rfl, p2, Or.inr ⟨rfl, s', nb, cnt', seg, m1, Or.inl ⟨n1, n2, bad s' n3⟩⟩⟩
      · subst n1
        obtain ⟨r2, X2, q1, q2, q3⟩ := z_lpJ hcl hl ihJ (s := s) (cnt := cnt) (pa := pa) (ba := ba) (code := code) (by omega) hpa hba hs hc n 0 x_FU X1 s' cnt' seg K (by omega) (by have := h.1.1; unfold x_FU; omega) (by omega) m1 ⟨fun q hq => ⟨(n2.1 q hq).1, by have := (n2.1 q hq).2; omega⟩, n2.2⟩ n3 (fun c2 _ q hq => by have := (n2.1 q hq).2; omega) (fun _ q => absurd rfl q) (fun M ft out st fu hM hst hlen hfu => n4 M ft out st fu hM (z_stJ_w hst (by omega)) hlen hfu)
        rw [q1]
        exact ⟨r2, X2, rfl, z_fX_t p2 q2, q3⟩
  · obtain rfl : l = 5 := by omega
    obtain ⟨r, X1, p1, p2, p3⟩ := ihP X s cnt pa ba code (by omega) hpa hba h hc
    have bad : ∀ s', z_bdP B n cl s cnt pa ba s' → z_bdJ B n cl s cnt pa ba 5 s' := fun s' hb M ft out st fu hM hst hlen hfu => hb 0 M ft out st fu (Nat.zero_le _) hM hst (by omega) hfu
    rw [if_neg hl, p1, z_bn]
    rcases p3 with ⟨rfl, s', m1, m2⟩ | ⟨rfl, s', nb, cnt', seg, m1, m5⟩
    · rw [z_cz0]
      exact ⟨0, X1, rfl, p2, Or.inl ⟨rfl, s', m1, bad s' m2⟩⟩
    · rw [z_cz1]
      refine ⟨1, X1, rfl, p2, Or.inr ⟨rfl, s', nb, cnt', seg, m1, ?_⟩⟩
      rcases m5 with ⟨n1, n2, n3⟩ | ⟨n1, n3⟩
      · exact Or.inl ⟨n1, n2, bad s' n3⟩
      · refine Or.inr ⟨n1, [], ⟨fun q hq => absurd hq (by simp), List.Pairwise.nil⟩, Or.inl ?_, fun M ft out st fu hM hst hlen hfu => ?_⟩
        · by_cases w0 : z_sn (z_sg0 B n s') = 0
          · omega
          · have := (z_sn_f _ (z_sg0_X (s := s') m1.1.1) w0).1
            omega
        · obtain ⟨M2, ft2, fu2, e1, e2, e3, e4⟩ := n3 0 M ft out st fu (Nat.zero_le _) hM hst (by omega) hfu
          rw [List.replicate_zero, List.append_nil, Nat.sub_zero] at e3
          exact ⟨M2, ft2, fu2, out ++ seg, e1, e2, e3, by simp, e4⟩
theorem z_clPJ {B : Nat → Nat} {n cl : Nat} (hcl : cl ≤ 3) : ∀ d : Nat, z_clP B n cl d ∧ z_clJ B n cl d
  | 0 => ⟨fun X s cnt pa ba code hd => by omega, fun l X s cnt pa ba code hl hd => by omega⟩
  | d + 1 => ⟨z_pPart hcl (z_clPJ hcl d).1 (z_clPJ hcl d).2, z_pJ hcl (z_clPJ hcl d).1 (z_clPJ hcl d).2⟩
