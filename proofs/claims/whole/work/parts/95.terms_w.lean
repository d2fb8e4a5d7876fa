def x_Ct (l : Launch) (D : va_G) (cy : Nat → ClassId) (q ad : Nat → Nat) (NC : Nat) (s0 : State) (a1 : Int32) (M : x_M) (z : (Int32 × Nat) × x_M) : Prop := ∀ sz, s0.heap.size ≤ sz → Met l yX11_terms (x_uw yX11_terms cX11_terms 3 (some .int)) rm_X11_terms (va_Pc [.ref (q 0), .int a1] (x_Pre D cy q ad x_spX NC s0 sz M)) (va_Qi (fun r' (u : Nat → Nat) => r' = z.1.1 ∧ ∀ k, k < NC → u k = q k) (fun u t => va_P D vwCl (x_w cy u ad x_spX z.1.2 z.2) t.heap ∧ va_D (x_A q NC sz) (x_w cy u ad x_spX z.1.2 z.2)) (x_A q NC sz)) 3 267 (x_A q NC sz)
theorem x_mett {l : Launch} {D : va_G} {cy : Nat → ClassId} {q ad : Nat → Nat} {NC : Nat} {s0 : State} {a1 : Int32} {M : x_M} {z : (Int32 × Nat) × x_M} (hq : x_Q q NC s0.heap.size)
    (body : ∀ (p : Program) (e : Env) (s : State) (m : MethodId) (args : Array Value) (below : List Frame) (meth : Method) (c : Code) (ls : Array Slot) (Q : State → Prop), x_C p s m args c cX11_terms 3 yX11_terms.cls D cy q NC s0 → s0.heap.size ≤ s.heap.size → (∀ {pc : Nat} {H : Heap} {locs : List Loc} {ls : Array Slot} {x : Int32} {M1 : x_M}, decode cX11_terms pc = .ok (.ireturn, 1) → narrow .int (.int x) = .int x → x_B D cy q ad x_spX NC s H locs M1 → some ((x, NC), M1) = some z → W p l e rm_X11_terms s m args below meth c H locs 0 0 Q (F0 m pc ls [.int x])) →
      (∀ {pc : Nat} {H : Heap} {locs : List Loc} {ls : Array Slot} {x : Int32} {M1 : x_M} (u : Nat → Nat), decode cX11_terms pc = .ok (.ireturn, 1) → (∀ k, k < NC → u k = q k) → va_P D vwCl (x_w cy u ad x_spX (NC + 3) M1) H → va_D (x_A q NC s.heap.size) (x_w cy u ad x_spX (NC + 3) M1) → va_S (x_A q NC s.heap.size) s.heap H locs → some ((x, NC + 3), M1) = some z → W p l e rm_X11_terms s m args below meth c H locs 3 267 Q (F0 m pc ls [.int x])) →
      lv_has ls 3 (lv_args 0 [.ref (q 0), .int a1]) → x_B D cy q ad x_spX NC s s.heap [] M → W p l e rm_X11_terms s m args below meth c s.heap [] 0 0 Q (F0 m 0 ls [])) : x_Ct l D cy q ad NC s0 a1 M z := by
  intro sz hsz0
  refine x_startL (by decide) (Nat.le_of_ble_eq_true rfl) ?_
  intro p e s m below meth c ls C hN hr hlocks hsz hl hP
  subst hsz
  refine body p e s m _ below meth c ls _ ⟨C, hN, hq⟩ hsz0 (fun {pc H locs ls x M1} hd hty hw hz => ?_) (fun {pc H locs ls x M1} u hd hu hP hD hS hz => ?_) hl ⟨hP, va_S.rf⟩
  · have hz1 := Option.some.inj hz
    refine W.widen (k := 3) (n := 267) (by decide) (by decide) ?_
    refine W.zret (v := x) C.1 C.2.1 hr hty (fun t ht hW => ⟨⟨x, q, rfl, ⟨by rw [← hz1], fun _ _ => rfl⟩, ?_, ?_⟩, hw.2.F ht⟩) hw.2.2.2 hd
    · show va_P D vwCl (x_w cy q ad x_spX z.1.2 z.2) t.heap
      rw [← hz1, ht]
      exact hw.1
    · show va_D (x_A q NC s.heap.size) (x_w cy q ad x_spX z.1.2 z.2)
      rw [← hz1]
      exact x_w_D hq.1 (fun k hk => Or.inl ⟨k, hk, rfl⟩) _
  · have hz1 := Option.some.inj hz
    refine W.zret (v := x) C.1 C.2.1 hr rfl (fun t ht hW => ⟨⟨x, u, rfl, ⟨by rw [← hz1], hu⟩, ?_, ?_⟩, hS.F ht⟩) hS.2.2 hd
    · show va_P D vwCl (x_w cy u ad x_spX z.1.2 z.2) t.heap
      rw [← hz1, ht]
      exact hP
    · show va_D (x_A q NC s.heap.size) (x_w cy u ad x_spX z.1.2 z.2)
      rw [← hz1]
      exact hD
set_option maxHeartbeats 4000000 in
set_option maxRecDepth 100000 in
theorem c_X11_terms_103 {l : Launch} {D : va_G} {cy : Nat → ClassId} {q ad : Nat → Nat} {NC : Nat} {s0 : State} {z : (Int32 × Nat) × x_M} (hN5 : 94 ≤ NC) (hN3 : NC % 3 = 1 ∧ NC ≤ 100000) {p : Program} {e : Env} {s : State} {m : MethodId} {args : Array Value} {below : List Frame} {meth : Method} {c : Code} {Q : State → Prop} (C : x_C p s m args c cX11_terms 3 yX11_terms.cls D cy q NC s0) (hs0 : s0.heap.size ≤ s.heap.size)
    (hret2 : ∀ {pc : Nat} {H : Heap} {locs : List Loc} {ls : Array Slot} {x : Int32} {M1 : x_M} (u : Nat → Nat), decode cX11_terms pc = .ok (.ireturn, 1) → (∀ k, k < NC → u k = q k) → va_P D vwCl (x_w cy u ad x_spX (NC + 3) M1) H → va_D (x_A q NC s.heap.size) (x_w cy u ad x_spX (NC + 3) M1) → va_S (x_A q NC s.heap.size) s.heap H locs → some ((x, NC + 3), M1) = some z → W p l e rm_X11_terms s m args below meth c H locs 3 267 Q (F0 m pc ls [.int x]))
    {M : x_M} {v1 : Int32} {H : Heap} {locs : List Loc} {ls : Array Slot} (hw : x_B D cy q ad x_spX NC s H locs M) (hl : lv_has ls 3 [(0, .ref (q 0)), (1, .int v1)]) (h : f_X11_terms_103 NC M v1 = some z) : W p l e rm_X11_terms s m args below meth c H locs 0 0 Q (F0 m 103 ls []) := by
  have hN : 88 ≤ NC := by omega
  have hx := C.1.1
  have hb := C.1.2.1
  have ho := C.1.2.2.2.1
  have hL := C.1.2.2.2.2
  have hq := C.2.2
  unfold f_X11_terms_103 at h
  by_cases hv : y_v NC M
  · rw [if_neg (not_not_intro hv)] at h
    rw [z_gf] at h
    by_cases hu0 : M 80 10 < 0 ∨ nI 132 < M 80 10
    · rw [if_pos hu0] at h
      cases h
    · rw [if_neg hu0] at h
      obtain ⟨n, -, hn, hu⟩ := z_nat (lo := 0) (hi := 132) (by rw [nI_0]; exact hu0) (by decide) (by decide)
      rw [hu, nI_clamp (by omega)] at h
      refine lv_aload_n hx hb dX11_terms_103 rfl (lv_at hl 0 rfl) ?_
      refine xh_getr C hw 0 0 sX_0 (x_lt hN rfl) rfl rfl rfl lk_RX11_12 dX11_terms_104 ?_
      refine xh_getr C hw 1 2 sX_1 (x_lt hN rfl) rfl rfl rfl lk_RX11_207 dX11_terms_107 ?_
      refine lv_aload_n hx hb dX11_terms_110 rfl (lv_at hl 0 rfl) ?_
      refine xh_getr C hw 0 4 sX_0 (x_lt hN rfl) rfl rfl rfl lk_RX11_36 dX11_terms_111 ?_
      refine lv_iload_n hx hb dX11_terms_114 rfl (lv_at hl 1 rfl) ?_
      have hsz1 : s0.heap.size ≤ H.size := Nat.le_trans hs0 hw.2.1
      have hM1 := c_X7_termsFrom (l := l) (D := D) (cy := cy) (ad := ad) hq hN (M := M) (d := v1) hu hn H.size hsz1
      obtain ⟨⟨m1, m2, m3⟩, md⟩ := tw_ml2
      have hAs := x_A_sub (q := q) (NC := NC) hw.2.1
      have hrun : va_Run p l e rm_X11_terms s m args below meth c H locs 0 0 3 267 (F0 m 115 ls [.int v1, .ref (q 80), .ref (q 16)]) [.ref (q 16)] (va_Qr (fun _ : Unit => True) (fun _ ra t => ∃ rb rc, va_P D vwCl (y_tw cy v1 n M ra rb rc ++ x_w cy q ad x_spX NC M) t.heap ∧ va_D (x_A q NC H.size) (y_tw cy v1 n M ra rb rc ++ x_w cy q ad x_spX NC M)) (x_A q NC H.size) ([Value.ref (q 80), .int v1]).toArray) (x_A q NC H.size) :=
        va_runV (C := yX7_termsFrom.cls) (bytes := cX7_termsFrom) (maxL := 2) (ret := some (.object "MilesHall$Terms")) (n := 1) C.1 hM1 ⟨callB_of 1 hL (x_uw_good (y := yX7_termsFrom) (cc := cX7_termsFrom) (n := 2) (ret := some (.object "MilesHall$Terms")) m3) rfl rfl rfl (hL _ m2) (hL _ m1) md ⟨by decide, by decide⟩, hL _ tw_mv2.1, hL _ tw_mv2.2⟩ ⟨x_blind, va_recv C.2.1.1 hw.1 (ci := 7) rfl (q0 := 80) (by rw [x_w_get (show 80 < NC by omega), sX_80]; rfl), fun U hU hW => x_pre C hw _ U hU hW⟩ rfl rfl hl.1 rfl (lv_room (Nat.le_of_ble_eq_true rfl)) dX11_terms_115 ⟨by decide, by decide⟩
      refine va_callr hrun hw.2 (fun a _ h => hAs a h) hAs (fun u ra t H1 locs1 ht hvm hp hB hz1 hk1 hS => ?_)
      obtain ⟨rb, rc, hP, hD⟩ := hB
      rw [ht] at hP
      obtain ⟨hP, hD⟩ := y_ext hN5 hN3.1 hv hn hP hD
      have hqq : ∀ k, k < NC → y_q q NC ra rb rc k = q k := by
        intro k hk
        unfold y_q
        rw [if_neg (by omega), if_neg (by omega), if_neg (by omega)]
      have hD := hD.weaken (fun k x _ h => hAs x.1 h)
      have hA0 : ∀ a, x_A q NC s.heap.size a → s0.heap.size ≤ a := by
        rintro a (⟨k, hk, rfl⟩ | h)
        · exact hq.2 k hk
        · exact Nat.le_trans hs0 h
      have hq' : x_Q (y_q q NC ra rb rc) (NC + 3) s0.heap.size := x_Q_of hD hA0
      have hAe : ∀ a, x_A (y_q q NC ra rb rc) (NC + 3) s.heap.size a → x_A q NC s.heap.size a := by
        rintro a (⟨k, hk, rfl⟩ | h)
        · exact hD.2 k _ (x_w_get hk)
        · exact Or.inr h
      have hAe2 : ∀ a, x_A q NC s.heap.size a → x_A (y_q q NC ra rb rc) (NC + 3) s.heap.size a := by
        rintro a (⟨k, hk, rfl⟩ | h)
        · exact Or.inl ⟨k, by omega, (hqq k hk).symm⟩
        · exact Or.inr h
      have C' : x_C p s m args c cX11_terms 3 yX11_terms.cls D cy (y_q q NC ra rb rc) (NC + 3) s0 := ⟨C.1, C.2.1, hq'⟩
      have hw' : x_B D cy (y_q q NC ra rb rc) ad x_spX (NC + 3) s H1 locs1 (y_M M NC v1 n) := ⟨hP, x_S_to hAe2 hS⟩
      have hl' : lv_has ls 3 [(0, .ref (y_q q NC ra rb rc 0)), (1, .int v1)] := by rw [hqq 0 (by omega)]; exact hl
      have era : ra = y_q q NC ra rb rc ((nI (NC + 1)).toNatClampNeg - 1) := by
        rw [nI_clamp (by omega), show NC + 1 - 1 = NC by omega]
        unfold y_q
        rw [if_pos rfl]
      obtain ⟨y1, h1, h2⟩ := x_bn_some h
      have st0 : ([Value.ref ra, Value.ref (q 16)] : List Value) = [.ref (y_q q NC ra rb rc ((nI (NC + 1)).toNatClampNeg - 1)), .ref (y_q q NC ra rb rc 16)] := by rw [← era, hqq 16 (by omega)]
      show W p l e rm_X11_terms s m args below meth c H1 locs1 3 267 Q (F0 m 118 ls [Value.ref ra, Value.ref (q 16)])
      rw [st0]
      refine x_callv hw' (x_runV C' hw' (k := 16) (rest := []) (c_X9_add hq' (by omega) h1 H1.size) tw_ml3 tw_mv3 sX_16 (by omega) rfl ⟨rfl, rfl, by decide, by decide⟩ rfl hl.1 rfl (Nat.le_of_ble_eq_true rfl) dX11_terms_118 ⟨by decide, by decide⟩) (fun H2 locs2 hw2 => ?_)
      refine lv_aload_n hx hb dX11_terms_121 rfl (lv_at hl' 0 rfl) ?_
      refine x_getr C' hw2 0 4 sX_0 (by omega) rfl rfl (by decide) lk_RX11_36 dX11_terms_122 ?_
      refine x_geti C' hw2 80 5 sX_80 (by omega) rfl rfl (by decide) tw_cnt dX11_terms_125 ?_
      rw [z_gf] at h2
      exact hret2 (y_q q NC ra rb rc) dX11_terms_128 hqq hw2.1 (x_w_D hq'.1 (fun k hk => hAe _ (Or.inl ⟨k, hk, rfl⟩)) _) (x_S_to hAe hw2.2) h2
  · rw [if_pos hv] at h
    cases h
set_option maxHeartbeats 4000000 in
set_option maxRecDepth 100000 in
theorem c_X11_terms {l : Launch} {D : va_G} {cy : Nat → ClassId} {q ad : Nat → Nat} {NC : Nat} {s0 : State} {adV : Nat → Nat} (hq : x_Q q NC s0.heap.size) (hN5 : 94 ≤ NC) (hN3 : NC % 3 = 1 ∧ NC ≤ 100000) (hz : x_Z s0 ad adV) {M : x_M} {a1 : Int32} {z : (Int32 × Nat) × x_M} (h : f_X11_terms NC M a1 = some z) : x_Ct l D cy q ad NC s0 a1 M z := by
  have hN : 88 ≤ NC := by omega
  refine x_mett hq ?_
  intro p e s m args below meth c ls Q C hs0 hret hret2 hl hw
  have hx := C.1.1
  have hb := C.1.2.1
  have ho := C.1.2.2.2.1
  have hL := C.1.2.2.2.2
  have hl : lv_has ls 3 [(0, .ref (q 0)), (1, .int a1)] := hl
  have w36 : ∀ (M : x_M) (v1 : Int32) (t0 : Int32) (H : Heap) (locs : List Loc) (ls : Array Slot), x_B D cy q ad x_spX NC s H locs M → lv_has ls 3 [(0, .ref (q 0)), (1, .int v1)] → f_X11_terms_36 NC M v1 t0 = some z → W p l e rm_X11_terms s m args below meth c H locs 0 0 Q (F0 m 36 ls [.int t0]) := by
    have w65 : ∀ (M : x_M) (v1 : Int32) (H : Heap) (locs : List Loc) (ls : Array Slot), x_B D cy q ad x_spX NC s H locs M → lv_has ls 3 [(0, .ref (q 0)), (1, .int v1)] → f_X11_terms_65 NC M v1 = some z → W p l e rm_X11_terms s m args below meth c H locs 0 0 Q (F0 m 65 ls []) := by
      intro M v1 H locs ls hw hl h
      unfold f_X11_terms_65 at h
      refine lv_aload_n hx hb dX11_terms_65 rfl (lv_at hl 0 rfl) ?_
      refine xh_getr C hw 0 4 sX_0 (x_lt hN rfl) rfl rfl rfl lk_RX11_36 dX11_terms_66 ?_
      refine xh_cVi C hw (rest := []) h (fun _ hy => c_X7_isTerms hq hN hz hy) ml_RX11_200 mv_X7_isTerms sX_80 (x_lt hN rfl) rfl ⟨rfl, rfl, by decide, by decide⟩ rfl hl.1 rfl (Nat.le_of_ble_eq_true rfl) dX11_terms_69 (fun H locs r69 M hw h => ?_)
      refine x_if_ne (tgt := 86) hx hb h dX11_terms_72 (by decide) (fun h => ?_) (fun h => ?_)
      · refine lv_bipush (v := (-100)) hx hb dX11_terms_75 (by decide) ?_
        refine lv_aload_n hx hb dX11_terms_77 rfl (lv_at hl 0 rfl) ?_
        refine xh_getr C hw 0 4 sX_0 (x_lt hN rfl) rfl rfl rfl lk_RX11_36 dX11_terms_78 ?_
        refine xh_geti C hw 80 6 h sX_80 (x_lt hN rfl) rfl rfl rfl lk_RX11_204 dX11_terms_81 (fun r81 h => ?_)
        refine lv_isub hx hb dX11_terms_84 ?_
        exact hret dX11_terms_85 rfl hw h
      · refine lv_aload_n hx hb dX11_terms_86 rfl (lv_at hl 0 rfl) ?_
        refine xh_getr C hw 0 0 sX_0 (x_lt hN rfl) rfl rfl rfl lk_RX11_12 dX11_terms_87 ?_
        refine xh_getr C hw 1 2 sX_1 (x_lt hN rfl) rfl rfl rfl lk_RX11_207 dX11_terms_90 ?_
        refine xh_geti C hw 16 2 h sX_16 (x_lt hN rfl) rfl rfl rfl lk_RX11_211 dX11_terms_93 (fun r93 h => ?_)
        refine lv_iconst (v := (nI 4)) hx hb dX11_terms_96 (by decide) ?_
        refine x_icmp_lt (tgt := 103) hx hb h dX11_terms_97 (by decide) (fun h => ?_) (fun h => ?_)
        · exact c_X11_terms_103 hN5 hN3 C hs0 hret2 hw hl h
        · refine lv_ldc hx hb ho (hL _ kc_RX11_192) dX11_terms_100 ?_
          exact hret dX11_terms_102 rfl hw h
    intro M v1 t0 H locs ls hw hl h
    unfold f_X11_terms_36 at h
    refine lv_istore_n (lv' := [(2, .int _), (0, .ref (q 0)), (1, .int _)]) hx hb dX11_terms_36 rfl hl (by decide) rfl (fun ls hl => ?_)
    refine lv_iload_n hx hb dX11_terms_37 rfl (lv_at hl 0 rfl) ?_
    refine x_if_ne (tgt := 65) hx hb h dX11_terms_38 (by decide) (fun h => ?_) (fun h => ?_)
    · refine lv_iload_n hx hb dX11_terms_41 rfl (lv_at hl 2 rfl) ?_
      refine lv_aload_n hx hb dX11_terms_42 rfl (lv_at hl 1 rfl) ?_
      refine xh_getr C hw 0 0 sX_0 (x_lt hN rfl) rfl rfl rfl lk_RX11_12 dX11_terms_43 ?_
      refine xh_geti C hw 1 8 h sX_1 (x_lt hN rfl) rfl rfl rfl lk_RX11_97 dX11_terms_46 (fun r46 h => ?_)
      refine lv_aload_n hx hb dX11_terms_49 rfl (lv_at hl 1 rfl) ?_
      refine xh_getr C hw 0 0 sX_0 (x_lt hN rfl) rfl rfl rfl lk_RX11_12 dX11_terms_50 ?_
      refine xh_getr C hw 1 5 sX_1 (x_lt hN rfl) rfl rfl rfl lk_RX11_106 dX11_terms_53 ?_
      refine lv_iconst (v := (nI 0)) hx hb dX11_terms_56 (by decide) ?_
      refine xh_iald C hw 31 3 h sX_31 (x_lt hN rfl) dX11_terms_57 (fun r57 h => ?_)
      refine lv_iadd hx hb dX11_terms_58 ?_
      refine x_icmp_ge (tgt := 65) hx hb h dX11_terms_59 (by decide) (fun h => ?_) (fun h => ?_)
      · exact w65 _ _ _ _ _ hw (lv_sub hl [1, 2] rfl) h
      · refine lv_ldc hx hb ho (hL _ kc_RX11_144) dX11_terms_62 ?_
        exact hret dX11_terms_64 rfl hw h
    · exact w65 _ _ _ _ _ hw (lv_sub hl [1, 2] rfl) h
  have w35 : ∀ (M : x_M) (v1 : Int32) (H : Heap) (locs : List Loc) (ls : Array Slot), x_B D cy q ad x_spX NC s H locs M → lv_has ls 3 [(0, .ref (q 0)), (1, .int v1)] → f_X11_terms_35 NC M v1 = some z → W p l e rm_X11_terms s m args below meth c H locs 0 0 Q (F0 m 35 ls []) := by
    intro M v1 H locs ls hw hl h
    unfold f_X11_terms_35 at h
    refine lv_iconst (v := (nI 0)) hx hb dX11_terms_35 (by decide) ?_
    exact w36 _ _ _ _ _ _ hw (lv_sub hl [0, 1] rfl) h
  unfold f_X11_terms at h
  refine lv_aload_n hx hb dX11_terms_0 rfl (lv_at hl 0 rfl) ?_
  refine xh_getr C hw 0 4 sX_0 (x_lt hN rfl) rfl rfl rfl lk_RX11_36 dX11_terms_1 ?_
  refine xh_cVv C hw (rest := []) h (fun _ hy => c_X7_useUp hq hN hy) ml_RX11_197 mv_X7_useUp sX_80 (x_lt hN rfl) rfl ⟨rfl, rfl, by decide, by decide⟩ rfl hl.1 rfl (Nat.le_of_ble_eq_true rfl) dX11_terms_4 (fun H locs _ M hw h => ?_)
  refine lv_iload_n hx hb dX11_terms_7 rfl (lv_at hl 1 rfl) ?_
  refine xh_cSi C hw (rest := []) h (fun _ hy => c_X11_isDay hq hN hy) ml_RX11_151 st_X11_isDay ⟨rfl, rfl, by decide, by decide⟩ rfl hl.1 rfl (Nat.le_of_ble_eq_true rfl) dX11_terms_8 (fun H locs r8 M hw h => ?_)
  refine x_if_ne (tgt := 17) hx hb h dX11_terms_11 (by decide) (fun h => ?_) (fun h => ?_)
  · refine lv_ldc hx hb ho (hL _ kc_RX11_58) dX11_terms_14 ?_
    exact hret dX11_terms_16 rfl hw h
  · refine lv_iload_n hx hb dX11_terms_17 rfl (lv_at hl 1 rfl) ?_
    refine x_if_ne (tgt := 35) hx hb h dX11_terms_18 (by decide) (fun h => ?_) (fun h => ?_)
    · refine lv_aload_n hx hb dX11_terms_21 rfl (lv_at hl 0 rfl) ?_
      refine xh_getr C hw 0 0 sX_0 (x_lt hN rfl) rfl rfl rfl lk_RX11_12 dX11_terms_22 ?_
      refine xh_geti C hw 1 8 h sX_1 (x_lt hN rfl) rfl rfl rfl lk_RX11_97 dX11_terms_25 (fun r25 h => ?_)
      refine x_if_ne (tgt := 35) hx hb h dX11_terms_28 (by decide) (fun h => ?_) (fun h => ?_)
      · refine lv_iconst (v := (nI 1)) hx hb dX11_terms_31 (by decide) ?_
        refine lv_goto (tgt := 36) hx hb dX11_terms_32 (by decide) ?_
        exact w36 _ _ _ _ _ _ hw (lv_sub hl [0, 1] rfl) h
      · exact w35 _ _ _ _ _ hw (lv_sub hl [0, 1] rfl) h
    · exact w35 _ _ _ _ _ hw (lv_sub hl [0, 1] rfl) h
