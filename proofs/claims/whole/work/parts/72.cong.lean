/-! ===== the ledger depends on little ===== -/
def z_sme (G G' : z_G) (n : Nat) : Prop := G' 3 = G 3 ∧ G' 5 = G 5 ∧ G' 16 2 = G 16 2 ∧ G' 34 = G 34 ∧ G' 31 1 = G 31 1 ∧ ∀ x, x < n → ∀ k, 7 ≤ k → k ≤ 14 → G' k x = G k x
theorem z_tm_c {G G' : z_G} {n day : Nat} (h : z_sme G G' n) : z_tm G' day = z_tm G day := by
  have e : ∀ e i v, z_tmf G' day e i v = z_tmf G day e i v := by
    intro e
    induction e with
    | zero => intro i v; rfl
    | succ e ih =>
      intro i v
      rw [z_tmf, z_tmf, ih, h.2.2.2.1]
  unfold z_tm
  rw [e, h.2.2.1]
theorem z_el_c {G G' : z_G} {n day pl m : Nat} {S : z_G} (h : z_sme G G' n) : z_el G' S day pl m = z_el G S day pl m := by
  funext i
  unfold z_el z_own
  rw [h.2.1]
theorem z_thr_c {G G' : z_G} {n day pl m : Nat} {S : z_G} (h : z_sme G G' n) : z_thr G' S day pl m = z_thr G S day pl m := by
  have e : z_ft G' S day pl m = z_ft G S day pl m := by
    funext i
    unfold z_ft
    rw [z_el_c h]
  unfold z_thr
  rw [e]
theorem z_tkl_c {G G' : z_G} {n day pl m : Nat} (h : z_sme G G' n) : ∀ (l : List Nat) (S : z_G) (left f : Nat), z_tkl G' day pl m l S left f = z_tkl G day pl m l S left f
  | [], S, left, f => rfl
  | i :: l, S, left, f => by
    rw [z_tkl, z_tkl, z_el_c h, z_tkl_c h l, z_tkl_c h l]
theorem z_tkS_c {G G' : z_G} {n day pl m left : Nat} {S : z_G} (h : z_sme G G' n) : z_tkS G' S day pl m left = z_tkS G S day pl m left := z_tkl_c h _ _ _ _
theorem z_tier_c {G G' : z_G} {n m day : Nat} {Cd : Nat → Nat → List Int32} {pt : Nat → Int32} (h : z_sme G G' n) : z_tier G' Cd pt m day = z_tier G Cd pt m day := by
  unfold z_tier
  rw [h.1, z_tm_c h]
theorem z_hap_c {G G' : z_G} {n l : Nat} {Cd : Nat → Nat → List Int32} {S : z_G} {P : z_PP} (h : z_sme G G' n) (hl : l < n) (h7 : G 7 l ≤ 3) (h13 : G 7 l = 3 → G 13 l < n) : z_hapS G' Cd S P l = z_hapS G Cd S P l ∧ z_hapP G' Cd S P l = z_hapP G Cd S P l := by
  have e7 := h.2.2.2.2.2 l hl 7 (by omega) (by omega)
  have e8 := h.2.2.2.2.2 l hl 8 (by omega) (by omega)
  have e9 := h.2.2.2.2.2 l hl 9 (by omega) (by omega)
  have e12 := h.2.2.2.2.2 l hl 12 (by omega) (by omega)
  have e13 := h.2.2.2.2.2 l hl 13 (by omega) (by omega)
  have e14 := h.2.2.2.2.2 l hl 14 (by omega) (by omega)
  have env : ∀ t, z_envF G' t l = z_envF G t l := by
    intro t
    funext b
    unfold z_envF
    rw [h.1, e8, e12, e13, e14]
  have fm : z_fm G' Cd P l = z_fm G Cd P l := by
    unfold z_fm
    rw [e8, e9, z_tier_c h, z_tm_c h, env]
  have fe : z_fe G' Cd P l = z_fe G Cd P l := by
    unfold z_fe
    rw [h.1, e8, e9, z_tier_c h, z_tm_c h, env]
  have s31 := h.2.2.2.2.1
  unfold z_hapS z_hapP
  rw [e7]
  by_cases k0 : G 7 l = 0
  · simp only [if_pos k0]
    unfold z_hFS z_hFP
    rw [fm, fe, e8, e9, e13]
    exact ⟨rfl, rfl⟩
  · simp only [if_neg k0]
    by_cases k1 : G 7 l = 1
    · simp only [if_pos k1]
      unfold z_hSS z_hSP
      rw [e8, e9, e12, e13, z_thr_c h, z_tkS_c h]
      exact ⟨rfl, rfl⟩
    · simp only [if_neg k1]
      by_cases k2 : G 7 l = 2
      · simp only [if_pos k2]
        unfold z_hGS
        rw [e8, e9, e12, e13, z_thr_c h, z_tkS_c h]
        exact ⟨rfl, trivial⟩
      · simp only [if_neg k2]
        unfold z_hBS z_hBP
        rw [e8, e9, e12, e13, s31]
        refine ⟨rfl, ?_⟩
        rw [h.2.2.2.2.2 (G 13 l) (h13 (by omega)) 13 (by omega) (by omega)]
theorem z_gof_c {G G' : z_G} {n : Nat} {Cd : Nat → Nat → List Int32} (h : z_sme G G' n) : ∀ (l : List Nat) (S : z_G) (P : z_PP), (∀ x, x ∈ l → x < n ∧ G 7 x ≤ 3 ∧ (G 7 x = 3 → G 13 x < n)) → z_gof G' Cd l S P = z_gof G Cd l S P
  | [], S, P, _ => rfl
  | x :: l, S, P, hx => by
    obtain ⟨h1, h2, h3⟩ := hx x (by simp)
    rw [z_gof, z_gof, (z_hap_c h h1 h2 h3).1, (z_hap_c h h1 h2 h3).2]
    exact z_gof_c h l _ _ (fun y hy => hx y (by simp [hy]))
theorem z_gof_a {G : z_G} {Cd : Nat → Nat → List Int32} {x : Nat} : ∀ (l : List Nat) (S : z_G) (P : z_PP), (z_gof G Cd (l ++ [x]) S P).1 = z_hapS G Cd (z_gof G Cd l S P).1 (z_gof G Cd l S P).2 x
  | [], S, P => rfl
  | y :: l, S, P => by
    rw [List.cons_append, z_gof, z_gof]
    exact z_gof_a l _ _
theorem z_sins_end {key : Nat → Nat} {x : Nat} : ∀ l : List Nat, (∀ y, y ∈ l → key y ≤ key x) → z_sins key x l = l ++ [x]
  | [], _ => rfl
  | y :: l, h => by
    rw [z_sins, if_pos (h y (by simp)), z_sins_end l (fun z hz => h z (by simp [hz]))]
    rfl
theorem z_qf_c {G G' : z_G} {n day known : Nat} (h : z_sme G G' n) : z_qf G' day known n = z_qf G day known n := by
  unfold z_qf
  rw [z_ord_congr (key := G' 9) (key' := G 9) n (fun y hy => h.2.2.2.2.2 y hy 9 (by omega) (by omega))]
  refine List.filter_congr (fun x hx => ?_)
  have hx' := (z_ord_mem n).mp hx
  unfold z_cd z_kn
  rw [h.2.2.2.2.2 x hx' 9 (by omega) (by omega), h.2.2.2.2.2 x hx' 10 (by omega) (by omega), h.2.2.2.2.2 x hx' 11 (by omega) (by omega)]
theorem z_qf_L {G : z_G} (hI : z_I G) {day known : Nat} : ∀ x, x ∈ z_qf G day known (G 6 9) → x < G 6 9 ∧ G 7 x ≤ 3 ∧ (G 7 x = 3 → G 13 x < G 6 9) := by
  intro x hx
  have h1 := z_qf_mem hx
  have I := hI.2.2.2.1 x h1
  unfold z_IL at I
  refine ⟨h1, I.1, fun h3 => ?_⟩
  have := I.2.2.2.2.2.2.2.2.2.2.2.2 h3
  omega
/-- what the ledger does not see -/
theorem z_led_c {G G' : z_G} {Cd : Nat → Nat → List Int32} {day known : Nat} (hI : z_I G) (h : z_sme G G' (G 6 9)) (h6 : G' 6 9 = G 6 9) : z_led G' Cd day known = z_led G Cd day known := by
  show z_gof G' Cd (z_qf G' day known (G' 6 9)) z_S0 z_P0 = z_gof G Cd (z_qf G day known (G 6 9)) z_S0 z_P0
  rw [h6, z_qf_c h]
  exact z_gof_c h _ _ _ (z_qf_L hI)
/-- a SPEND told today, about today, comes last -/
theorem z_led_n {G : z_G} {Cd : Nat → Nat → List Int32} (hI : z_I G) {m pr pa : Nat} (hth : pr ≤ z_thr G (z_led G Cd (G 1 8) (G 1 8)).1 (G 1 8) 1 m) : (z_led (z_ln G 1 m (G 1 8) pr pa 0) Cd (G 1 8) (G 1 8)).1 = z_gu (z_tkS G (z_led G Cd (G 1 8) (G 1 8)).1 (G 1 8) 1 m pr).1 4 (G 6 9) pr := by
  obtain ⟨n6, n7, n8, n9, n10, n11, n12, n13, n14⟩ := z_ln_n (G := G) (kd := 1) (mb := m) (ab := G 1 8) (am := pr) (ot := pa) (co := 0)
  have sl : z_sme G (z_ln G 1 m (G 1 8) pr pa 0) (G 6 9) := by
    refine ⟨?_, ?_, z_ln_o (by omega) (by omega), ?_, z_ln_o (by omega) (by omega), fun x hx k h1 h2 => z_ln_o (by omega) (by omega)⟩
    · funext i
      exact z_ln_o (by omega) (by omega)
    · funext i
      exact z_ln_o (by omega) (by omega)
    · funext i
      exact z_ln_o (by omega) (by omega)
  have e : z_qf (z_ln G 1 m (G 1 8) pr pa 0) (G 1 8) (G 1 8) (G 6 9 + 1) = z_qf G (G 1 8) (G 1 8) (G 6 9) ++ [G 6 9] := by
    have c : z_cd (z_ln G 1 m (G 1 8) pr pa 0) (G 1 8) (G 1 8) (G 6 9) = true := by
      unfold z_cd z_kn
      rw [n9, n10, n11]
      simp
    rw [z_qf_s, if_pos c, z_qf_c sl]
    refine z_sins_end _ (fun y hy => ?_)
    have hy' := z_qf_mem hy
    have I := hI.2.2.2.1 y hy'
    unfold z_IL at I
    rw [n9, z_ln_o (by omega) (by omega)]
    omega
  have el : z_led (z_ln G 1 m (G 1 8) pr pa 0) Cd (G 1 8) (G 1 8) = z_gof (z_ln G 1 m (G 1 8) pr pa 0) Cd (z_qf G (G 1 8) (G 1 8) (G 6 9) ++ [G 6 9]) z_S0 z_P0 := by
    rw [← e, ← n6]
    rfl
  have eg : z_gof (z_ln G 1 m (G 1 8) pr pa 0) Cd (z_qf G (G 1 8) (G 1 8) (G 6 9)) z_S0 z_P0 = z_led G Cd (G 1 8) (G 1 8) := z_gof_c sl _ _ _ (z_qf_L hI)
  rw [el, z_gof_a, eg]
  unfold z_hapS z_hSS
  rw [n7, if_neg (by decide), if_pos rfl, n8, n9, n12, z_thr_c sl, z_tkS_c sl, if_neg (by omega)]
