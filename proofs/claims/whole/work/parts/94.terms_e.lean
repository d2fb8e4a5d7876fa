/-! ===== MilesHall.terms ===== -/
def y_q (q : Nat → Nat) (NC ra rb rc : Nat) : Nat → Nat := fun k => if k = NC then ra else if k = NC + 1 then rb else if k = NC + 2 then rc else q k
def y_M (M : x_M) (NC : Nat) (d : Int32) (n : Nat) : x_M := fun k => if k = NC then upd (fun _ => 0) 0 d else if k = NC + 1 then upd (M 82) 2147483648 (nI n) else if k = NC + 2 then M 83 else M k
/-- the rows of TERMS hold none, or such as there are -/
def y_v (NC : Nat) (M : x_M) : Prop := ∀ k i, k = 17 ∨ k = 50 → M k i = 0 ∨ (M k i).toNatClampNeg ≤ NC
theorem y_fs {q q' ad : Nat → Nat} {row : Nat → Int32} : ∀ (fs : List (Nat × Nat)) (j : Nat), (∀ f ∈ fs, f.1 = 1 → q' f.2 = q f.2) → x_fs q' ad row j fs = x_fs q ad row j fs
  | [], _, _ => rfl
  | f :: fs, j, h => by
    show x_fv q' ad row j f :: x_fs q' ad row (j + 1) fs = x_fv q ad row j f :: x_fs q ad row (j + 1) fs
    rw [y_fs fs (j + 1) (fun g hg => h g (List.mem_cons_of_mem _ hg))]
    congr 1
    obtain ⟨f1, f2⟩ := f
    match f1, h with
    | 0, _ => rfl
    | 1, h =>
      show Value.ref (q' f2) = Value.ref (q f2)
      rw [h (1, f2) List.mem_cons_self rfl]
    | n + 2, _ => rfl
def y_kok (k : Nat) (x : x_K) : Bool := match x with
  | .inl a => a.1 != 4 || k == 17 || k == 50
  | .inr o => o.2.all (fun f => f.1 != 1 || Nat.blt f.2 94)
theorem y_kinds : (List.range 88).all (fun k => y_kok k (x_spXl.getD k (.inl (0, 0)))) = true := by decide +kernel
theorem y_E {cy : Nat → ClassId} {q q' ad : Nat → Nat} {NC k : Nat} {M : x_M} (hNC : 94 ≤ NC) (h3 : NC % 3 = 1) (hv : y_v NC M) (hq : ∀ k, k < NC → q' k = q k) (hk : k < NC) : x_E cy q' ad (x_spX k) (M k) = x_E cy q ad (x_spX k) (M k) := by
  have key : (∀ a, x_spX k = .inl a → a.1 = 4 → k = 17 ∨ k = 50) ∧ ∀ o, x_spX k = .inr o → ∀ f ∈ o.2, f.1 = 1 → f.2 < NC := by
    by_cases h89 : k < 88
    · have h1 := List.all_eq_true.mp y_kinds k (List.mem_range.mpr h89)
      have e : x_spX k = x_spXl.getD k (.inl (0, 0)) := by unfold x_spX; rw [if_pos h89]
      rw [← e] at h1
      refine ⟨fun a ha h4 => ?_, fun o ho f hf h4 => ?_⟩
      · rw [ha] at h1
        simp only [y_kok, h4, bne_self_eq_false, Bool.false_or, Bool.or_eq_true, beq_iff_eq] at h1
        exact h1
      · rw [ho] at h1
        simp only [y_kok] at h1
        have h2 := List.all_eq_true.mp h1 f hf
        simp only [h4, bne_self_eq_false, Bool.false_or] at h2
        have := Nat.le_of_ble_eq_true h2
        omega
    · have e : x_spX k = if (k - 88) % 3 = 0 then .inr (8, [(0, 0), (1, k + 1), (1, k + 2)]) else if (k - 88) % 3 = 1 then .inl (5, 0) else .inl (0, 4) := by unfold x_spX; rw [if_neg h89]
      rw [e]
      by_cases hm : (k - 88) % 3 = 0
      · rw [if_pos hm]
        refine ⟨fun a ha => by simp at ha, fun o ho f hf h4 => ?_⟩
        have ho : (8, [(0, 0), (1, k + 1), (1, k + 2)]) = o := Sum.inr.inj ho
        subst ho
        simp only [List.mem_cons, List.not_mem_nil, or_false] at hf
        rcases hf with rfl | rfl | rfl
        · simp at h4
        · show k + 1 < NC
          omega
        · show k + 2 < NC
          omega
      · rw [if_neg hm]
        by_cases hm2 : (k - 88) % 3 = 1
        · rw [if_pos hm2]
          refine ⟨fun a ha h4 => ?_, fun o ho => by simp at ho⟩
          have ha : (5, 0) = a := Sum.inl.inj ha
          subst ha
          simp at h4
        · rw [if_neg hm2]
          refine ⟨fun a ha h4 => ?_, fun o ho => by simp at ho⟩
          have ha : (0, 4) = a := Sum.inl.inj ha
          subst ha
          simp at h4
  obtain ⟨k1, k2⟩ := key
  match hs : x_spX k with
  | .inr o =>
    show (Sum.inr (o.1, x_fs q' ad (M k) 0 o.2) : va_E) = Sum.inr (o.1, x_fs q ad (M k) 0 o.2)
    rw [y_fs o.2 0 (fun f hf h4 => hq _ (k2 o hs f hf h4))]
  | .inl a =>
    by_cases h4 : a.1 = 4
    · have hk' := k1 a hs h4
      obtain ⟨a1, a2⟩ := a
      have h4 : a1 = 4 := h4
      subst h4
      show (Sum.inl (cy 4, a2, .inr (.inr (.inr (.inr (fun i => x_tro q' (M k i)))))) : va_E) = Sum.inl (cy 4, a2, .inr (.inr (.inr (.inr (fun i => x_tro q (M k i))))))
      have e : (fun i => x_tro q' (M k i)) = fun i => x_tro q (M k i) := by
        funext i
        unfold x_tro
        by_cases h0 : M k i = 0
        · rw [if_pos h0, if_pos h0]
        · rw [if_neg h0, if_neg h0]
          have := (hv k i hk').resolve_left h0
          rw [hq _ (by omega)]
      rw [e]
    · obtain ⟨a1, a2⟩ := a
      unfold x_E
      match a1, h4 with
      | 0, _ => rfl
      | 1, _ => rfl
      | 2, _ => rfl
      | 3, _ => rfl
      | 4, h4 => exact absurd rfl h4
      | 5, _ => rfl
      | 6, _ => rfl
      | n + 7, _ => rfl
theorem y_ext {D : va_G} {cy : Nat → ClassId} {q ad : Nat → Nat} {NC n ra rb rc : Nat} {d : Int32} {M : x_M} {A : Nat → Prop} {H : Heap} (hNC : 94 ≤ NC) (h3 : NC % 3 = 1) (hv : y_v NC M) (hn : n ≤ 132) (hP : va_P D vwCl (y_tw cy d n M ra rb rc ++ x_w cy q ad x_spX NC M) H) (hD : va_D A (y_tw cy d n M ra rb rc ++ x_w cy q ad x_spX NC M)) : va_P D vwCl (x_w cy (y_q q NC ra rb rc) ad x_spX (NC + 3) (y_M M NC d n)) H ∧ va_D A (x_w cy (y_q q NC ra rb rc) ad x_spX (NC + 3) (y_M M NC d n)) := by
  have hq : ∀ k, k < NC → y_q q NC ra rb rc k = q k := by
    intro k hk
    unfold y_q
    rw [if_neg (by omega), if_neg (by omega), if_neg (by omega)]
  have hM : ∀ k, k < NC → y_M M NC d n k = M k := by
    intro k hk
    unfold y_M
    rw [if_neg (by omega), if_neg (by omega), if_neg (by omega)]
  have q0 : y_q q NC ra rb rc NC = ra := by unfold y_q; rw [if_pos rfl]
  have q1 : y_q q NC ra rb rc (NC + 1) = rb := by unfold y_q; rw [if_neg (by omega), if_pos rfl]
  have q2 : y_q q NC ra rb rc (NC + 2) = rc := by unfold y_q; rw [if_neg (by omega), if_neg (by omega), if_pos rfl]
  have m0 : y_M M NC d n NC = upd (fun _ => 0) 0 d := by unfold y_M; rw [if_pos rfl]
  have m1 : y_M M NC d n (NC + 1) = upd (M 82) 2147483648 (nI n) := by unfold y_M; rw [if_neg (by omega), if_pos rfl]
  have m2 : y_M M NC d n (NC + 2) = M 83 := by unfold y_M; rw [if_neg (by omega), if_neg (by omega), if_pos rfl]
  have s0 : x_spX NC = .inr (8, [(0, 0), (1, NC + 1), (1, NC + 2)]) := by unfold x_spX; rw [if_neg (by omega), if_pos (by omega)]
  have s1 : x_spX (NC + 1) = .inl (5, 0) := by unfold x_spX; rw [if_neg (by omega), if_neg (by omega), if_pos (by omega)]
  have s2 : x_spX (NC + 2) = .inl (0, 4) := by unfold x_spX; rw [if_neg (by omega), if_neg (by omega), if_neg (by omega)]
  have e0 : x_E cy (y_q q NC ra rb rc) ad (x_spX NC) (y_M M NC d n NC) = .inr (8, [.int d, .ref rb, .ref rc]) := by
    rw [s0, m0]
    show (Sum.inr (8, [.int (upd (fun _ => 0) 0 d 0), .ref (y_q q NC ra rb rc (NC + 1)), .ref (y_q q NC ra rb rc (NC + 2))]) : va_E) = _
    rw [q1, q2, pk_us]
  have e1 : x_E cy (y_q q NC ra rb rc) ad (x_spX (NC + 1)) (y_M M NC d n (NC + 1)) = .inl (cy 0, n, .inl (upd (M 82) 2147483648 (nI n))) := by
    rw [s1, m1]
    show (Sum.inl (cy 0, (upd (M 82) 2147483648 (nI n) 2147483648).toNatClampNeg, .inl (upd (M 82) 2147483648 (nI n))) : va_E) = _
    rw [pk_us, nI_clamp (by omega)]
  have e2 : x_E cy (y_q q NC ra rb rc) ad (x_spX (NC + 2)) (y_M M NC d n (NC + 2)) = .inl (cy 0, 4, .inl (M 83)) := by
    rw [s2, m2]
    rfl
  have ew : x_w cy (y_q q NC ra rb rc) ad x_spX (NC + 3) (y_M M NC d n) = x_w cy q ad x_spX NC M ++ [(ra, .inr (8, [.int d, .ref rb, .ref rc])), (rb, .inl (cy 0, n, .inl (upd (M 82) 2147483648 (nI n)))), (rc, .inl (cy 0, 4, .inl (M 83)))] := by
    unfold x_w
    rw [List.range_succ, List.range_succ, List.range_succ]
    simp only [List.map_append, List.map_cons, List.map_nil, List.append_assoc, List.cons_append, List.nil_append]
    rw [e0, e1, e2, q0, q1, q2]
    congr 1
    refine List.map_congr_left fun k hk => ?_
    have hk := List.mem_range.mp hk
    rw [hq k hk, hM k hk, y_E hNC h3 hv hq hk]
  obtain ⟨hP, hD⟩ := x_remark hP hD 2 (upd (M 82) 2147483648 (nI n)) (a := rb) (n := n) (cA := cy 0) (f := M 82) rfl (fun j hj => by rw [pk_un (by omega)])
  have hp : (List.set (y_tw cy d n M ra rb rc ++ x_w cy q ad x_spX NC M) 2 (rb, (.inl (cy 0, n, .inl (upd (M 82) 2147483648 (nI n))) : va_E))).Perm (x_w cy q ad x_spX NC M ++ [(ra, .inr (8, [.int d, .ref rb, .ref rc])), (rb, .inl (cy 0, n, .inl (upd (M 82) 2147483648 (nI n)))), (rc, .inl (cy 0, 4, .inl (M 83)))]) := by
    show ([(ra, (.inr (8, [.int d, .ref rb, .ref rc]) : va_E)), (rc, .inl (cy 0, 4, .inl (M 83))), (rb, .inl (cy 0, n, .inl (upd (M 82) 2147483648 (nI n))))] ++ x_w cy q ad x_spX NC M).Perm _
    refine List.perm_append_comm.trans ?_
    refine List.Perm.append_left _ ?_
    exact List.Perm.cons _ (List.Perm.swap _ _ _)
  rw [ew]
  exact x_perm hp hP hD
noncomputable def f_X11_terms_103 (NC : Nat) (M : x_M) (v1 : Int32) : Option ((Int32 × Nat) × x_M) := @ite _ (¬ y_v NC M) (Classical.propDecidable _) none (x_gf M 80 10 (fun u => if u < 0 ∨ nI 132 < u then none else x_bn (f_X9_add (NC + 3) (y_M M NC v1 u.toNatClampNeg) (nI (NC + 1))) (fun _ M => x_gf M 80 5 (fun r => some ((r, NC + 3), M)))))
noncomputable def f_X11_terms_65 (NC : Nat) (M : x_M) (v1 : Int32) : Option ((Int32 × Nat) × x_M) := x_bn (f_X7_isTerms M) (fun r69 M => if r69 = 0 then x_gf M 80 6 (fun r81 => some ((((-100) - r81), NC), M)) else x_gf M 16 2 (fun r93 => if r93 < (nI 4) then f_X11_terms_103 NC M v1 else some (((-1000000003), NC), M)))
noncomputable def f_X11_terms_36 (NC : Nat) (M : x_M) (v1 : Int32) (t0 : Int32) : Option ((Int32 × Nat) × x_M) := if t0 = 0 then x_gf M 1 8 (fun r46 => x_rd 3 (M 31) (nI 0) (fun r57 => if (r46 + r57) ≤ v1 then f_X11_terms_65 NC M v1 else some (((-1000000002), NC), M))) else f_X11_terms_65 NC M v1
noncomputable def f_X11_terms_35 (NC : Nat) (M : x_M) (v1 : Int32) : Option ((Int32 × Nat) × x_M) := f_X11_terms_36 NC M v1 (nI 0)
noncomputable def f_X11_terms (NC : Nat) (M : x_M) (a1 : Int32) : Option ((Int32 × Nat) × x_M) := x_bn (f_X7_useUp M) (fun _ M => x_bn (f_X11_isDay M a1) (fun r8 M => if r8 = 0 then some (((-1000000001), NC), M) else if a1 = 0 then x_gf M 1 8 (fun r25 => if r25 = 0 then f_X11_terms_36 NC M a1 (nI 1) else f_X11_terms_35 NC M a1) else f_X11_terms_35 NC M a1))
abbrev rm_X11_terms : Room := { frames := 734, cells := 3, slots := 267, locals := 30721 }
