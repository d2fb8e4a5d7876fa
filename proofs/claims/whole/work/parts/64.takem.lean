/-! ===== what is taken: the reference ===== -/
def z_fp (P : Nat → Bool) : List Nat → Nat
  | [] => 0
  | x :: l => if P x = true then x + 1 else z_fp P l
theorem z_fp_mem {P : Nat → Bool} : ∀ l : List Nat, z_fp P l ≠ 0 → z_fp P l - 1 ∈ l ∧ P (z_fp P l - 1) = true
  | [], h => absurd rfl h
  | x :: l, h => by
    unfold z_fp at h ⊢
    by_cases c : P x = true
    · rw [if_pos c, show x + 1 - 1 = x by omega]
      exact ⟨by simp, c⟩
    · rw [if_neg c] at h ⊢
      obtain ⟨h1, h2⟩ := z_fp_mem l h
      exact ⟨by simp [h1], h2⟩
theorem z_fp_app {P : Nat → Bool} {i : Nat} {l : List Nat} (hi : P i = true) : ∀ pre : List Nat, (∀ x, x ∈ pre → ¬ P x = true) → z_fp P (pre ++ i :: l) = i + 1
  | [], _ => by
    show z_fp P (i :: l) = i + 1
    rw [z_fp, if_pos hi]
  | x :: pre, h => by
    show z_fp P (x :: (pre ++ i :: l)) = i + 1
    rw [z_fp, if_neg (h x (by simp))]
    exact z_fp_app hi pre (fun y hy => h y (by simp [hy]))
theorem z_fp_sins {P : Nat → Bool} {key : Nat → Nat} {x : Nat} : ∀ l : List Nat, l.Pairwise (fun a b => key a ≤ key b) → z_fp P (z_sins key x l) = if P x = true then (if z_fp P l = 0 then x + 1 else if key (z_fp P l - 1) ≤ key x then z_fp P l else x + 1) else z_fp P l
  | [], _ => by
    unfold z_sins z_fp z_fp
    by_cases c : P x = true
    · rw [if_pos c, if_pos c, if_pos rfl]
    · rw [if_neg c, if_neg c]
  | y :: l, h => by
    have hs := List.pairwise_cons.mp h
    unfold z_sins
    by_cases ck : key y ≤ key x
    · rw [if_pos ck, z_fp, z_fp]
      by_cases cy : P y = true
      · rw [if_pos cy, if_pos cy, if_neg (show ¬ y + 1 = 0 by omega), show y + 1 - 1 = y by omega, if_pos ck, ite_self]
      · rw [if_neg cy, if_neg cy]
        exact z_fp_sins l hs.2
    · rw [if_neg ck, z_fp]
      by_cases cx : P x = true
      · rw [if_pos cx, if_pos cx]
        by_cases c0 : z_fp P (y :: l) = 0
        · rw [if_pos c0]
        · rw [if_neg c0]
          have hm := (z_fp_mem (y :: l) c0).1
          have hk : key y ≤ key (z_fp P (y :: l) - 1) := by
            rcases List.mem_cons.mp hm with e | e
            · rw [e]
              exact Nat.le_refl _
            · exact hs.1 _ e
          rw [if_neg (by omega)]
      · rw [if_neg cx, if_neg cx]
def z_P (G S : z_G) (day pl m i : Nat) : Bool := decide (S 2 i ≠ 0) && z_el G S day pl m i
theorem z_P_t {G S : z_G} {day pl m i : Nat} : z_P G S day pl m i = true ↔ (S 2 i ≠ 0 ∧ z_el G S day pl m i = true) := by
  unfold z_P
  rw [Bool.and_eq_true, decide_eq_true_iff]
theorem z_eO_s {v : Nat} : z_eO (v + 1) = nI v := by
  unfold z_eO
  rw [if_neg (by omega)]
  rfl
theorem z_tk17 {NC : Nat} {X M : x_M} {G S : z_G} {Cd : Nat → Nat → List Int32} (h : z_K NC X M G Cd) (hl : z_lM M S) (hB : z_lB (G 2 3) S) {m pl day left f : Nat} (hm : m < G 2 3) (hpl : pl ≤ 1) (hd : day ≤ 1200) (hle : left ≤ 100000) (hf : f ≤ 11200) {k6 : x_M → Int32 → Int32 → Int32 → Int32 → Int32 → Option (Int32 × x_M)} {b : Nat} (hb : z_fp (z_P G S day pl m) (z_oL S) = b + 1) : ∀ (e i fu : Nat), S 0 0 = i + e → e < fu → f_X12_takes_17 k6 fu M (nI m) (nI day) (nI pl) (nI left) (z_eO f) (z_eO (z_fp (z_P G S day pl m) (z_ord (z_key S) i))) (nI i) = k6 (x_up M 9 b (nI (S 2 b - min left (S 2 b)))) (nI m) (nI day) (nI pl) (nI (left - min left (S 2 b))) (z_eO (if f = 0 then S 3 b + 1 else f)) := by
  have hm10 : G 2 3 ≤ 10 := h.1.2.1.1.2.1
  have hn := hB.1
  intro e
  induction e with
  | zero =>
    intro i fu hi hfu
    obtain ⟨fu, rfl⟩ : ∃ a, fu = a + 1 := ⟨fu - 1, by omega⟩
    have e1 : z_ord (z_key S) i = z_oL S := by
      unfold z_oL
      rw [hi]
      rfl
    have hbm : b < S 0 0 := by
      have h1 := (z_fp_mem (z_oL S) (by omega) : z_fp (z_P G S day pl m) (z_oL S) - 1 ∈ z_oL S ∧ _).1
      rw [hb, show b + 1 - 1 = b by omega] at h1
      exact (z_ord_mem _).mp h1
    obtain ⟨b1, b2, b3⟩ := hB.2 b hbm
    obtain ⟨r8, r9, r10⟩ := hl.2 b hbm
    rw [f_X12_takes_17_s, z_gf, hl.1, if_pos (by rw [z_le (by omega) (by omega)]; omega), e1, hb, z_eO_s, z_rd (by omega) (by omega), r9, z_less (by omega) (by omega), z_bn, z_rd (by omega) (by omega), r9, z_sub (Nat.min_le_right _ _), z_sub (Nat.min_le_left _ _), z_wr (by omega) (by omega), z_rd (by omega) (by omega), z_upn (by omega), r10]
    unfold f_X12_takes_197
    by_cases c : f = 0
    · rw [if_pos (by rw [c]; rfl), if_pos c, z_eO_s]
    · rw [if_neg (by unfold z_eO; rw [if_neg c, z_nm1 (by omega)]; exact id), if_neg c]
  | succ e ih =>
    intro i fu hi hfu
    obtain ⟨fu, rfl⟩ : ∃ a, fu = a + 1 := ⟨fu - 1, by omega⟩
    have hi' : i < S 0 0 := by omega
    obtain ⟨b1, b2, b3⟩ := hB.2 i hi'
    obtain ⟨r8, r9, r10⟩ := hl.2 i hi'
    have go := ih (i + 1) fu (by omega) (by omega)
    rw [z_ord, z_fp_sins _ (z_ord_sorted i)] at go
    generalize hv : z_fp (z_P G S day pl m) (z_ord (z_key S) i) = v at go ⊢
    rw [f_X12_takes_17_s, z_gf, hl.1, if_neg (by rw [z_le (by omega) (by omega)]; omega), z_isfM h (by omega) hm b1 hpl r8, z_bn]
    unfold f_X12_takes_119 f_X12_takes_123 f_X12_takes_124 f_X12_takes_138 f_X12_takes_140
    simp only [z_ite0, z_ite1]
    rw [z_add]
    by_cases c3 : z_own G pl m (S 1 i) = true
    · rw [if_pos c3, if_neg z_n10, z_rd (by omega) (by omega), r10]
      by_cases c2 : S 3 i ≤ day
      · have hno : ¬ z_P G S day pl m i = true := fun q => by
          have := (z_P_t.mp q).2
          unfold z_el at this
          rw [Bool.and_eq_true, decide_eq_true_iff] at this
          omega
        rw [if_neg hno] at go
        rw [if_pos (by rw [z_le (by omega) (by omega)]; exact c2)]
        exact go
      · rw [if_neg (by rw [z_le (by omega) (by omega)]; exact c2), z_rd (by omega) (by omega), r9]
        by_cases c1 : S 2 i = 0
        · have hno : ¬ z_P G S day pl m i = true := fun q => (z_P_t.mp q).1 c1
          rw [if_neg hno] at go
          rw [if_pos (by rw [z_eq0 (by omega)]; exact c1)]
          exact go
        · have hyes : z_P G S day pl m i = true := z_P_t.mpr ⟨c1, by unfold z_el; rw [decide_eq_true (by omega), c3]; rfl⟩
          rw [if_pos hyes] at go
          rw [if_neg (by rw [z_eq0 (by omega)]; exact c1)]
          by_cases c0 : v = 0
          · rw [if_pos c0, z_eO_s] at go
            rw [if_pos (by rw [c0]; rfl)]
            exact go
          · have hvm : v - 1 < i := by
              have h1 := (z_fp_mem (P := z_P G S day pl m) (z_ord (z_key S) i) (by omega)).1
              rw [hv] at h1
              exact (z_ord_mem _).mp h1
            obtain ⟨d1, d2, d3⟩ := hB.2 (v - 1) (by omega)
            obtain ⟨s8, s9, s10⟩ := hl.2 (v - 1) (by omega)
            have ev : z_eO v = nI (v - 1) := by
              unfold z_eO
              rw [if_neg c0]
            rw [if_neg c0] at go
            rw [ev, if_neg (by rw [z_nm1 (by omega)]; exact id), z_rd (by omega) (by omega), z_rd (by omega) (by omega), z_rd (by omega) (by omega), z_rd (by omega) (by omega), z_rd (by omega) (by omega), z_rd (by omega) (by omega), r8, r10, s8, s10]
            unfold z_key at go
            by_cases q1 : S 3 i < S 3 (v - 1)
            · rw [if_neg (by omega), z_eO_s] at go
              rw [if_pos (by rw [z_lt (by omega) (by omega)]; exact q1)]
              exact go
            · rw [if_neg (by rw [z_lt (by omega) (by omega)]; exact q1)]
              by_cases q2 : S 3 i = S 3 (v - 1)
              · rw [if_pos (by rw [q2])]
                by_cases q3 : S 1 (v - 1) ≤ S 1 i
                · rw [if_pos (by omega), ev] at go
                  rw [if_pos (by rw [z_le (by omega) (by omega)]; exact q3)]
                  exact go
                · rw [if_neg (by omega), z_eO_s] at go
                  rw [if_neg (by rw [z_le (by omega) (by omega)]; exact q3)]
                  exact go
              · rw [if_pos (by omega), ev] at go
                rw [if_neg (by rw [z_eq (by omega) (by omega)]; exact q2)]
                exact go
    · have hno : ¬ z_P G S day pl m i = true := fun q => by
        have := (z_P_t.mp q).2
        unfold z_el at this
        rw [Bool.and_eq_true] at this
        exact c3 this.2
      rw [if_neg hno] at go
      rw [if_neg c3, if_pos z_n00]
      exact go
theorem z_tkM {NC : Nat} {X : x_M} {G : z_G} {Cd : Nat → Nat → List Int32} {m pl day : Nat} (hm : m < G 2 3) (hpl : pl ≤ 1) (hd : day ≤ 1200) : ∀ (l pre : List Nat) (left f fu : Nat) (S : z_G) (M : x_M), z_K NC X M G Cd → z_lM M S → z_lB (G 2 3) S → z_oL S = pre ++ l → (∀ x, x ∈ pre → ¬ z_P G S day pl m x = true) → left ≤ (l.map (z_ft G S day pl m)).sum → left ≤ 100000 → f ≤ 11200 → l.length < fu → ∃ M', f_X12_takes_6 fu M (nI m) (nI day) (nI pl) (nI left) (z_eO f) = some (z_eO (z_tkl G day pl m l S left f).2, M') ∧ z_lM M' (z_tkl G day pl m l S left f).1 ∧ ∀ k, k ≠ 9 → M' k = M k := by
  intro l
  induction l with
  | nil =>
    intro pre left f fu S M h hl hB ho hpre hsum hle hf hfu
    obtain ⟨fu, rfl⟩ : ∃ a, fu = a + 1 := ⟨fu - 1, by omega⟩
    have h0 : left = 0 := by simpa using hsum
    rw [f_X12_takes_6_s, if_pos (by rw [z_le0 (by omega)]; exact h0)]
    exact ⟨M, rfl, hl, fun _ _ => rfl⟩
  | cons i l ih =>
    intro pre left f fu S M h hl hB ho hpre hsum hle hf hfu
    by_cases c0 : left = 0
    · obtain ⟨fu, rfl⟩ : ∃ a, fu = a + 1 := ⟨fu - 1, by omega⟩
      subst c0
      rw [f_X12_takes_6_s, if_pos (by decide), z_tkl_0]
      exact ⟨M, rfl, hl, fun _ _ => rfl⟩
    · have hn := hB.1
      rw [List.map_cons, List.sum_cons] at hsum
      rw [List.length_cons] at hfu
      have hlen : (z_oL S).length = S 0 0 := z_ord_len _
      have hnd : (pre ++ i :: l).Pairwise (fun a b => a ≠ b) := by
        rw [← ho]
        exact z_ord_nd _
      have hi' : i < S 0 0 := by
        have : i ∈ z_oL S := by
          rw [ho]
          simp
        exact (z_ord_mem _).mp this
      obtain ⟨b1, b2, b3⟩ := hB.2 i hi'
      rw [z_tkl, if_neg c0]
      by_cases c1 : S 2 i ≠ 0 ∧ z_el G S day pl m i = true
      · obtain ⟨fu, rfl⟩ : ∃ a, fu = a + 1 := ⟨fu - 1, by omega⟩
        have hfp : z_fp (z_P G S day pl m) (z_oL S) = i + 1 := by
          rw [ho]
          exact z_fp_app (z_P_t.mpr c1) pre hpre
        have h17 := z_tk17 h hl hB hm hpl hd hle hf (k6 := f_X12_takes_6 fu) hfp (S 0 0) 0 x_FU (by omega) (by unfold x_FU; omega)
        have e0 : z_eO (z_fp (z_P G S day pl m) (z_ord (z_key S) 0)) = -1 := rfl
        rw [e0] at h17
        rw [if_pos c1, f_X12_takes_6_s, if_neg (by rw [z_le0 (by omega)]; exact c0), h17]
        generalize hp : min left (S 2 i) = p
        have hS' : z_lM (x_up M 9 i (nI (S 2 i - p))) (z_gu S 2 i (S 2 i - p)) := by
          refine ⟨by rw [z_upn (by omega), z_gun (by omega)]; exact hl.1, fun j hj => ?_⟩
          rw [z_gun (by omega)] at hj
          obtain ⟨r8, r9, r10⟩ := hl.2 j hj
          rw [z_upn (by omega), z_upr, z_upn (by omega), z_gun (by omega), z_gun (k' := 3) (by omega)]
          refine ⟨r8, ?_, r10⟩
          by_cases e : j = i
          · subst e
            rw [z_us, z_gus]
          · rw [z_un e, z_gun (by omega)]
            exact r9
        have h' : z_K NC X (x_up M 9 i (nI (S 2 i - p))) G Cd := z_K_fr h (fun _ _ => rfl) (z_upn (by omega))
        have hf' : (if f = 0 then S 3 i + 1 else f) ≤ 11200 := by split <;> omega
        by_cases c2 : left - p = 0
        · obtain ⟨fu, rfl⟩ : ∃ a, fu = a + 1 := ⟨fu - 1, by omega⟩
          rw [c2, f_X12_takes_6_s, if_pos (by decide), z_tkl_0]
          exact ⟨_, rfl, hS', fun k hk => z_upn hk⟩
        · have hpi : p = S 2 i := by omega
          rw [List.pairwise_append, List.pairwise_cons] at hnd
          have hP : ∀ x, x ≠ i → z_P G (z_gu S 2 i (S 2 i - p)) day pl m x = z_P G S day pl m x := by
            intro x hx
            unfold z_P z_el
            rw [z_gun (by omega), z_gun (by omega), z_gun (by omega)]
          have hft : ∀ x, x ≠ i → z_ft G (z_gu S 2 i (S 2 i - p)) day pl m x = z_ft G S day pl m x := by
            intro x hx
            unfold z_ft z_el
            rw [z_gun (by omega), z_gun (by omega), z_gun (by omega)]
          have hfti : z_ft G S day pl m i = S 2 i := by
            unfold z_ft
            rw [if_pos c1.2]
          obtain ⟨M', a1, a2, a3⟩ := ih (pre ++ [i]) (left - p) (if f = 0 then S 3 i + 1 else f) fu _ _ h' hS' (z_lB_2 hB (Nat.sub_le _ _)) (by rw [z_oL_2, ho]; simp) (fun x hx => by
            rcases List.mem_append.mp hx with hx | hx
            · rw [hP x (hnd.2.2 x hx i (by simp))]
              exact hpre x hx
            · have : x = i := by simpa using hx
              subst this
              intro q
              have := (z_P_t.mp q).1
              rw [z_gus] at this
              omega) (by
            rw [List.map_congr_left (g := z_ft G S day pl m) (fun x hx => hft x (fun q => hnd.2.1.1 x hx q.symm))]
            omega) (by omega) hf' (by omega)
          exact ⟨M', a1, a2, fun k hk => by rw [a3 k hk, z_upn hk]⟩
      · rw [if_neg c1]
        have e : z_ft G S day pl m i = 0 := by
          unfold z_ft
          by_cases c2 : z_el G S day pl m i = true
          · rw [if_pos c2]
            by_cases c3 : S 2 i = 0
            · exact c3
            · exact absurd ⟨c3, c2⟩ c1
          · rw [if_neg c2]
        rw [e, Nat.zero_add] at hsum
        exact ih (pre ++ [i]) left f fu S M h hl hB (by rw [ho]; simp) (fun x hx => by
          rcases List.mem_append.mp hx with hx | hx
          · exact hpre x hx
          · have : x = i := by simpa using hx
            subst this
            exact fun q => c1 (z_P_t.mp q)) hsum hle hf (by omega)
/-- both take the same -/
def z_tkS (G S : z_G) (day pl m left : Nat) : z_G × Nat := z_tkl G day pl m (z_oL S) S left 0
theorem z_takeX {NC : Nat} {X M : x_M} {G S : z_G} {Cd : Nat → Nat → List Int32} (h : z_K NC X M G Cd) (hl : z_lX X S) (hB : z_lB (G 2 3) S) {m pl day left : Nat} (hm : m < G 2 3) (hpl : pl ≤ 1) (hd : day ≤ 1200) (hle : left ≤ 100000) : ∃ X', f_X2_take_67_2 X (nI m) (nI pl) (nI day) (nI left) = some (z_eN (z_tkS G S day pl m left).2, X') ∧ z_lX X' (z_tkS G S day pl m left).1 ∧ ∀ k, k ≠ 71 → X' k = X k := by
  have hn := hB.1
  have e1 : (z_oL S).length = S 0 0 := z_ord_len _
  exact z_tkX hm hpl hd (z_oL S) 0 left 0 x_FU S X h hl hB (fun t _ => by rw [Nat.zero_add]) (by omega) hle (by omega) (by unfold x_FU; omega)
theorem z_takeM {NC : Nat} {X M : x_M} {G S : z_G} {Cd : Nat → Nat → List Int32} (h : z_K NC X M G Cd) (hl : z_lM M S) (hB : z_lB (G 2 3) S) {m pl day left : Nat} (hm : m < G 2 3) (hpl : pl ≤ 1) (hd : day ≤ 1200) (hle : left ≤ 100000) (hth : left ≤ z_thr G S day pl m) : ∃ M', f_X12_takes M (nI m) (nI day) (nI left) (nI pl) = some (z_eO (z_tkS G S day pl m left).2, M') ∧ z_lM M' (z_tkS G S day pl m left).1 ∧ ∀ k, k ≠ 9 → M' k = M k := by
  have hn := hB.1
  have e1 : (z_oL S).length = S 0 0 := z_ord_len _
  refine z_tkM hm hpl hd (z_oL S) [] left 0 x_FU S M h hl hB rfl (fun x hx => absurd hx (by simp)) ?_ hle (by omega) (by unfold x_FU; omega)
  unfold z_thr at hth
  unfold z_oL
  rw [z_ord_sum]
  exact hth
theorem z_takeB {G S : z_G} {day pl m left mm : Nat} (hB : z_lB mm S) : z_lB mm (z_tkS G S day pl m left).1 := z_tkl_B hB
theorem z_takeF {G S : z_G} {day pl m left mm : Nat} (hB : z_lB mm S) (h0 : 0 < left) (hth : left ≤ z_thr G S day pl m) : ∃ la, la ≤ 11199 ∧ (z_tkS G S day pl m left).2 = la + 1 := by
  obtain ⟨h1, -, h3⟩ := z_tkl_f (G := G) (day := day) (pl := pl) (m := m) (n := 0) (z_oL S) S left 0 (fun i hi => (hB.2 i ((z_ord_mem _).mp hi)).2.2) (by omega)
  have h4 := h3 h0 (by
    unfold z_thr at hth
    unfold z_oL
    rw [z_ord_sum]
    exact hth)
  refine ⟨(z_tkS G S day pl m left).2 - 1, ?_, ?_⟩
  · unfold z_tkS
    omega
  · unfold z_tkS
    omega
