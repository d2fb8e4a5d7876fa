/-! ===== how many MILES are there ===== -/
def z_el (G S : z_G) (day pl m i : Nat) : Bool := decide (day < S 3 i) && z_own G pl m (S 1 i)
def z_ft (G S : z_G) (day pl m i : Nat) : Nat := if z_el G S day pl m i = true then S 2 i else 0
def z_thr (G S : z_G) (day pl m : Nat) : Nat := z_sm (z_ft G S day pl m) (S 0 0)
theorem z_ft_b {G S : z_G} {day pl m i b : Nat} (h : S 2 i ≤ b) : z_ft G S day pl m i ≤ b := by
  unfold z_ft
  split <;> omega
theorem z_thX {NC : Nat} {X M : x_M} {G S : z_G} {Cd : Nat → Nat → List Int32} (h : z_K NC X M G Cd) (hl : z_lX X S) (hB : z_lB (G 2 3) S) {m pl day : Nat} (hm : m < G 2 3) (hpl : pl ≤ 1) (hd : day ≤ 1200) : ∀ (l : List Nat) (j acc fu : Nat), (∀ t, t < l.length → (z_oL S).getD (j + t) 0 = l.getD t 0) → S 0 0 = j + l.length → acc + l.length * 99999 ≤ 20000000 → l.length < fu → f_X2_there_67_2_6 fu X (nI m) (nI pl) (nI day) (nI acc) (nI j) = some (nI (acc + (l.map (z_ft G S day pl m)).sum), X) := by
  have hm10 : G 2 3 ≤ 10 := h.1.2.1.1.2.1
  have hn := hB.1
  intro l
  induction l with
  | nil =>
    intro j acc fu hl1 hj ha hfu
    obtain ⟨fu, rfl⟩ : ∃ a, fu = a + 1 := ⟨fu - 1, by omega⟩
    rw [List.length_nil] at hj
    rw [f_X2_there_67_2_6_s, z_gf, hl.1, if_pos (by rw [z_le (by omega) (by omega)]; omega)]
    rfl
  | cons i l ih =>
    intro j acc fu hl1 hj ha hfu
    obtain ⟨fu, rfl⟩ : ∃ a, fu = a + 1 := ⟨fu - 1, by omega⟩
    rw [List.length_cons] at hj ha hfu
    have ha0 : acc + l.length * 99999 ≤ 20000000 := Nat.le_trans (Nat.add_le_add_left (Nat.mul_le_mul_right _ (Nat.le_succ _)) _) ha
    have hi : (z_oL S).getD j 0 = i := hl1 0 (by rw [List.length_cons]; omega)
    have hj' : j < S 0 0 := by omega
    have hi' : i < S 0 0 := by
      rw [← hi]
      exact z_ord_lt hj'
    have hat := hl.2 j hj'
    rw [hi] at hat
    obtain ⟨b1, b2, b3⟩ := hB.2 i hi'
    have rest : ∀ acc', acc' + l.length * 99999 ≤ 20000000 → f_X2_there_67_2_51 (f_X2_there_67_2_6 fu) X (nI m) (nI pl) (nI day) (nI acc') (nI j) = some (nI (acc' + (l.map (z_ft G S day pl m)).sum), X) := by
      intro acc' ha'
      unfold f_X2_there_67_2_51
      rw [z_add]
      exact ih (j + 1) acc' fu (fun t ht => by
        have := hl1 (t + 1) (by rw [List.length_cons]; omega)
        rw [show j + 1 + t = j + (t + 1) by omega, this]
        rfl) (by omega) ha' (by omega)
    rw [f_X2_there_67_2_6_s, z_gf, hl.1, if_neg (by rw [z_le (by omega) (by omega)]; omega), z_rd (by omega) (by omega), hat.2.2, List.map_cons, List.sum_cons]
    by_cases c1 : S 3 i ≤ day
    · have e : z_ft G S day pl m i = 0 := by
        unfold z_ft z_el
        rw [decide_eq_false (by omega), Bool.false_and]
        rfl
      have hr := rest acc ha0
      rw [if_pos (by rw [z_le (by omega) (by omega)]; exact c1), hr]
      simp only [e, Nat.zero_add]
    · rw [if_neg (by rw [z_le (by omega) (by omega)]; exact c1), z_isfX h (by omega) hm b1 hpl hat.1, z_bn]
      by_cases c2 : z_own G pl m (S 1 i) = true
      · have e : z_ft G S day pl m i = S 2 i := by
          unfold z_ft z_el
          rw [decide_eq_true (by omega), c2]
          rfl
        rw [if_pos c2, if_neg z_n10, z_rd (by omega) (by omega), hat.2.1, z_add, rest (acc + S 2 i) (by omega), e, Nat.add_assoc]
      · have e : z_ft G S day pl m i = 0 := by
          unfold z_ft z_el
          rw [decide_eq_true (by omega), Bool.true_and, if_neg c2]
        have hr := rest acc ha0
        rw [if_neg c2, if_pos z_n00, hr]
        simp only [e, Nat.zero_add]
theorem z_ther {NC : Nat} {X M : x_M} {G S : z_G} {Cd : Nat → Nat → List Int32} (h : z_K NC X M G Cd) (hl : z_lX X S) (hB : z_lB (G 2 3) S) {m pl day : Nat} (hm : m < G 2 3) (hpl : pl ≤ 1) (hd : day ≤ 1200) : f_X2_there_67_2 X (nI m) (nI pl) (nI day) = some (nI (z_thr G S day pl m), X) := by
  have hn := hB.1
  have e1 : (z_oL S).length = S 0 0 := z_ord_len _
  unfold f_X2_there_67_2
  rw [z_thX h hl hB hm hpl hd (z_oL S) 0 0 x_FU (fun t _ => by rw [Nat.zero_add]) (by omega) (by omega) (by unfold x_FU; omega), Nat.zero_add]
  unfold z_thr z_oL
  rw [z_ord_sum]
theorem z_thr_b {G S : z_G} {m' day pl m : Nat} (hB : z_lB m' S) : z_thr G S day pl m ≤ 9999900 := by
  have h1 := z_sm_le (f := z_ft G S day pl m) (b := 99999) (S 0 0) (fun i hi => z_ft_b (hB.2 i hi).2.1)
  have h2 := hB.1
  unfold z_thr
  omega
theorem z_sm_mono {f : Nat → Nat} : ∀ (e i : Nat), z_sm f i ≤ z_sm f (i + e)
  | 0, i => Nat.le_refl _
  | e + 1, i => by
    have := z_sm_mono (f := f) e i
    rw [show i + (e + 1) = (i + e) + 1 by omega, z_sm]
    omega
theorem z_thM {NC : Nat} {X M : x_M} {G S : z_G} {Cd : Nat → Nat → List Int32} (h : z_K NC X M G Cd) (hl : z_lM M S) (hB : z_lB (G 2 3) S) {m pl day : Nat} (hm : m < G 2 3) (hpl : pl ≤ 1) (hd : day ≤ 1200) : ∀ (e i fu : Nat), S 0 0 = i + e → e < fu → f_X12_there_6 fu M (nI m) (nI day) (nI pl) (lN (z_sm (z_ft G S day pl m) i)) (nI i) = some (lN (z_thr G S day pl m), M) := by
  have hm10 : G 2 3 ≤ 10 := h.1.2.1.1.2.1
  have hn := hB.1
  intro e
  induction e with
  | zero =>
    intro i fu hi hfu
    obtain ⟨fu, rfl⟩ : ∃ a, fu = a + 1 := ⟨fu - 1, by omega⟩
    rw [f_X12_there_6_s, z_gf, hl.1, if_pos (by rw [z_le (by omega) (by omega)]; omega)]
    unfold z_thr
    rw [hi]
    rfl
  | succ e ih =>
    intro i fu hi hfu
    obtain ⟨fu, rfl⟩ : ∃ a, fu = a + 1 := ⟨fu - 1, by omega⟩
    have hi' : i < S 0 0 := by omega
    obtain ⟨b1, b2, b3⟩ := hB.2 i hi'
    obtain ⟨r8, r9, r10⟩ := hl.2 i hi'
    have rest : f_X12_there_51 (f_X12_there_6 fu) M (nI m) (nI day) (nI pl) (nI i) (lN (z_sm (z_ft G S day pl m) i)) (lN (z_ft G S day pl m i)) = some (lN (z_thr G S day pl m), M) := by
      unfold f_X12_there_51
      rw [z_add, lN_add]
      exact ih (i + 1) fu (by omega) (by omega)
    rw [f_X12_there_6_s, z_gf, hl.1, if_neg (by rw [z_le (by omega) (by omega)]; omega), z_isfM h (by omega) hm b1 hpl r8, z_bn]
    unfold f_X12_there_50
    by_cases c2 : z_own G pl m (S 1 i) = true
    · rw [if_pos c2, if_neg z_n10, z_rd (by omega) (by omega), r10]
      by_cases c1 : S 3 i ≤ day
      · have e : z_ft G S day pl m i = 0 := by
          unfold z_ft z_el
          rw [decide_eq_false (by omega), Bool.false_and]
          rfl
        rw [e] at rest
        rw [if_pos (by rw [z_le (by omega) (by omega)]; exact c1)]
        exact rest
      · have e : z_ft G S day pl m i = S 2 i := by
          unfold z_ft z_el
          rw [decide_eq_true (by omega), c2]
          rfl
        rw [e] at rest
        rw [if_neg (by rw [z_le (by omega) (by omega)]; exact c1), z_rd (by omega) (by omega), r9, nI_l (by omega)]
        exact rest
    · have e : z_ft G S day pl m i = 0 := by
        unfold z_ft z_el
        rw [if_neg (by rw [Bool.and_eq_true]; exact fun q => c2 q.2)]
      rw [e] at rest
      rw [if_neg c2, if_pos z_n00]
      exact rest
theorem z_therM {NC : Nat} {X M : x_M} {G S : z_G} {Cd : Nat → Nat → List Int32} (h : z_K NC X M G Cd) (hl : z_lM M S) (hB : z_lB (G 2 3) S) {m pl day : Nat} (hm : m < G 2 3) (hpl : pl ≤ 1) (hd : day ≤ 1200) : f_X12_there M (nI m) (nI day) (nI pl) = some (lN (z_thr G S day pl m), M) := by
  have hn := hB.1
  unfold f_X12_there
  exact z_thM h hl hB hm hpl hd (S 0 0) 0 x_FU (by omega) (by unfold x_FU; omega)
/-! ===== what is taken ===== -/
def z_tkl (G : z_G) (day pl m : Nat) : List Nat → z_G → Nat → Nat → z_G × Nat
  | [], S, _, f => (S, f)
  | i :: l, S, left, f => if left = 0 then (S, f) else if S 2 i ≠ 0 ∧ z_el G S day pl m i = true then z_tkl G day pl m l (z_gu S 2 i (S 2 i - min left (S 2 i))) (left - min left (S 2 i)) (if f = 0 then S 3 i + 1 else f) else z_tkl G day pl m l S left f
theorem z_tkl_0 {G S : z_G} {day pl m f : Nat} : ∀ l : List Nat, z_tkl G day pl m l S 0 f = (S, f)
  | [] => rfl
  | i :: l => by rw [z_tkl, if_pos rfl]
theorem z_key_2 {S : z_G} {i v : Nat} : z_key (z_gu S 2 i v) = z_key S := by
  funext j
  unfold z_key
  rw [z_gun (by omega), z_gun (by omega)]
theorem z_oL_2 {S : z_G} {i v : Nat} : z_oL (z_gu S 2 i v) = z_oL S := by
  unfold z_oL
  rw [z_key_2, z_gun (by omega)]
theorem z_lB_2 {S : z_G} {mm i v : Nat} (h : z_lB mm S) (hv : v ≤ S 2 i) : z_lB mm (z_gu S 2 i v) := by
  unfold z_lB
  rw [z_gun (by omega)]
  refine ⟨h.1, fun j hj => ?_⟩
  rw [z_gun (by omega), z_gun (k' := 3) (by omega)]
  obtain ⟨h1, h2, h3⟩ := h.2 j hj
  refine ⟨h1, ?_, h3⟩
  by_cases e : j = i
  · subst e
    rw [z_gus]
    omega
  · rw [z_gun (by omega)]
    exact h2
/-- all but the MILES stays, and no LOT grows -/
theorem z_tkl_k {G : z_G} {day pl m : Nat} : ∀ (l : List Nat) (S : z_G) (left f : Nat), (∀ k i, k ≠ 2 → (z_tkl G day pl m l S left f).1 k i = S k i) ∧ ∀ i, (z_tkl G day pl m l S left f).1 2 i ≤ S 2 i
  | [], S, left, f => ⟨fun _ _ _ => rfl, fun _ => Nat.le_refl _⟩
  | i :: l, S, left, f => by
    rw [z_tkl]
    split
    · exact ⟨fun _ _ _ => rfl, fun _ => Nat.le_refl _⟩
    · split
      · obtain ⟨h1, h2⟩ := z_tkl_k l (z_gu S 2 i (S 2 i - min left (S 2 i))) (left - min left (S 2 i)) (if f = 0 then S 3 i + 1 else f)
        refine ⟨fun k j hk => by rw [h1 k j hk, z_gun (by omega)], fun j => ?_⟩
        have h3 := h2 j
        by_cases e : j = i
        · subst e
          rw [z_gus] at h3
          omega
        · rw [z_gun (by omega)] at h3
          exact h3
      · exact z_tkl_k l S left f
theorem z_tkl_B {G S : z_G} {day pl m mm left f : Nat} {l : List Nat} (h : z_lB mm S) : z_lB mm (z_tkl G day pl m l S left f).1 := by
  obtain ⟨h1, h2⟩ := z_tkl_k (G := G) (day := day) (pl := pl) (m := m) l S left f
  unfold z_lB
  rw [h1 0 0 (by omega)]
  refine ⟨h.1, fun i hi => ?_⟩
  rw [h1 1 i (by omega), h1 3 i (by omega)]
  have h3 := h2 i
  have h4 := h.2 i hi
  omega
theorem z_tkl_f {G : z_G} {day pl m n : Nat} : ∀ (l : List Nat) (S : z_G) (left f : Nat), (∀ i, i ∈ l → S 3 i ≤ 11199) → f ≤ 11200 → (z_tkl G day pl m l S left f).2 ≤ 11200 ∧ (f ≠ 0 → (z_tkl G day pl m l S left f).2 ≠ 0) ∧ (0 < left → left ≤ (l.map (z_ft G S day pl m)).sum → (z_tkl G day pl m l S left f).2 ≠ 0)
  | [], S, left, f, _, hf => ⟨hf, id, fun h1 h2 => by simp at h2; omega⟩
  | i :: l, S, left, f, hS, hf => by
    rw [z_tkl]
    by_cases c0 : left = 0
    · rw [if_pos c0]
      exact ⟨hf, id, fun h1 => by omega⟩
    · rw [if_neg c0]
      by_cases c1 : S 2 i ≠ 0 ∧ z_el G S day pl m i = true
      · rw [if_pos c1]
        have hi := hS i (by simp)
        have hf' : (if f = 0 then S 3 i + 1 else f) ≤ 11200 ∧ (if f = 0 then S 3 i + 1 else f) ≠ 0 := by
          split <;> omega
        obtain ⟨h1, h2, h3⟩ := z_tkl_f (n := n) l (z_gu S 2 i (S 2 i - min left (S 2 i))) (left - min left (S 2 i)) (if f = 0 then S 3 i + 1 else f) (fun j hj => by rw [z_gun (by omega)]; exact hS j (by simp [hj])) hf'.1
        exact ⟨h1, fun _ => h2 hf'.2, fun _ _ => h2 hf'.2⟩
      · rw [if_neg c1]
        obtain ⟨h1, h2, h3⟩ := z_tkl_f (n := n) l S left f (fun j hj => hS j (by simp [hj])) hf
        refine ⟨h1, h2, fun q1 q2 => h3 q1 ?_⟩
        rw [List.map_cons, List.sum_cons] at q2
        have e : z_ft G S day pl m i = 0 := by
          unfold z_ft
          by_cases c2 : z_el G S day pl m i = true
          · rw [if_pos c2]
            by_cases c3 : S 2 i = 0
            · exact c3
            · exact absurd ⟨c3, c2⟩ c1
          · rw [if_neg c2]
        omega
theorem z_min {a b : Nat} (ha : a < 2147483648) (hb : b < 2147483648) : (if nI b < nI a then nI b else nI a) = nI (min a b) := by
  by_cases c : b < a
  · rw [if_pos (by rw [z_lt hb ha]; exact c), Nat.min_eq_right (by omega)]
  · rw [if_neg (by rw [z_lt hb ha]; exact c), Nat.min_eq_left (by omega)]
theorem z_tkX {NC : Nat} {M : x_M} {G : z_G} {Cd : Nat → Nat → List Int32} {m pl day : Nat} (hm : m < G 2 3) (hpl : pl ≤ 1) (hd : day ≤ 1200) : ∀ (l : List Nat) (j left f fu : Nat) (S : z_G) (X : x_M), z_K NC X M G Cd → z_lX X S → z_lB (G 2 3) S → (∀ t, t < l.length → (z_oL S).getD (j + t) 0 = l.getD t 0) → S 0 0 = j + l.length → left ≤ 100000 → f ≤ 11200 → l.length < fu → ∃ X', f_X2_take_67_2_11 fu X (nI m) (nI pl) (nI day) (nI left) (z_eN f) (nI j) = some (z_eN (z_tkl G day pl m l S left f).2, X') ∧ z_lX X' (z_tkl G day pl m l S left f).1 ∧ ∀ k, k ≠ 71 → X' k = X k := by
  intro l
  induction l with
  | nil =>
    intro j left f fu S X h hl hB hl1 hj hle hf hfu
    obtain ⟨fu, rfl⟩ : ∃ a, fu = a + 1 := ⟨fu - 1, by omega⟩
    have hn := hB.1
    rw [List.length_nil] at hj
    unfold z_tkl
    rw [f_X2_take_67_2_11_s, z_gf, hl.1, if_pos (by rw [z_le (by omega) (by omega)]; omega)]
    exact ⟨X, rfl, hl, fun _ _ => rfl⟩
  | cons i l ih =>
    intro j left f fu S X h hl hB hl1 hj hle hf hfu
    obtain ⟨fu, rfl⟩ : ∃ a, fu = a + 1 := ⟨fu - 1, by omega⟩
    have hn := hB.1
    have hm10 : G 2 3 ≤ 10 := h.1.2.1.1.2.1
    rw [List.length_cons] at hj hfu
    have hi : (z_oL S).getD j 0 = i := hl1 0 (by rw [List.length_cons]; omega)
    have hj' : j < S 0 0 := by omega
    have hi' : i < S 0 0 := by
      rw [← hi]
      exact z_ord_lt hj'
    have hat := hl.2 j hj'
    rw [hi] at hat
    obtain ⟨b1, b2, b3⟩ := hB.2 i hi'
    have hl2 : ∀ t, t < l.length → (z_oL S).getD (j + 1 + t) 0 = l.getD t 0 := fun t ht => by
      have := hl1 (t + 1) (by rw [List.length_cons]; omega)
      rw [show j + 1 + t = j + (t + 1) by omega, this]
      rfl
    rw [f_X2_take_67_2_11_s, z_gf, hl.1, if_neg (by rw [z_le (by omega) (by omega)]; omega), z_tkl]
    unfold f_X2_take_67_2_119 f_X2_take_67_2_113 f_X2_take_67_2_111 f_X2_take_67_2_113
    by_cases c0 : left = 0
    · rw [if_pos (by rw [z_le0 (by omega)]; exact c0), if_pos c0]
      exact ⟨X, rfl, hl, fun _ _ => rfl⟩
    · rw [if_neg (by rw [z_le0 (by omega)]; exact c0), if_neg c0, z_rd (by omega) (by omega), hat.2.1]
      have skip : ¬ (S 2 i ≠ 0 ∧ z_el G S day pl m i = true) → ∃ X', f_X2_take_67_2_11 fu X (nI m) (nI pl) (nI day) (nI left) (z_eN f) (nI j + nI 1) = some (z_eN (if S 2 i ≠ 0 ∧ z_el G S day pl m i = true then z_tkl G day pl m l (z_gu S 2 i (S 2 i - min left (S 2 i))) (left - min left (S 2 i)) (if f = 0 then S 3 i + 1 else f) else z_tkl G day pl m l S left f).2, X') ∧ z_lX X' (if S 2 i ≠ 0 ∧ z_el G S day pl m i = true then z_tkl G day pl m l (z_gu S 2 i (S 2 i - min left (S 2 i))) (left - min left (S 2 i)) (if f = 0 then S 3 i + 1 else f) else z_tkl G day pl m l S left f).1 ∧ ∀ k, k ≠ 71 → X' k = X k := by
        intro hno
        rw [if_neg hno, z_add]
        exact ih (j + 1) left f fu S X h hl hB hl2 (by omega) hle hf (by omega)
      by_cases c1 : S 2 i = 0
      · rw [if_pos (by rw [z_le0 (by omega)]; exact c1)]
        exact skip (fun q => q.1 c1)
      · rw [if_neg (by rw [z_le0 (by omega)]; exact c1), z_rd (by omega) (by omega), hat.2.2]
        by_cases c2 : S 3 i ≤ day
        · rw [if_pos (by rw [z_le (by omega) (by omega)]; exact c2)]
          refine skip (fun q => ?_)
          have := q.2
          unfold z_el at this
          rw [Bool.and_eq_true, decide_eq_true_iff] at this
          omega
        · rw [if_neg (by rw [z_le (by omega) (by omega)]; exact c2), z_isfX h (by omega) hm b1 hpl hat.1, z_bn]
          by_cases c3 : z_own G pl m (S 1 i) = true
          · have hyes : S 2 i ≠ 0 ∧ z_el G S day pl m i = true := ⟨c1, by unfold z_el; rw [decide_eq_true (by omega), c3]; rfl⟩
            rw [if_pos c3, if_neg z_n10, z_rd (by omega) (by omega), z_rd (by omega) (by omega), hat.2.1, z_min (by omega) (by omega), if_pos hyes, z_sub (Nat.min_le_right _ _), z_sub (Nat.min_le_left _ _), z_wr (by omega) (by omega), z_rd (by omega) (by omega), z_upn (by omega), hat.2.2]
            generalize hp : min left (S 2 i) = p
            have hS' : z_lX (x_up X 71 j (nI (S 2 i - p))) (z_gu S 2 i (S 2 i - p)) := by
              refine ⟨by rw [z_upn (by omega), z_gun (by omega)]; exact hl.1, fun j2 hj2 => ?_⟩
              rw [z_gun (by omega)] at hj2
              rw [z_oL_2]
              unfold z_lat
              rw [z_upn (by omega), z_upr, z_upn (by omega), z_gun (by omega), z_gun (k' := 3) (by omega)]
              have hat2 := hl.2 j2 hj2
              by_cases e : j2 = j
              · subst e
                rw [z_us, hi, z_gus]
                exact ⟨hat.1, rfl, hat.2.2⟩
              · rw [z_un e, z_gun (Or.inr (fun q => e (z_ord_inj hj2 hj' (by
                  have : (z_oL S).getD j2 0 = (z_oL S).getD j 0 := by rw [q, hi]
                  exact this))))]
                exact hat2
            have h' : z_K NC (x_up X 71 j (nI (S 2 i - p))) M G Cd := z_K_fr h (fun k hk => z_upn (by omega)) rfl
            have hf' : (if f = 0 then S 3 i + 1 else f) ≤ 11200 := by split <;> omega
            have go := ih (j + 1) (left - p) (if f = 0 then S 3 i + 1 else f) fu _ _ h' hS' (z_lB_2 hB (Nat.sub_le _ _)) (by rw [z_oL_2]; exact hl2) (by rw [z_gun (by omega)]; omega) (by omega) hf' (by omega)
            obtain ⟨X', a1, a2, a3⟩ := go
            refine ⟨X', ?_, a2, fun k hk => by rw [a3 k hk, z_upn hk]⟩
            rw [← a1, z_add]
            by_cases c4 : f = 0
            · rw [if_pos c4, if_pos (by rw [c4]; rfl)]
              unfold z_eN
              rw [if_neg (show ¬ S 3 i + 1 = 0 by omega)]
              rfl
            · rw [if_neg c4, if_neg (by unfold z_eN; rw [if_neg c4, z_nn5 (by omega)]; exact id)]
          · rw [if_neg c3, if_pos z_n00]
            refine skip (fun q => ?_)
            have := q.2
            unfold z_el at this
            rw [Bool.and_eq_true] at this
            exact c3 this.2
