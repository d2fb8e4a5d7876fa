/-! ===== rows in order: a number comes behind those whose key is not greater ===== -/
def z_sins (key : Nat → Nat) (x : Nat) : List Nat → List Nat
  | [] => [x]
  | y :: l => if key y ≤ key x then y :: z_sins key x l else x :: y :: l
def z_ord (key : Nat → Nat) : Nat → List Nat
  | 0 => []
  | n + 1 => z_sins key n (z_ord key n)
theorem z_sins_len {key : Nat → Nat} {x : Nat} : ∀ l : List Nat, (z_sins key x l).length = l.length + 1
  | [] => rfl
  | y :: l => by
    unfold z_sins
    split
    · simp [z_sins_len l]
    · simp
theorem z_ord_len {key : Nat → Nat} : ∀ n, (z_ord key n).length = n
  | 0 => rfl
  | n + 1 => by rw [z_ord, z_sins_len, z_ord_len n]
theorem z_sins_mem {key : Nat → Nat} {x z : Nat} : ∀ l : List Nat, z ∈ z_sins key x l ↔ z = x ∨ z ∈ l
  | [] => by simp [z_sins]
  | y :: l => by
    unfold z_sins
    split
    · simp only [List.mem_cons, z_sins_mem l]
      constructor
      · rintro (h | h | h)
        · exact Or.inr (Or.inl h)
        · exact Or.inl h
        · exact Or.inr (Or.inr h)
      · rintro (h | h | h)
        · exact Or.inr (Or.inl h)
        · exact Or.inl h
        · exact Or.inr (Or.inr h)
    · simp only [List.mem_cons]
theorem z_ord_mem {key : Nat → Nat} {z : Nat} : ∀ n, z ∈ z_ord key n ↔ z < n
  | 0 => by simp [z_ord]
  | n + 1 => by
    rw [z_ord, z_sins_mem, z_ord_mem n]
    omega
theorem z_sins_congr {key key' : Nat → Nat} {x : Nat} : ∀ l : List Nat, (∀ y ∈ l, key y = key' y) → key x = key' x → z_sins key x l = z_sins key' x l
  | [], _, _ => rfl
  | y :: l, h, hx => by
    unfold z_sins
    rw [h y (by simp), hx, z_sins_congr l (fun z hz => h z (by simp [hz])) hx]
theorem z_ord_congr {key key' : Nat → Nat} : ∀ n, (∀ y, y < n → key y = key' y) → z_ord key n = z_ord key' n
  | 0, _ => rfl
  | n + 1, h => by
    rw [z_ord, z_ord, z_ord_congr n (fun y hy => h y (by omega))]
    exact z_sins_congr _ (fun y hy => h y (by have := (z_ord_mem n).mp hy; omega)) (h n (by omega))
/-! ===== TERMS as both sides hold them ===== -/
def z_isl (c : Int32) : Prop := nI 97 ≤ -c ∧ -c ≤ nI 122
def z_wo (c : Int32) : Int32 := if 0 ≤ c then nI 1 else if nI 97 ≤ -c ∧ -c ≤ nI 122 then nI 2 else if c = -33 then nI 3 else if c = -124 then nI 10 else if c = -38 then nI 20 else if c = -60 then nI 30 else if c = -61 then nI 31 else if c = -62 then nI 32 else if c = -43 then nI 40 else if c = -45 then nI 41 else if c = -42 then nI 50 else nI 51
def z_wv (c : Int32) : Int32 := if 0 ≤ c then c else if nI 97 ≤ -c ∧ -c ≤ nI 122 then -c else nI 0
def z_nm (w : Nat) : List Nat := match w with
  | 0 => [108, 102, 112, 99, 116, 107]
  | 1 => [116, 107]
  | 2 => [108, 102, 111, 100, 116, 107]
  | _ => [113]
def z_opd (N : List Nat) (c : Int32) : Prop := (∃ v : Nat, v ≤ 99999 ∧ c = nI v) ∨ ∃ b : Nat, b ∈ N ∧ c = -(nI b)
def z_opr (c : Int32) : Prop := c = -124 ∨ c = -38 ∨ c = -60 ∨ c = -61 ∨ c = -62 ∨ c = -43 ∨ c = -45 ∨ c = -42 ∨ c = -47
/-- from so many on the pile to so many -/
def z_wf (N : List Nat) : List Int32 → Nat → Nat → Prop
  | [], d, e => d = e
  | c :: l, d, e => (z_opd N c ∧ z_wf N l (d + 1) e) ∨ (c = -33 ∧ 1 ≤ d ∧ z_wf N l d e) ∨ (z_opr c ∧ 2 ≤ d ∧ z_wf N l (d - 1) e)
theorem z_wf_app {N : List Nat} {l' : List Int32} {e f : Nat} (h' : z_wf N l' e f) : ∀ (l : List Int32) (d : Nat), z_wf N l d e → z_wf N (l ++ l') d f
  | [], d, h => by
    have h : d = e := h
    subst h
    exact h'
  | c :: l, d, h => by
    rcases h with ⟨h1, h2⟩ | ⟨h1, h2, h3⟩ | ⟨h1, h2, h3⟩
    · exact Or.inl ⟨h1, z_wf_app h' l (d + 1) h2⟩
    · exact Or.inr (Or.inl ⟨h1, h2, z_wf_app h' l d h3⟩)
    · exact Or.inr (Or.inr ⟨h1, h2, z_wf_app h' l (d - 1) h3⟩)
/-- where part w begins in the class's row -/
def z_beg (cd : Nat → List Int32) : Nat → Nat
  | 0 => 0
  | w + 1 => z_beg cd w + (cd w).length
def z_code (X : x_M) (r : Nat) (cd : Nat → List Int32) : Prop := X r 2147483648 = nI (z_beg cd 4) ∧ z_beg cd 4 ≤ 132 ∧ ∀ w, w < 4 → X (r + 1) w = nI (z_beg cd (w + 1)) ∧ ∀ j, j < (cd w).length → X r (z_beg cd w + j) = (cd w).getD j 0
def z_wds (s : Nat → Int32) (b : Nat) (cd : Nat → List Int32) : Prop := ∀ w, w < 4 → s (b + 265 * w) = nI (cd w).length ∧ ∀ j, j < (cd w).length → s (b + 265 * w + 1 + 2 * j) = z_wo ((cd w).getD j 0) ∧ s (b + 265 * w + 2 + 2 * j) = z_wv ((cd w).getD j 0)
def z_tk (NC r : Nat) : Prop := 88 < r ∧ r + 1 < NC ∧ (r - 89) % 3 = 0
def z_cdp : Nat → List Int32 := fun w => match w with
  | 0 => [-108]
  | 1 => [nI 720]
  | 2 => [-108]
  | _ => [nI 0]
def z_ter (NC : Nat) (X : x_M) (o : Nat) (s : Nat → Int32) (G : z_G) (Cd : Nat → Nat → List Int32) : Prop := (∀ i, X (17 + o) i = 0 ∨ ∃ r, X (17 + o) i = nI r ∧ z_tk NC r) ∧ ∀ i, i < G 16 2 → G 34 i ≤ 1200 ∧ s (1050 + 1062 * i) = nI (G 34 i) ∧ z_wds s (1052 + 1062 * i) (Cd i) ∧ (∀ w, w < 4 → z_wf (z_nm w) (Cd i w) 0 1) ∧ ∃ r, X (17 + o) i = nI r ∧ z_tk NC r ∧ X (r - 1) 0 = nI (G 34 i) ∧ z_code X r (Cd i)
/-! ===== what always holds ===== -/
def z_ok (G : z_G) : Nat → Nat → Prop := z_okS (G 2 3) (G 6 9) (G 18 8) (G 18 9) (G 27 3)
def z_IL (G : z_G) (i : Nat) : Prop := G 7 i ≤ 3 ∧ G 8 i < G 2 3 ∧ G 9 i ≤ G 10 i ∧ G 10 i ≤ G 1 8 ∧ G 11 i ≤ G 1 8 + 1 ∧ 1 ≤ G 12 i ∧ G 12 i ≤ 99999 ∧ G 14 i ≤ 9999 ∧ G 13 i ≤ 100 ∧ (G 7 i = 0 → G 12 i ≤ 9999 ∧ G 13 i ≤ 33 ∧ G 13 i % 10 ≤ 3) ∧ (G 7 i = 1 → G 13 i ≤ 3) ∧ (G 7 i = 2 → G 13 i < G 2 3 ∧ G 13 i ≠ G 8 i) ∧ (G 7 i = 3 → G 13 i < i ∧ G 7 (G 13 i) = 1 ∧ G 9 (G 13 i) ≤ G 9 i ∧ G 12 i = G 12 (G 13 i) ∧ G 8 i = G 8 (G 13 i))
def z_IM (G : z_G) (i : Nat) : Prop := G 3 i ≤ 3 ∧ G 4 i ≤ 4095 ∧ G 5 i ≤ 3
def z_IF (G : z_G) (i : Nat) : Prop := 1 ≤ G 19 i ∧ G 19 i ≤ 1200 ∧ 1 ≤ G 20 i ∧ G 20 i ≤ 9999 ∧ G 21 i ≤ 3 ∧ G 22 i ≤ 9
def z_IA (G : z_G) (i : Nat) : Prop := G 23 i < G 2 3 ∧ G 24 i < G 18 8 ∧ G 25 i ≤ 3 ∧ G 26 i ≤ 100000
def z_IO (G : z_G) (i : Nat) : Prop := 1 ≤ G 28 i ∧ G 28 i ≤ 9999 ∧ 1 ≤ G 29 i ∧ G 29 i ≤ 999 ∧ 1 ≤ G 30 i ∧ G 30 i ≤ 9
def z_IS (G : z_G) : Prop := G 1 8 ≤ 1200 ∧ G 2 3 ≤ 10 ∧ G 6 9 ≤ 100 ∧ G 16 2 ≤ 4 ∧ G 18 8 ≤ 8 ∧ G 18 9 ≤ 30 ∧ G 27 3 ≤ 8 ∧ G 31 0 ≤ 360 ∧ 1 ≤ G 31 1 ∧ G 31 1 ≤ 999 ∧ G 31 2 ≤ 999
def z_I (G : z_G) : Prop := z_IS G ∧ (∀ i, 1 ≤ i → i < 4 → G 32 i ≤ 999 ∧ G 33 i ≤ 999) ∧ (∀ i, i < G 2 3 → z_IM G i) ∧ (∀ i, i < G 6 9 → z_IL G i) ∧ (∀ i, i < G 18 8 → z_IF G i) ∧ (∀ i, i < G 18 9 → z_IA G i) ∧ ∀ i, i < G 27 3 → z_IO G i
/-- the LINES in order -/
def z_or (X : x_M) (o : Nat) (G : z_G) : Prop := ∀ i, i < G 6 9 → X (15 + o) i = nI ((z_ord (G 9) (G 6 9)).getD i 0)
def z_fl (s : Nat → Int32) (G : z_G) : Prop := ∀ i, i < G 18 9 → s (5341 + 5 * i) = nI (if G 26 i = 0 then 0 else 1)
/-- the club of the class from o on, and the row s of the reference -/
def z_cl (NC : Nat) (X : x_M) (o : Nat) (s : Nat → Int32) (G : z_G) (Cd : Nat → Nat → List Int32) : Prop := z_cr (z_ok G) X o s G ∧ z_I G ∧ z_or X o G ∧ z_fl s G ∧ z_ter NC X o s G Cd
def z_sh (X M : x_M) : Prop := (∀ j, j < 32 → X 86 j = (X 86 j).toInt16.toInt32) ∧ ∀ i, i < 2 → X 87 i = M 22 i ∧ (M 22 i = -1 ∨ ∃ n, n ≤ 16 ∧ M 22 i = nI n ∧ ∀ j, j < n → X 86 (16 * i + j) = M 21 (16 * i + j))
def z_wt (X M : x_M) : Prop := ∃ w, w ≤ 16 ∧ X 0 9 = nI w ∧ M 0 35 = nI w ∧ ∀ i, i < w → X 84 i = M 20 i
def z_tp (X M : x_M) : Prop := ∃ n, n ≤ 132 ∧ X 80 3 = nI n ∧ M 0 4 = nI n ∧ ∀ i, i < n → ∃ b, b < 256 ∧ M 3 i = nI b ∧ X 81 i = (nI b).toInt8.toInt32
def z_pl (NC : Nat) (X : x_M) : Prop := 94 ≤ NC ∧ NC ≤ 100000 ∧ NC % 3 = 1 ∧ X 88 0 = nI 0 ∧ z_code X 89 z_cdp ∧ ∀ i, X 50 i = 0 ∨ ∃ r, X 50 i = nI r ∧ z_tk NC r
def z_rs (NC : Nat) (X M : x_M) (H : z_G) (Ch : Nat → Nat → List Int32) : Prop := (X 0 10 = M 0 2 ∧ (M 0 2 = nI 0 ∨ (M 0 2 = nI 1 ∧ z_cl NC X 33 (M 2) H Ch))) ∧ z_sh X M ∧ z_wt X M ∧ z_tp X M ∧ z_pl NC X
/-! ===== THE WAY: what a table holds ===== -/
/-- up to k takings, each of P POINTS and weight w, ahead of what R says of the rest -/
def z_B (R : Nat → Nat) (P w : Nat) : Nat → Nat → Nat
  | 0, n => R n
  | k + 1, n => min (z_B R P w k n) (R (n - (k + 1) * P) + (k + 1) * w)
/-- the least weight of n POINTS with the last d of O OFFERS, a coin weighing K -/
def z_D (K : Nat) (G : z_G) (O : Nat) : Nat → Nat → Nat
  | 0, n => if n = 0 then 0 else 1000000000
  | d + 1, n => z_B (z_D K G O d) (G 29 (O - (d + 1))) (K * G 28 (O - (d + 1)) + 1) (G 30 (O - (d + 1))) n
/-- what one taking weighs with the class: COINS, then takings, then what is left of 9 -/
def zw_W (G : z_G) (o : Nat) : Nat := 1099511627776 * G 28 o + (4294967296 - 16 ^ (7 - o))
/-- the class's row of best WAYS with the first d OFFERS -/
def zw_F (G : z_G) : Nat → Nat → Nat
  | 0, n => if n = 0 then 2576980377 else 4611686018427387904
  | d + 1, n => z_B (zw_F G d) (G 29 d) (zw_W G d) (G 30 d) n
def z_wy (X : x_M) (G : z_G) : Prop := X 78 1 = -1 ∨ ∃ n, n ≤ 3000 ∧ X 78 1 = nI n ∧ ∀ p, p ≤ n → x_jg (X 79) p = lN (zw_F G (G 27 3) p)
def z_R (NC : Nat) (X M : x_M) (G H : z_G) (Cd Ch : Nat → Nat → List Int32) : Prop := z_cl NC X 0 (M 1) G Cd ∧ z_rs NC X M H Ch ∧ z_wy X G
def z_E (NC : Nat) (fx fm : Option (Int32 × x_M)) : Prop := ∃ (r : Int32) (X' M' : x_M) (G' H' : z_G) (Cd' Ch' : Nat → Nat → List Int32), fx = some (r, X') ∧ fm = some (r, M') ∧ z_R NC X' M' G' H' Cd' Ch'
theorem z_same {NC : Nat} {X M : x_M} {G H : z_G} {Cd Ch : Nat → Nat → List Int32} {r : Int32} (R : z_R NC X M G H Cd Ch) : z_E NC (some (r, X)) (some (r, M)) := ⟨r, X, M, G, H, Cd, Ch, rfl, rfl, R⟩
/-! ===== frames ===== -/
theorem z_code_fr {X X' : x_M} {r : Nat} {cd : Nat → List Int32} (h : z_code X r cd) (h1 : X' r = X r) (h2 : X' (r + 1) = X (r + 1)) : z_code X' r cd := by
  unfold z_code at h ⊢
  rw [h1, h2]
  exact h
theorem z_ter_fr {NC o : Nat} {X X' : x_M} {s s' : Nat → Int32} {G G' : z_G} {Cd : Nat → Nat → List Int32} (h : z_ter NC X o s G Cd) (hX : ∀ k, k = 17 + o ∨ 88 ≤ k → X' k = X k) (hs : ∀ p, 1050 ≤ p → p < 5298 → s' p = s p) (hG : G' 16 2 = G 16 2) (hG2 : ∀ i, G' 34 i = G 34 i) (h4 : G 16 2 ≤ 4) (hlen : ∀ i, i < G 16 2 → ∀ w, w < 4 → (Cd i w).length ≤ 132) : z_ter NC X' o s' G' Cd := by
  unfold z_ter at h ⊢
  rw [hX _ (Or.inl rfl), hG]
  refine ⟨h.1, fun i hi => ?_⟩
  obtain ⟨h1, h2, h3, h5, r, h6, h7, h8, h9⟩ := h.2 i hi
  rw [hG2]
  refine ⟨h1, ?_, ?_, h5, r, h6, h7, ?_, ?_⟩
  · rw [hs _ (by omega) (by omega)]
    exact h2
  · intro w hw
    obtain ⟨g1, g2⟩ := h3 w hw
    have hl := hlen i hi w hw
    refine ⟨by rw [hs _ (by omega) (by omega)]; exact g1, fun j hj => ?_⟩
    rw [hs _ (by omega) (by omega), hs _ (by omega) (by omega)]
    exact g2 j hj
  · unfold z_tk at h7
    rw [hX _ (Or.inr (by omega))]
    exact h8
  · unfold z_tk at h7
    exact z_code_fr h9 (hX _ (Or.inr (by omega))) (hX _ (Or.inr (by omega)))
theorem z_ter_len {NC o : Nat} {X : x_M} {s : Nat → Int32} {G : z_G} {Cd : Nat → Nat → List Int32} (h : z_ter NC X o s G Cd) : ∀ i, i < G 16 2 → ∀ w, w < 4 → (Cd i w).length ≤ 132 := by
  intro i hi w hw
  obtain ⟨-, -, -, -, r, -, -, -, h9⟩ := h.2 i hi
  have h1 := h9.2.1
  rcases (show w = 0 ∨ w = 1 ∨ w = 2 ∨ w = 3 by omega) with rfl | rfl | rfl | rfl <;> simp only [z_beg] at h1 <;> omega
theorem z_cl_fr {NC o : Nat} {X X' : x_M} {s s' : Nat → Int32} {G : z_G} {Cd : Nat → Nat → List Int32} (h : z_cl NC X o s G Cd) (hX : ∀ k, (1 + o ≤ k ∧ k ≤ 33 + o) ∨ 88 ≤ k → X' k = X k) (hs : ∀ p, p < 5512 → s' p = s p) : z_cl NC X' o s' G Cd := by
  obtain ⟨h1, h2, h3, h4, h5⟩ := h
  refine ⟨z_cr_fr h1 (fun k i hb => ?_) (fun p hp _ => hs p hp), h2, fun i hi => ?_, fun i hi => ?_, ?_⟩
  · unfold z_bd z_okS at hb
    rw [hX _ (Or.inl (by omega))]
  · rw [hX _ (Or.inl (by omega))]
    exact h3 i hi
  · have h6 : G 18 9 ≤ 30 := h2.1.2.2.2.2.2.1
    rw [hs _ (by omega)]
    exact h4 i hi
  · have h6 : G 16 2 ≤ 4 := h2.1.2.2.2.1
    refine z_ter_fr h5 (fun k hk => hX k ?_) (fun p _ hp => hs p (by omega)) rfl (fun _ => rfl) h6 (z_ter_len h5)
    omega
theorem z_rs_fr {NC : Nat} {X X' M M' : x_M} {H : z_G} {Ch : Nat → Nat → List Int32} (h : z_rs NC X M H Ch) (hX : ∀ k, k = 0 ∨ 34 ≤ k → X' k = X k) (hM : ∀ k, k ≠ 1 → M' k = M k) : z_rs NC X' M' H Ch := by
  obtain ⟨⟨h1, h2⟩, h3, h4, h5, h6⟩ := h
  refine ⟨⟨?_, ?_⟩, ?_, ?_, ?_, ?_⟩
  · rw [hX 0 (Or.inl rfl), hM 0 (by decide)]
    exact h1
  · rw [hM 0 (by decide), hM 2 (by decide)]
    rcases h2 with h2 | ⟨h2, h7⟩
    · exact Or.inl h2
    · exact Or.inr ⟨h2, z_cl_fr h7 (fun k hk => hX k (Or.inr (by omega))) (fun _ _ => rfl)⟩
  · unfold z_sh at h3 ⊢
    rw [hX 86 (Or.inr (by decide)), hX 87 (Or.inr (by decide)), hM 22 (by decide), hM 21 (by decide)]
    exact h3
  · unfold z_wt at h4 ⊢
    rw [hX 0 (Or.inl rfl), hX 84 (Or.inr (by decide)), hM 0 (by decide), hM 20 (by decide)]
    exact h4
  · unfold z_tp at h5 ⊢
    rw [hX 80 (Or.inr (by decide)), hX 81 (Or.inr (by decide)), hM 0 (by decide), hM 3 (by decide)]
    exact h5
  · obtain ⟨g1, g2, g3, g4, g5, g6⟩ := h6
    exact ⟨g1, g2, g3, by rw [hX 88 (Or.inr (by decide))]; exact g4, z_code_fr g5 (hX 89 (Or.inr (by decide))) (hX 90 (Or.inr (by decide))), by rw [hX 50 (Or.inr (by decide))]; exact g6⟩
theorem z_pl_fr {NC : Nat} {X X' : x_M} (h : z_pl NC X) (hX : ∀ k, k = 50 ∨ 88 ≤ k → X' k = X k) : z_pl NC X' := by
  obtain ⟨g1, g2, g3, g4, g5, g6⟩ := h
  exact ⟨g1, g2, g3, by rw [hX 88 (Or.inr (by decide))]; exact g4, z_code_fr g5 (hX 89 (Or.inr (by decide))) (hX 90 (Or.inr (by decide))), by rw [hX 50 (Or.inl rfl)]; exact g6⟩
theorem z_sh_fr {X X' M M' : x_M} (h : z_sh X M) (h1 : X' 86 = X 86) (h2 : X' 87 = X 87) (h3 : M' 21 = M 21) (h4 : M' 22 = M 22) : z_sh X' M' := by
  unfold z_sh at h ⊢
  rw [h1, h2, h3, h4]
  exact h
theorem z_wt_fr {X X' M M' : x_M} (h : z_wt X M) (h1 : X' 0 9 = X 0 9) (h2 : X' 84 = X 84) (h3 : M' 0 35 = M 0 35) (h4 : M' 20 = M 20) : z_wt X' M' := by
  unfold z_wt at h ⊢
  rw [h1, h2, h3, h4]
  exact h
theorem z_tp_fr {X X' M M' : x_M} (h : z_tp X M) (h1 : X' 80 3 = X 80 3) (h2 : X' 81 = X 81) (h3 : M' 0 4 = M 0 4) (h4 : M' 3 = M 3) : z_tp X' M' := by
  unfold z_tp at h ⊢
  rw [h1, h2, h3, h4]
  exact h
theorem z_rs_fr2 {NC : Nat} {X X' M M' : x_M} {H : z_G} {Ch : Nat → Nat → List Int32} (h : z_rs NC X M H Ch) (hX : ∀ k, (34 ≤ k ∧ k ≤ 66) ∨ 88 ≤ k → X' k = X k) (hM2 : M' 2 = M 2) (h10 : X' 0 10 = X 0 10) (h02 : M' 0 2 = M 0 2) (sh : z_sh X' M') (wt : z_wt X' M') (tp : z_tp X' M') : z_rs NC X' M' H Ch := by
  obtain ⟨⟨h1, h2⟩, h3, h4, h5, h6⟩ := h
  refine ⟨⟨by rw [h10, h02]; exact h1, ?_⟩, sh, wt, tp, z_pl_fr h6 (fun k hk => hX k (by omega))⟩
  rw [h02, hM2]
  rcases h2 with h2 | ⟨h2, h7⟩
  · exact Or.inl h2
  · exact Or.inr ⟨h2, z_cl_fr h7 (fun k hk => hX k (by omega)) (fun _ _ => rfl)⟩
