/-! ===== earn, lapse, price, tier ===== -/
def z_isw (B : Nat → Nat) (n s t : Nat) : Prop := z_ka B n s = 1 ∧ z_en B n s - s = (z_sb t).length ∧ ∀ i, i < (z_sb t).length → B (s + i) = (z_sb t).getD i 0
theorem z_chX {X : x_M} {t i : Nat} (ht : t < 17) (hi : i < (z_sb t).length) : f_J0_charAt_5068e X (nI t) (nI i) = some (nI ((z_sb t).getD i 0), X) := by
  have h6 := (z_sb_l t ht).2
  have h128 := (z_sb_g t ht i (by omega)).2
  have e1 : ((nI ((z_sb t).getD i 0) &&& nI 255).toUInt32 % 65536).toInt32 = nI ((z_sb t).getD i 0) := by
    rw [← z_by_lo _ h128]
    rw [z_by_let _ (by omega), z_by_lo _ h128]
  unfold f_J0_charAt_5068e f_J0_isLatin1_aae02 f_J1_charAt_3b067 f_J0_checkIndex_df160 f_J3_checkIndex_8e157 f_J3_checkIndex_8e157_16
  rw [z_cs ht, if_neg z_n10, z_cs ht, if_pos z_n00, z_bn, if_neg z_n10, z_cs ht, z_ls ht, if_neg (show ¬ nI i < 0 by rw [z_lt0 (by omega)]; exact id), if_pos (show nI i < nI (z_sb t).length by rw [z_lt (by omega) (by omega)]; exact hi), z_bn, z_bn, z_rs0 ht hi, z_bn, e1]
  unfold x_ch
  rw [if_pos ⟨by rw [z_0le (by omega)]; trivial, by rw [z_lt (by omega) (by omega)]; omega⟩]
theorem z_iwl {X : x_M} {B : Nat → Nat} {n s nb cnt pa ba t : Nat} {nm : Int32} {code : List Int32} (h : z_cX X B n s nb cnt pa ba nm code) (ht : t < 17) (hl : s + (z_sb t).length ≤ n) : ∀ (e i fu : Nat), (z_sb t).length = i + e → e < fu → ((∀ k, i ≤ k → k < (z_sb t).length → B (s + k) = (z_sb t).getD k 0) → f_X7_isWord_35 fu X (nI t) (nI i) = some (nI 1, X)) ∧ (¬ (∀ k, i ≤ k → k < (z_sb t).length → B (s + k) = (z_sb t).getD k 0) → f_X7_isWord_35 fu X (nI t) (nI i) = some (nI 0, X)) := by
  have h6 := (z_sb_l t ht).2
  have hn : n ≤ 132 := h.1.1
  intro e
  induction e with
  | zero =>
    intro i fu hi hfu
    obtain ⟨fu, rfl⟩ : ∃ a, fu = a + 1 := ⟨fu - 1, by omega⟩
    rw [f_X7_isWord_35_s, z_cs ht, z_len ht, z_bn, if_pos (by rw [z_le (by omega) (by omega)]; omega)]
    exact ⟨fun _ => rfl, fun q => absurd (fun k h1 h2 => by omega) q⟩
  | succ e ih =>
    intro i fu hi hfu
    obtain ⟨fu, rfl⟩ : ∃ a, fu = a + 1 := ⟨fu - 1, by omega⟩
    have h128 := (z_sb_g t ht i (by omega)).2
    obtain ⟨q1, q2⟩ := h.1.2.2 (s + i) (by omega)
    rw [f_X7_isWord_35_s, z_cs ht, z_len ht, z_bn, if_neg (by rw [z_le (by omega) (by omega)]; omega), z_gf, h.2.2.1, z_add, z_rd (by omega) (by omega), q2, z_cs ht, z_chX ht (by omega), z_bn, z_iby q1 h128]
    obtain ⟨i1, i2⟩ := ih (i + 1) fu (by omega) (by omega)
    by_cases c : B (s + i) = (z_sb t).getD i 0
    · rw [if_pos c, z_add]
      refine ⟨fun q => i1 (fun k h1 h2 => q k (by omega) h2), fun q => i2 (fun q' => q (fun k h1 h2 => ?_))⟩
      by_cases e1 : k = i
      · rw [e1]
        exact c
      · exact q' k (by omega) h2
    · rw [if_neg c]
      exact ⟨fun q => absurd (q i (Nat.le_refl _) (by omega)) c, fun _ => rfl⟩
theorem z_iswX {X : x_M} {B : Nat → Nat} {n s nb cnt pa ba t : Nat} {nm : Int32} {code : List Int32} (h : z_cX X B n s nb cnt pa ba nm code) (hnb : nb ≤ 1) (ht : t < 17) : (nb = 0 ∧ z_isw B n s t → f_X7_isWord X (nI t) = some (nI 1, X)) ∧ (¬ (nb = 0 ∧ z_isw B n s t) → f_X7_isWord X (nI t) = some (nI 0, X)) := by
  obtain ⟨⟨b1, b2, b3⟩, g1, g2, g3, g4, g5, -⟩ := id h
  have hkb := z_ka_b (B := B) (n := n) (p := s)
  have en := z_en_b (B := B) g1
  have h6 := (z_sb_l t ht).2
  unfold f_X7_isWord f_X7_isWord_31 z_isw
  rw [z_gf, g4, z_ieq (by omega) (by omega), z_gf, g5, z_ieq0 (by omega), z_gf, z_gf, g3, g2, z_cs ht, z_len ht, z_bn, z_sub en.1, z_ieq (by omega) (by omega)]
  by_cases c1 : z_ka B n s = 1
  · rw [if_pos c1]
    by_cases c2 : nb = 0
    · rw [if_pos c2]
      by_cases c3 : z_en B n s - s = (z_sb t).length
      · rw [if_pos c3]
        obtain ⟨i1, i2⟩ := z_iwl h ht (by omega) (z_sb t).length 0 x_FU (by omega) (by unfold x_FU; omega)
        exact ⟨fun q => i1 (fun k _ hk => q.2.2.2 k hk), fun q => i2 (fun q' => q ⟨c2, c1, c3, fun i hi => q' i (Nat.zero_le _) hi⟩)⟩
      · rw [if_neg c3]
        exact ⟨fun q => absurd q.2.2.1 c3, fun _ => rfl⟩
    · rw [if_neg c2]
      exact ⟨fun q => absurd q.1 c2, fun _ => rfl⟩
  · rw [if_neg c1]
    exact ⟨fun q => absurd q.2.1 c1, fun _ => rfl⟩
theorem z_ltM {M : x_M} {B : Nat → Nat} {n e p a : Nat} (h : z_bM M B n) (h6 : M 0 6 = nI e) (he : e ≤ n) (hp : p ≤ 200) (ha : 0 < a ∧ a < 128) : f_X12_isLetter M (nI p) (nI a) = some (if p < e ∧ B p = a then nI 1 else nI 0, M) := by
  obtain ⟨b1, b2, b3⟩ := h
  unfold f_X12_isLetter f_X12_isLetter_42
  rw [z_ieq0 (by omega), if_neg (by omega), z_gf, h6, z_ile (by omega) (by omega)]
  by_cases c : e ≤ p
  · rw [if_pos c, if_neg (by omega)]
  · obtain ⟨q1, q2⟩ := b3 p (by omega)
    rw [if_neg c, z_rd (by omega) (by omega), q2, z_ieq (by omega) (by omega)]
    by_cases c2 : B p = a
    · rw [if_pos c2, if_pos ⟨by omega, c2⟩]
    · rw [if_neg c2, if_neg (fun q => c2 q.2)]
/-- as the reference stands between two parts -/
def z_cW (M : x_M) (B : Nat → Nat) (n s cnt : Nat) : Prop := z_bM M B n ∧ s ≤ n ∧ M 0 5 = nI s ∧ M 0 6 = nI (z_en B n s) ∧ M 0 8 = nI (z_ka B n s) ∧ M 0 10 = nI 0 ∧ M 0 13 = nI cnt
theorem z_cW_c {M : x_M} {B : Nat → Nat} {n s cnt cl pa ba : Nat} {ft : Int32} {out : List Int32} {st : List Nat} (h : z_cM M B n s cnt cl pa ba 0 ft out st) : z_cW M B n s cnt := ⟨h.1, h.2.1, h.2.2.1, h.2.2.2.1, h.2.2.2.2.1, h.2.2.2.2.2.2.1, h.2.2.2.2.2.2.2.2.2.2.1⟩
def z_wP (B : Nat → Nat) (n s a b c d e : Nat) : Prop := z_ka B n s = 1 ∧ (s < z_en B n s ∧ B s = a) ∧ (s + 1 < z_en B n s ∧ B (s + 1) = b) ∧ (s + 2 < z_en B n s ∧ B (s + 2) = c) ∧ (s + 3 < z_en B n s ∧ B (s + 3) = d) ∧ ((e = 0 ∧ s + 4 = z_en B n s) ∨ (e ≠ 0 ∧ (s + 4 < z_en B n s ∧ B (s + 4) = e) ∧ z_en B n s = s + 5))
theorem z_iwM {M : x_M} {B : Nat → Nat} {n s cnt a b c d e : Nat} (h : z_cW M B n s cnt) (ha : 0 < a ∧ a < 128) (hb : 0 < b ∧ b < 128) (hc : 0 < c ∧ c < 128) (hd : 0 < d ∧ d < 128) (he : e < 128) : (z_wP B n s a b c d e → f_X12_isWord M (nI a) (nI b) (nI c) (nI d) (nI e) = some (nI 1, M)) ∧ (¬ z_wP B n s a b c d e → f_X12_isWord M (nI a) (nI b) (nI c) (nI d) (nI e) = some (nI 0, M)) := by
  obtain ⟨hb3, g1, g2, g3, g4, -⟩ := id h
  have hn := hb3.1
  have hkb := z_ka_b (B := B) (n := n) (p := s)
  have en := z_en_b (B := B) g1
  have r83 : f_X12_isWord_83 M (nI d) (nI e) = some (nI 0, M) := by
    unfold f_X12_isWord_83 f_X12_isWord_84 f_X12_isWord_133
    rw [if_pos z_n00]
  have r52 : f_X12_isWord_52 M (nI c) (nI d) (nI e) = some (nI 0, M) := by
    unfold f_X12_isWord_52 f_X12_isWord_53
    rw [if_pos z_n00, r83]
  unfold f_X12_isWord z_wP
  rw [r52, z_gf, g4, z_ieq (by omega) (by omega)]
  by_cases c1 : z_ka B n s = 1
  · rw [if_pos c1, z_gf, g2, z_ltM hb3 g3 en.2.1 (by omega) ha, z_bn]
    by_cases c2 : s < z_en B n s ∧ B s = a
    · rw [if_pos c2, if_neg z_n10, z_gf, g2, z_add, z_ltM hb3 g3 en.2.1 (by omega) hb, z_bn]
      by_cases c3 : s + 1 < z_en B n s ∧ B (s + 1) = b
      · rw [if_pos c3, if_neg z_n10, z_gf, g2, z_add, z_ltM hb3 g3 en.2.1 (by omega) hc, z_bn]
        by_cases c4 : s + 2 < z_en B n s ∧ B (s + 2) = c
        · unfold f_X12_isWord_53
          rw [if_pos c4, if_neg z_n10, if_neg z_n10, z_ieq0 (by omega), if_neg (by omega), z_gf, g2, z_add, z_ltM hb3 g3 en.2.1 (by omega) hd, z_bn, r83]
          by_cases c5 : s + 3 < z_en B n s ∧ B (s + 3) = d
          · unfold f_X12_isWord_79 f_X12_isWord_84 f_X12_isWord_111 f_X12_isWord_129 f_X12_isWord_133
            rw [if_pos c5, if_neg z_n10, if_neg z_n10, z_ieq0 (by omega), if_neg (by omega), z_gf, g2, z_add]
            by_cases c6 : e = 0
            · subst c6
              have el : f_X12_isLetter M (nI (s + 4)) (nI 0) = some (if s + 4 = z_en B n s then nI 1 else nI 0, M) := by
                unfold f_X12_isLetter
                rw [if_pos z_n00, z_gf, g3, z_ieq (by omega) (by omega)]
                by_cases q : s + 4 = z_en B n s
                · rw [if_pos q, if_pos q]
                · rw [if_neg q, if_neg q]
              rw [el, z_bn, if_pos z_n00]
              by_cases c7 : s + 4 = z_en B n s
              · rw [if_pos c7, if_neg z_n10]
                exact ⟨fun _ => rfl, fun q => absurd ⟨c1, c2, c3, c4, c5, Or.inl ⟨rfl, c7⟩⟩ q⟩
              · rw [if_neg c7, if_pos z_n00]
                exact ⟨fun q => by omega, fun _ => rfl⟩
            · rw [z_ltM hb3 g3 en.2.1 (by omega) (by omega), z_bn, z_ieq0 (by omega), if_neg c6, z_gf, z_gf, g3, g2, z_add, z_ieq (by omega) (by omega)]
              by_cases c7 : s + 4 < z_en B n s ∧ B (s + 4) = e
              · rw [if_pos c7, if_neg z_n10]
                by_cases c8 : z_en B n s = s + 5
                · rw [if_pos c8]
                  exact ⟨fun _ => rfl, fun q => absurd ⟨c1, c2, c3, c4, c5, Or.inr ⟨c6, c7, c8⟩⟩ q⟩
                · rw [if_neg c8]
                  exact ⟨fun q => by omega, fun _ => rfl⟩
              · rw [if_neg c7, if_pos z_n00]
                exact ⟨fun q => by
                  rcases q.2.2.2.2.2 with q | q
                  · exact absurd q.1 c6
                  · exact absurd q.2.1 c7, fun _ => rfl⟩
          · rw [if_neg c5, if_pos z_n00]
            exact ⟨fun q => absurd q.2.2.2.2.1 c5, fun _ => rfl⟩
        · rw [if_neg c4, if_pos z_n00]
          exact ⟨fun q => absurd q.2.2.2.1 c4, fun _ => rfl⟩
      · rw [if_neg c3, if_pos z_n00]
        exact ⟨fun q => absurd q.2.2.1 c3, fun _ => rfl⟩
    · rw [if_neg c2, if_pos z_n00]
      exact ⟨fun q => absurd q.2.1 c2, fun _ => rfl⟩
  · rw [if_neg c1]
    exact ⟨fun q => absurd q.1 c1, fun _ => rfl⟩
def z_wM (w : Nat) (M : x_M) : Option (Int32 × x_M) := if w = 0 then f_X12_isWord M (nI 101) (nI 97) (nI 114) (nI 110) (nI 0) else if w = 1 then f_X12_isWord M (nI 108) (nI 97) (nI 112) (nI 115) (nI 101) else if w = 2 then f_X12_isWord M (nI 112) (nI 114) (nI 105) (nI 99) (nI 101) else f_X12_isWord M (nI 116) (nI 105) (nI 101) (nI 114) (nI 0)
theorem z_w4 {B : Nat → Nat} {n s t a b c d : Nat} (ht : z_sb t = [a, b, c, d]) : z_isw B n s t ↔ z_wP B n s a b c d 0 := by
  unfold z_isw z_wP
  rw [ht]
  refine ⟨fun ⟨h1, h2, h3⟩ => ?_, fun h => ?_⟩
  · have h2 : z_en B n s - s = 4 := h2
    have q0 : B (s + 0) = a := h3 0 (by simp)
    have q1 : B (s + 1) = b := h3 1 (by simp)
    have q2 : B (s + 2) = c := h3 2 (by simp)
    have q3 : B (s + 3) = d := h3 3 (by simp)
    exact ⟨h1, ⟨by omega, q0⟩, ⟨by omega, q1⟩, ⟨by omega, q2⟩, ⟨by omega, q3⟩, Or.inl ⟨rfl, by omega⟩⟩
  · obtain ⟨h1, h2, h3, h4, h5, h6⟩ := h
    refine ⟨h1, by show z_en B n s - s = 4; omega, fun i hi => ?_⟩
    have hi : i < 4 := hi
    rcases (show i = 0 ∨ i = 1 ∨ i = 2 ∨ i = 3 by omega) with rfl | rfl | rfl | rfl
    · exact h2.2
    · exact h3.2
    · exact h4.2
    · exact h5.2
theorem z_w5 {B : Nat → Nat} {n s t a b c d e : Nat} (ht : z_sb t = [a, b, c, d, e]) (he : e ≠ 0) : z_isw B n s t ↔ z_wP B n s a b c d e := by
  unfold z_isw z_wP
  rw [ht]
  refine ⟨fun ⟨h1, h2, h3⟩ => ?_, fun h => ?_⟩
  · have h2 : z_en B n s - s = 5 := h2
    have q0 : B (s + 0) = a := h3 0 (by simp)
    have q1 : B (s + 1) = b := h3 1 (by simp)
    have q2 : B (s + 2) = c := h3 2 (by simp)
    have q3 : B (s + 3) = d := h3 3 (by simp)
    have q4 : B (s + 4) = e := h3 4 (by simp)
    exact ⟨h1, ⟨by omega, q0⟩, ⟨by omega, q1⟩, ⟨by omega, q2⟩, ⟨by omega, q3⟩, Or.inr ⟨he, ⟨by omega, q4⟩, by omega⟩⟩
  · obtain ⟨h1, h2, h3, h4, h5, h6⟩ := h
    have h7 : (s + 4 < z_en B n s ∧ B (s + 4) = e) ∧ z_en B n s = s + 5 := by
      rcases h6 with h6 | h6
      · exact absurd h6.1 he
      · exact h6.2
    refine ⟨h1, by show z_en B n s - s = 5; omega, fun i hi => ?_⟩
    have hi : i < 5 := hi
    rcases (show i = 0 ∨ i = 1 ∨ i = 2 ∨ i = 3 ∨ i = 4 by omega) with rfl | rfl | rfl | rfl | rfl
    · exact h2.2
    · exact h3.2
    · exact h4.2
    · exact h5.2
    · exact h7.1.2
theorem z_iswM {M : x_M} {B : Nat → Nat} {n s cnt w : Nat} (h : z_cW M B n s cnt) (hw : w < 4) : (z_isw B n s (1 + w) → z_wM w M = some (nI 1, M)) ∧ (¬ z_isw B n s (1 + w) → z_wM w M = some (nI 0, M)) := by
  rcases (show w = 0 ∨ w = 1 ∨ w = 2 ∨ w = 3 by omega) with rfl | rfl | rfl | rfl
  · have q := z_iwM (a := 101) (b := 97) (c := 114) (d := 110) (e := 0) h (by omega) (by omega) (by omega) (by omega) (by omega)
    rw [← z_w4 (t := 1) rfl] at q
    exact q
  · have q := z_iwM (a := 108) (b := 97) (c := 112) (d := 115) (e := 101) h (by omega) (by omega) (by omega) (by omega) (by omega)
    rw [← z_w5 (t := 2) rfl (by omega)] at q
    exact q
  · have q := z_iwM (a := 112) (b := 114) (c := 105) (d := 99) (e := 101) h (by omega) (by omega) (by omega) (by omega) (by omega)
    rw [← z_w5 (t := 3) rfl (by omega)] at q
    exact q
  · have q := z_iwM (a := 116) (b := 105) (c := 101) (d := 114) (e := 0) h (by omega) (by omega) (by omega) (by omega) (by omega)
    rw [← z_w4 (t := 4) rfl] at q
    exact q
/-- where a fault is known, a word is asked for in vain -/
theorem z_ltB {M : x_M} {s e : Nat} (h6 : M 0 6 = nI e) (he : e ≤ 132) (hs : s ≤ 200) {a : Nat} : ∃ r, f_X12_isLetter M (nI s) (nI a) = some (r, M) := by
  unfold f_X12_isLetter f_X12_isLetter_42
  by_cases c : nI a = 0
  · rw [if_pos c, z_gf, h6]
    split
    · exact ⟨_, rfl⟩
    · exact ⟨_, rfl⟩
  · rw [if_neg c, z_gf, h6, z_ile (by omega) (by omega)]
    by_cases c2 : e ≤ s
    · rw [if_pos c2]
      exact ⟨_, rfl⟩
    · rw [if_neg c2, z_rd (by omega) (by omega)]
      split
      · exact ⟨_, rfl⟩
      · exact ⟨_, rfl⟩
theorem z_iwB {M : x_M} (h : z_bd1 M) {a b c d e : Nat} : ∃ r, f_X12_isWord M (nI a) (nI b) (nI c) (nI d) (nI e) = some (r, M) := by
  obtain ⟨-, s, en, h5, h6, hs, he⟩ := h
  have r111 : ∃ r, f_X12_isWord_111 M (nI e) = some (r, M) := by
    unfold f_X12_isWord_111 f_X12_isWord_129 f_X12_isWord_133
    split
    · exact ⟨_, rfl⟩
    · rw [z_gf, z_gf]
      split
      · exact ⟨_, rfl⟩
      · exact ⟨_, rfl⟩
  have r84 : ∀ t0, ∃ r, f_X12_isWord_84 M (nI d) (nI e) t0 = some (r, M) := by
    intro t0
    unfold f_X12_isWord_84 f_X12_isWord_133
    split
    · exact ⟨_, rfl⟩
    · split
      · exact r111
      · obtain ⟨r, hr⟩ := z_ltB (a := e) h6 he (show s + 4 ≤ 200 by omega)
        rw [z_gf, h5, z_add, hr, z_bn]
        split
        · exact ⟨_, rfl⟩
        · exact r111
  have r53 : ∀ t0, ∃ r, f_X12_isWord_53 M (nI c) (nI d) (nI e) t0 = some (r, M) := by
    intro t0
    unfold f_X12_isWord_53 f_X12_isWord_83 f_X12_isWord_79
    split
    · exact r84 _
    · split
      · exact r84 _
      · obtain ⟨r, hr⟩ := z_ltB (a := d) h6 he (show s + 3 ≤ 200 by omega)
        rw [z_gf, h5, z_add, hr, z_bn]
        split
        · exact r84 _
        · exact r84 _
  have r52 : ∃ r, f_X12_isWord_52 M (nI c) (nI d) (nI e) = some (r, M) := r53 _
  unfold f_X12_isWord
  rw [z_gf]
  split
  · obtain ⟨r, hr⟩ := z_ltB (a := a) h6 he (show s ≤ 200 by omega)
    rw [z_gf, h5, hr, z_bn]
    split
    · exact r52
    · obtain ⟨r2, hr2⟩ := z_ltB (a := b) h6 he (show s + 1 ≤ 200 by omega)
      rw [z_gf, h5, z_add, hr2, z_bn]
      split
      · exact r52
      · obtain ⟨r3, hr3⟩ := z_ltB (a := c) h6 he (show s + 2 ≤ 200 by omega)
        rw [z_gf, h5, z_add, hr3, z_bn]
        split
        · exact r52
        · exact r53 _
  · exact r52
theorem z_wMB {M : x_M} (h : z_bd1 M) {w : Nat} : ∃ r, z_wM w M = some (r, M) := by
  unfold z_wM
  split
  · exact z_iwB h
  · split
    · exact z_iwB h
    · split
      · exact z_iwB h
      · exact z_iwB h
