/-! ===== the start, and all calls ===== -/
def z_G0 : z_G := fun k i => if k = 31 then (if i = 0 then 30 else if i = 1 then 90 else 60) else if k = 32 then 10 else if k = 33 then 8 else 0
def z_Rl : Nat → x_M → x_M → Prop := fun NC X M => ∃ (G H : z_G) (Cd Ch : Nat → Nat → List Int32), z_R NC X M G H Cd Ch
theorem z_cr0 : z_cr (z_ok z_G0) y_X0 0 (y_M0 1) z_G0 := by
  intro k i h
  have h : z_okS 0 0 0 0 0 k i := h
  unfold z_okS at h
  rcases h with ⟨rfl, rfl⟩ | ⟨rfl, rfl⟩ | h | ⟨rfl, rfl⟩ | h | ⟨rfl, rfl⟩ | ⟨rfl, rfl | rfl⟩ | h | h | ⟨rfl, rfl⟩ | h | ⟨rfl, h⟩ | ⟨h1, h2, h3, h4⟩
  · exact ⟨by unfold z_bd z_okS; decide, rfl, rfl⟩
  · exact ⟨by unfold z_bd z_okS; decide, rfl, rfl⟩
  · exact absurd h.2.2 (Nat.not_lt_zero _)
  · exact ⟨by unfold z_bd z_okS; decide, rfl, rfl⟩
  · exact absurd h.2.2 (Nat.not_lt_zero _)
  · exact ⟨by unfold z_bd z_okS; decide, rfl, rfl⟩
  · exact ⟨by unfold z_bd z_okS; decide, rfl, rfl⟩
  · exact ⟨by unfold z_bd z_okS; decide, rfl, rfl⟩
  · exact absurd h.2.2 (Nat.not_lt_zero _)
  · exact absurd h.2.2 (Nat.not_lt_zero _)
  · exact ⟨by unfold z_bd z_okS; decide, rfl, rfl⟩
  · exact absurd h.2.2 (Nat.not_lt_zero _)
  · rcases (show i = 0 ∨ i = 1 ∨ i = 2 by omega) with rfl | rfl | rfl
    · exact ⟨by unfold z_bd z_okS; decide, rfl, rfl⟩
    · exact ⟨by unfold z_bd z_okS; decide, rfl, rfl⟩
    · exact ⟨by unfold z_bd z_okS; decide, rfl, rfl⟩
  · rcases (show k = 32 ∨ k = 33 by omega) with rfl | rfl
    · rcases (show i = 1 ∨ i = 2 ∨ i = 3 by omega) with rfl | rfl | rfl
      · exact ⟨by unfold z_bd z_okS; decide, rfl, rfl⟩
      · exact ⟨by unfold z_bd z_okS; decide, rfl, rfl⟩
      · exact ⟨by unfold z_bd z_okS; decide, rfl, rfl⟩
    · rcases (show i = 1 ∨ i = 2 ∨ i = 3 by omega) with rfl | rfl | rfl
      · exact ⟨by unfold z_bd z_okS; decide, rfl, rfl⟩
      · exact ⟨by unfold z_bd z_okS; decide, rfl, rfl⟩
      · exact ⟨by unfold z_bd z_okS; decide, rfl, rfl⟩
theorem z_code0 : z_code y_X0 89 z_cdp := by
  refine ⟨rfl, by decide, fun w hw => ?_⟩
  rcases (show w = 0 ∨ w = 1 ∨ w = 2 ∨ w = 3 by omega) with rfl | rfl | rfl | rfl
  · refine ⟨rfl, fun j hj => ?_⟩
    obtain rfl : j = 0 := by
      have hj : j < 1 := hj
      omega
    rfl
  · refine ⟨rfl, fun j hj => ?_⟩
    obtain rfl : j = 0 := by
      have hj : j < 1 := hj
      omega
    rfl
  · refine ⟨rfl, fun j hj => ?_⟩
    obtain rfl : j = 0 := by
      have hj : j < 1 := hj
      omega
    rfl
  · refine ⟨rfl, fun j hj => ?_⟩
    obtain rfl : j = 0 := by
      have hj : j < 1 := hj
      omega
    rfl
theorem z_R0 : z_Rl 94 y_X0 y_M0 := by
  refine ⟨z_G0, z_G0, fun _ _ => [], fun _ _ => [], ⟨z_cr0, ⟨?_, fun i _ _ => ?_, fun i hi => absurd hi (Nat.not_lt_zero i), fun i hi => absurd hi (Nat.not_lt_zero i), fun i hi => absurd hi (Nat.not_lt_zero i), fun i hi => absurd hi (Nat.not_lt_zero i), fun i hi => absurd hi (Nat.not_lt_zero i)⟩, fun i hi => absurd hi (Nat.not_lt_zero i), fun i hi => absurd hi (Nat.not_lt_zero i), fun i => Or.inl rfl, fun i hi => absurd hi (Nat.not_lt_zero i)⟩, ⟨⟨rfl, Or.inl rfl⟩, ⟨fun j _ => ?_, fun i hi => ?_⟩, ⟨0, by omega, rfl, rfl, fun i hi => absurd hi (Nat.not_lt_zero i)⟩, ⟨0, by omega, rfl, rfl, fun i hi => absurd hi (Nat.not_lt_zero i)⟩, by omega, by omega, by omega, rfl, z_code0, fun i => Or.inl rfl⟩, Or.inl rfl⟩
  · show 0 ≤ 1200 ∧ 0 ≤ 10 ∧ 0 ≤ 100 ∧ 0 ≤ 4 ∧ 0 ≤ 8 ∧ 0 ≤ 30 ∧ 0 ≤ 8 ∧ 30 ≤ 360 ∧ 1 ≤ 90 ∧ 90 ≤ 999 ∧ 60 ≤ 999
    omega
  · show 10 ≤ 999 ∧ 8 ≤ 999
    omega
  · show (0 : Int32) = (0 : Int32).toInt16.toInt32
    decide
  · rcases (show i = 0 ∨ i = 1 by omega) with rfl | rfl
    · exact ⟨rfl, Or.inl rfl⟩
    · exact ⟨rfl, Or.inl rfl⟩
theorem z_H_member : y_H_member z_Rl := by
  intro NC X M a1 a2 hR
  obtain ⟨G, H, Cd, Ch, R⟩ := hR
  obtain ⟨r, X', M', G', H', Cd', Ch', h1, h2, h3⟩ := e_member R a1 a2
  exact ⟨r, X', M', h1, h2, G', H', Cd', Ch', h3⟩
theorem z_H_is : y_H_is z_Rl := by
  intro NC X M a1 a2 hR
  obtain ⟨G, H, Cd, Ch, R⟩ := hR
  obtain ⟨r, X', M', G', H', Cd', Ch', h1, h2, h3⟩ := e_is R a1 a2
  exact ⟨r, X', M', h1, h2, G', H', Cd', Ch', h3⟩
theorem z_H_pool : y_H_pool z_Rl := by
  intro NC X M a1 a2 hR
  obtain ⟨G, H, Cd, Ch, R⟩ := hR
  obtain ⟨r, X', M', G', H', Cd', Ch', h1, h2, h3⟩ := e_pool R a1 a2
  exact ⟨r, X', M', h1, h2, G', H', Cd', Ch', h3⟩
theorem z_H_marks : y_H_marks z_Rl := by
  intro NC X M a1 a2 hR
  obtain ⟨G, H, Cd, Ch, R⟩ := hR
  obtain ⟨r, X', M', G', H', Cd', Ch', h1, h2, h3⟩ := e_marks R a1 a2
  exact ⟨r, X', M', h1, h2, G', H', Cd', Ch', h3⟩
theorem z_H_lay : y_H_lay z_Rl := by
  intro NC X M a1 hR
  obtain ⟨G, H, Cd, Ch, R⟩ := hR
  obtain ⟨r, X', M', G', H', Cd', Ch', h1, h2, h3⟩ := e_lay R a1
  exact ⟨r, X', M', h1, h2, G', H', Cd', Ch', h3⟩
theorem z_H_days : y_H_days z_Rl := by
  intro NC X M a1 hR
  obtain ⟨G, H, Cd, Ch, R⟩ := hR
  obtain ⟨r, X', M', G', H', Cd', Ch', h1, h2, h3⟩ := e_days R a1
  exact ⟨r, X', M', h1, h2, G', H', Cd', Ch', h3⟩
theorem z_H_rule : y_H_rule z_Rl := by
  intro NC X M a1 a2 hR
  obtain ⟨G, H, Cd, Ch, R⟩ := hR
  obtain ⟨r, X', M', G', H', Cd', Ch', h1, h2, h3⟩ := e_rule R a1 a2
  exact ⟨r, X', M', h1, h2, G', H', Cd', Ch', h3⟩
theorem z_H_fly : y_H_fly z_Rl := by
  intro NC X M a1 a2 a3 a4 a5 hR
  obtain ⟨G, H, Cd, Ch, R⟩ := hR
  obtain ⟨r, X', M', G', H', Cd', Ch', h1, h2, h3⟩ := e_fly R a1 a2 a3 a4 a5
  exact ⟨r, X', M', h1, h2, G', H', Cd', Ch', h3⟩
theorem z_H_spend : y_H_spend z_Rl := by
  intro NC X M a1 a2 a3 a4 hR
  obtain ⟨G, H, Cd, Ch, R⟩ := hR
  obtain ⟨r, X', M', G', H', Cd', Ch', h1, h2, h3⟩ := e_spend R a1 a2 a3 a4
  exact ⟨r, X', M', h1, h2, G', H', Cd', Ch', h3⟩
theorem z_H_gift : y_H_gift z_Rl := by
  intro NC X M a1 a2 a3 a4 hR
  obtain ⟨G, H, Cd, Ch, R⟩ := hR
  obtain ⟨r, X', M', G', H', Cd', Ch', h1, h2, h3⟩ := e_gift R a1 a2 a3 a4
  exact ⟨r, X', M', h1, h2, G', H', Cd', Ch', h3⟩
theorem z_H_back : y_H_back z_Rl := by
  intro NC X M a1 a2 hR
  obtain ⟨G, H, Cd, Ch, R⟩ := hR
  obtain ⟨r, X', M', G', H', Cd', Ch', h1, h2, h3⟩ := e_back R a1 a2
  exact ⟨r, X', M', h1, h2, G', H', Cd', Ch', h3⟩
theorem z_H_withdraw : y_H_withdraw z_Rl := by
  intro NC X M a1 hR
  obtain ⟨G, H, Cd, Ch, R⟩ := hR
  obtain ⟨r, X', M', G', H', Cd', Ch', h1, h2, h3⟩ := e_withdraw R a1
  exact ⟨r, X', M', h1, h2, G', H', Cd', Ch', h3⟩
theorem z_H_line : y_H_line z_Rl := by
  intro NC X M a1 a2 hR
  obtain ⟨G, H, Cd, Ch, R⟩ := hR
  obtain ⟨r, X', M', G', H', Cd', Ch', h1, h2, h3⟩ := e_line R a1 a2
  exact ⟨r, X', M', h1, h2, G', H', Cd', Ch', h3⟩
theorem z_H_stands : y_H_stands z_Rl := by
  intro NC X M a1 a2 a3 a4 hR
  obtain ⟨G, H, Cd, Ch, R⟩ := hR
  obtain ⟨r, X', M', G', H', Cd', Ch', h1, h2, h3⟩ := e_stands R a1 a2 a3 a4
  exact ⟨r, X', M', h1, h2, G', H', Cd', Ch', h3⟩
theorem z_H_brought : y_H_brought z_Rl := by
  intro NC X M a1 a2 a3 hR
  obtain ⟨G, H, Cd, Ch, R⟩ := hR
  obtain ⟨r, X', M', G', H', Cd', Ch', h1, h2, h3⟩ := e_brought R a1 a2 a3
  exact ⟨r, X', M', h1, h2, G', H', Cd', Ch', h3⟩
theorem z_H_owes : y_H_owes z_Rl := by
  intro NC X M a1 a2 a3 hR
  obtain ⟨G, H, Cd, Ch, R⟩ := hR
  obtain ⟨r, X', M', G', H', Cd', Ch', h1, h2, h3⟩ := e_owes R a1 a2 a3
  exact ⟨r, X', M', h1, h2, G', H', Cd', Ch', h3⟩
theorem z_H_rate : y_H_rate z_Rl := by
  intro NC X M a1 a2 a3 hR
  obtain ⟨G, H, Cd, Ch, R⟩ := hR
  obtain ⟨r, X', M', G', H', Cd', Ch', h1, h2, h3⟩ := e_rate R a1 a2 a3
  exact ⟨r, X', M', h1, h2, G', H', Cd', Ch', h3⟩
theorem z_H_feed : y_H_feed z_Rl := by
  intro NC X M a1 a2 a3 hR
  obtain ⟨G, H, Cd, Ch, R⟩ := hR
  obtain ⟨r, X', M', G', H', Cd', Ch', h1, h2, h3⟩ := e_feed R a1 a2 a3
  exact ⟨r, X', M', h1, h2, G', H', Cd', Ch', h3⟩
theorem z_H_trim : y_H_trim z_Rl := by
  intro NC X M a1 hR
  obtain ⟨G, H, Cd, Ch, R⟩ := hR
  obtain ⟨r, X', M', G', H', Cd', Ch', h1, h2, h3⟩ := e_trim R a1
  exact ⟨r, X', M', h1, h2, G', H', Cd', Ch', h3⟩
theorem z_H_terms : y_H_terms z_Rl := by
  intro NC X M a1 hR hN
  obtain ⟨G, H, Cd, Ch, R⟩ := hR
  obtain ⟨r, NC', X', M', G', Cd', h1, h2, h3, h4⟩ := e_terms R hN a1
  exact ⟨r, NC', X', M', h1, h2, h3, G', H, Cd', Ch, h4⟩
theorem z_H_flight : y_H_flight z_Rl := by
  intro NC X M a1 a2 a3 a4 hR
  obtain ⟨G, H, Cd, Ch, R⟩ := hR
  obtain ⟨r, X', M', G', H', Cd', Ch', h1, h2, h3⟩ := e_flight R a1 a2 a3 a4
  exact ⟨r, X', M', h1, h2, G', H', Cd', Ch', h3⟩
theorem z_H_ask : y_H_ask z_Rl := by
  intro NC X M a1 a2 a3 hR
  obtain ⟨G, H, Cd, Ch, R⟩ := hR
  obtain ⟨r, X', M', G', H', Cd', Ch', h1, h2, h3⟩ := e_ask R a1 a2 a3
  exact ⟨r, X', M', h1, h2, G', H', Cd', Ch', h3⟩
theorem z_H_settle : y_H_settle z_Rl := by
  intro NC X M a1 hR
  obtain ⟨G, H, Cd, Ch, R⟩ := hR
  obtain ⟨r, X', M', G', H', Cd', Ch', h1, h2, h3⟩ := e_settle R a1
  exact ⟨r, X', M', h1, h2, G', H', Cd', Ch', h3⟩
theorem z_H_asked : y_H_asked z_Rl := by
  intro NC X M a1 a2 hR
  obtain ⟨G, H, Cd, Ch, R⟩ := hR
  obtain ⟨r, X', M', G', H', Cd', Ch', h1, h2, h3⟩ := e_asked R a1 a2
  exact ⟨r, X', M', h1, h2, G', H', Cd', Ch', h3⟩
theorem z_H_open : y_H_open z_Rl := by
  intro NC X M a1 hR
  obtain ⟨G, H, Cd, Ch, R⟩ := hR
  obtain ⟨r, X', M', G', H', Cd', Ch', h1, h2, h3⟩ := e_open R a1
  exact ⟨r, X', M', h1, h2, G', H', Cd', Ch', h3⟩
theorem z_H_offer : y_H_offer z_Rl := by
  intro NC X M a1 a2 a3 hR
  obtain ⟨G, H, Cd, Ch, R⟩ := hR
  obtain ⟨r, X', M', G', H', Cd', Ch', h1, h2, h3⟩ := e_offer R a1 a2 a3
  exact ⟨r, X', M', h1, h2, G', H', Cd', Ch', h3⟩
theorem z_H_clear : y_H_clear z_Rl := by
  intro NC X M hR
  obtain ⟨G, H, Cd, Ch, R⟩ := hR
  obtain ⟨r, X', M', G', H', Cd', Ch', h1, h2, h3⟩ := e_clear R
  exact ⟨r, X', M', h1, h2, G', H', Cd', Ch', h3⟩
theorem z_H_way : y_H_way z_Rl := by
  intro NC X M a1 hR
  obtain ⟨G, H, Cd, Ch, R⟩ := hR
  obtain ⟨r, X', M', G', H', Cd', Ch', h1, h2, h3⟩ := e_way R a1
  exact ⟨r, X', M', h1, h2, G', H', Cd', Ch', h3⟩
theorem z_H_taken : y_H_taken z_Rl := by
  intro NC X M a1 a2 hR
  obtain ⟨G, H, Cd, Ch, R⟩ := hR
  obtain ⟨r, X', M', G', H', Cd', Ch', h1, h2, h3⟩ := e_taken R a1 a2
  exact ⟨r, X', M', h1, h2, G', H', Cd', Ch', h3⟩
theorem z_H_tell : y_H_tell z_Rl := by
  intro NC X M a1 hR
  obtain ⟨G, H, Cd, Ch, R⟩ := hR
  obtain ⟨r, X', M', G', H', Cd', Ch', h1, h2, h3⟩ := e_tell R a1
  exact ⟨r, X', M', h1, h2, G', H', Cd', Ch', h3⟩
theorem z_H_check : y_H_check z_Rl := by
  intro NC X M a1 hR
  obtain ⟨G, H, Cd, Ch, R⟩ := hR
  obtain ⟨r, X', M', G', H', Cd', Ch', h1, h2, h3⟩ := e_check R a1
  exact ⟨r, X', M', h1, h2, G', H', Cd', Ch', h3⟩
theorem z_H_ring : y_H_ring z_Rl := by
  intro NC X M a1 hR
  obtain ⟨G, H, Cd, Ch, R⟩ := hR
  obtain ⟨r, X', M', G', H', Cd', Ch', h1, h2, h3⟩ := e_ring R a1
  exact ⟨r, X', M', h1, h2, G', H', Cd', Ch', h3⟩
theorem z_H_keep : y_H_keep z_Rl := by
  intro NC X M hR
  obtain ⟨G, H, Cd, Ch, R⟩ := hR
  obtain ⟨r, X', M', G', H', Cd', Ch', h1, h2, h3⟩ := e_keep R
  exact ⟨r, X', M', h1, h2, G', H', Cd', Ch', h3⟩
theorem z_H_again : y_H_again z_Rl := by
  intro NC X M hR
  obtain ⟨G, H, Cd, Ch, R⟩ := hR
  obtain ⟨r, X', M', G', H', Cd', Ch', h1, h2, h3⟩ := e_again R
  exact ⟨r, X', M', h1, h2, G', H', Cd', Ch', h3⟩
theorem z_H_sheet : y_H_sheet z_Rl := by
  intro NC X M a1 a2 hR
  obtain ⟨G, H, Cd, Ch, R⟩ := hR
  obtain ⟨r, X', M', G', H', Cd', Ch', h1, h2, h3⟩ := e_sheet R a1 a2
  exact ⟨r, X', M', h1, h2, G', H', Cd', Ch', h3⟩
theorem z_H_mark : y_H_mark z_Rl := by
  intro NC X M a1 a2 a3 hR
  obtain ⟨G, H, Cd, Ch, R⟩ := hR
  obtain ⟨r, X', M', G', H', Cd', Ch', h1, h2, h3⟩ := e_mark R a1 a2 a3
  exact ⟨r, X', M', h1, h2, G', H', Cd', Ch', h3⟩
theorem z_H_copy : y_H_copy z_Rl := by
  intro NC X M a1 a2 a3 a4 a5 hR
  obtain ⟨G, H, Cd, Ch, R⟩ := hR
  obtain ⟨r, X', M', G', H', Cd', Ch', h1, h2, h3⟩ := e_copy R a1 a2 a3 a4 a5
  exact ⟨r, X', M', h1, h2, G', H', Cd', Ch', h3⟩
theorem z_H_count : y_H_count z_Rl := by
  intro NC X M a1 hR
  obtain ⟨G, H, Cd, Ch, R⟩ := hR
  obtain ⟨r, X', M', G', H', Cd', Ch', h1, h2, h3⟩ := e_count R a1
  exact ⟨r, X', M', h1, h2, G', H', Cd', Ch', h3⟩
theorem z_H : y_H z_Rl := ⟨z_H_member, z_H_is, z_H_pool, z_H_marks, z_H_lay, z_H_days, z_H_rule, z_H_fly, z_H_spend, z_H_gift, z_H_back, z_H_withdraw, z_H_line, z_H_stands, z_H_brought, z_H_owes, z_H_rate, z_H_feed, z_H_trim, z_H_terms, z_H_flight, z_H_ask, z_H_settle, z_H_asked, z_H_open, z_H_offer, z_H_clear, z_H_way, z_H_taken, z_H_tell, z_H_check, z_H_ring, z_H_keep, z_H_again, z_H_sheet, z_H_mark, z_H_copy, z_H_count, fun NC X M hR => by
  obtain ⟨G, H, Cd, Ch, R⟩ := hR
  exact ⟨R.2.1.2.2.2.2.1, R.2.1.2.2.2.2.2.2.1⟩⟩
