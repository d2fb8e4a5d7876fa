/-! ===== arrays of longs ===== -/
def x_rl {α : Type} (n : Nat) (row : Nat → Int32) (i : Int32) (K : Int64 → Option α) : Option α := if i < 0 ∨ n ≤ i.toNatClampNeg then none else K (x_jg row i.toNatClampNeg)
def x_wl {α : Type} (n : Nat) (M : x_M) (k : Nat) (i : Int32) (x : Int64) (K : x_M → Option α) : Option α := if i < 0 ∨ n ≤ i.toNatClampNeg then none else K (va_up M k (x_ju (M k) i.toNatClampNeg x))
theorem x_rl_some {α : Type} {n : Nat} {row : Nat → Int32} {i : Int32} {K : Int64 → Option α} {z : α} (h : x_rl n row i K = some z) : vp_in i n ∧ K (x_jg row i.toNatClampNeg) = some z := by
  unfold x_rl at h
  by_cases c : i < 0 ∨ n ≤ i.toNatClampNeg
  · rw [if_pos c] at h; cases h
  · rw [if_neg c] at h; exact ⟨c, h⟩
theorem x_wl_some {α : Type} {n : Nat} {M : x_M} {k : Nat} {i : Int32} {x : Int64} {K : x_M → Option α} {z : α} (h : x_wl n M k i x K = some z) : vp_in i n ∧ K (va_up M k (x_ju (M k) i.toNatClampNeg x)) = some z := by
  unfold x_wl at h
  by_cases c : i < 0 ∨ n ≤ i.toNatClampNeg
  · rw [if_pos c] at h; cases h
  · rw [if_neg c] at h; exact ⟨c, h⟩
section XL
variable {p : Program} {l : Launch} {e : Env} {R : Room} {s : State} {m : MethodId} {args : Array Value} {below : List Frame} {meth : Method} {c : Code} {H : Heap} {locs : List Loc} {cells slots : Nat} {Q : State → Prop} {cc : ByteArray} {nL pc : Nat} {own : String} {ls : Array Slot} {rest : List Value}
variable {D : va_G} {cy : Nat → ClassId} {q ad : Nat → Nat} {sp : Nat → x_K} {NC : Nat} {s0 : State} {M : x_M} {α : Type} {z : α}
theorem xh_lald (C : x_C p s m args c cc nL own D cy q NC s0) (hw : x_B D cy q ad sp NC s H locs M) {K : Int64 → Option α} (k n : Nat) {i : Int32} (h : x_rl n (M k) i K = some z) (hs : sp k = .inl (6, n)) (hk : k < NC) (hdg : decode cc pc = .ok (.laload, 1)) (kk : ∀ r, K r = some z → W p l e R s m args below meth c H locs cells slots Q (F0 m (pc + 1) ls (.long r :: rest))) : W p l e R s m args below meth c H locs cells slots Q (F0 m pc ls (.int i :: .ref (q k) :: rest)) :=
  va_lald C.1.1 C.1.2.1 C.2.1.1 hw.1 k 5 (by rw [x_w_get hk, hs]; rfl) rfl (x_rl_some h).1 hdg (kk _ (x_rl_some h).2)
theorem xh_last (C : x_C p s m args c cc nL own D cy q NC s0) (hw : x_B D cy q ad sp NC s H locs M) {K : x_M → Option α} (k n : Nat) {i : Int32} {x : Int64} (h : x_wl n M k i x K = some z) (hs : sp k = .inl (6, n)) (hk : k < NC) (hdg : decode cc pc = .ok (.lastore, 1)) (kk : ∀ (H1 : Heap) (locs1 : List Loc) (M1 : x_M), x_B D cy q ad sp NC s H1 locs1 M1 → K M1 = some z → W p l e R s m args below meth c H1 locs1 cells slots Q (F0 m (pc + 1) ls rest)) : W p l e R s m args below meth c H locs cells slots Q (F0 m pc ls (.long x :: .int i :: .ref (q k) :: rest)) := by
  obtain ⟨hin, h⟩ := x_wl_some h
  refine va_last C.1.1 C.1.2.1 C.2.1.1 hw.1 (x_CD C M) hw.2 k 5 (cA := cy 5) (n := n) (f := x_jg (M k)) (by rw [x_w_get hk, hs]; rfl) rfl hin hdg (fun H1 locs1 hP _ hS => kk H1 locs1 _ ⟨?_, hS⟩ h)
  have e1 : (Sum.inl (cy 5, n, .inr (.inl (vp_updL (x_jg (M k)) i.toNatClampNeg x))) : va_E) = x_E cy q ad (sp k) (x_ju (M k) i.toNatClampNeg x) := by rw [hs, ← x_jg_ju]; rfl
  rw [e1, x_w_set hk] at hP
  exact hP
end XL
