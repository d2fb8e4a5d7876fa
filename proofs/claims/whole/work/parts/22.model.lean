def f_X12_stand_199 (k58 : x_M → Int32 → Int32 → Int32 → Int32 → Option (Unit × x_M)) (M : x_M) (v1 : Int32) (v2 : Int32) (v3 : Int32) (v4 : Int32) : Option (Unit × x_M) := k58 M v1 v2 v3 (v4 + (nI 1))
def f_X12_stand_187 (k58 : x_M → Int32 → Int32 → Int32 → Int32 → Option (Unit × x_M)) (M : x_M) (v1 : Int32) (v2 : Int32) (v3 : Int32) (v4 : Int32) (v5 : Int32) : Option (Unit × x_M) := x_wr 100 M 15 v5 v4 (fun M => f_X12_stand_199 k58 M v1 v2 (v3 + (nI 1)) v4)
def f_X12_stand_120 (k58 : x_M → Int32 → Int32 → Int32 → Int32 → Option (Unit × x_M)) : Nat → x_M → Int32 → Int32 → Int32 → Int32 → Int32 → Option (Unit × x_M)
  | 0, _, _, _, _, _, _ => none
  | n + 1, M, v1, v2, v3, v4, v5 => if v5 ≤ 0 then f_X12_stand_187 k58 M v1 v2 v3 v4 v5 else x_rd 100 (M 15) (v5 - (nI 1)) (fun r141 => x_rd 5512 (M 1) (((nI 50) + ((nI 10) * r141)) + (nI 2)) (fun r146 => x_rd 5512 (M 1) (((nI 50) + ((nI 10) * v4)) + (nI 2)) (fun r161 => if r146 ≤ r161 then f_X12_stand_187 k58 M v1 v2 v3 v4 v5 else x_rd 100 (M 15) (v5 - (nI 1)) (fun r179 => x_wr 100 M 15 v5 r179 (fun M => (f_X12_stand_120 k58 n) M v1 v2 v3 v4 (v5 + (-1)))))))
theorem f_X12_stand_120_0 (k58 : x_M → Int32 → Int32 → Int32 → Int32 → Option (Unit × x_M)) (M : x_M) (v1 : Int32) (v2 : Int32) (v3 : Int32) (v4 : Int32) (v5 : Int32) : f_X12_stand_120 k58 0 M v1 v2 v3 v4 v5 = none := rfl
theorem f_X12_stand_120_s (k58 : x_M → Int32 → Int32 → Int32 → Int32 → Option (Unit × x_M)) (n : Nat) (M : x_M) (v1 : Int32) (v2 : Int32) (v3 : Int32) (v4 : Int32) (v5 : Int32) : f_X12_stand_120 k58 (n + 1) M v1 v2 v3 v4 v5 = (if v5 ≤ 0 then f_X12_stand_187 k58 M v1 v2 v3 v4 v5 else x_rd 100 (M 15) (v5 - (nI 1)) (fun r141 => x_rd 5512 (M 1) (((nI 50) + ((nI 10) * r141)) + (nI 2)) (fun r146 => x_rd 5512 (M 1) (((nI 50) + ((nI 10) * v4)) + (nI 2)) (fun r161 => if r146 ≤ r161 then f_X12_stand_187 k58 M v1 v2 v3 v4 v5 else x_rd 100 (M 15) (v5 - (nI 1)) (fun r179 => x_wr 100 M 15 v5 r179 (fun M => (f_X12_stand_120 k58 n) M v1 v2 v3 v4 (v5 + (-1)))))))) := rfl
def f_X12_stand_208 : Nat → x_M → Int32 → Int32 → Option (Unit × x_M)
  | 0, _, _, _ => none
  | n + 1, M, v3, v4 => if v3 ≤ v4 then some ((), M) else x_rd 100 (M 15) v4 (fun r221 => x_bn (f_X12_happens M r221) (fun _ M => (f_X12_stand_208 n) M v3 (v4 + (nI 1))))
theorem f_X12_stand_208_0 (M : x_M) (v3 : Int32) (v4 : Int32) : f_X12_stand_208 0 M v3 v4 = none := rfl
theorem f_X12_stand_208_s (n : Nat) (M : x_M) (v3 : Int32) (v4 : Int32) : f_X12_stand_208 (n + 1) M v3 v4 = (if v3 ≤ v4 then some ((), M) else x_rd 100 (M 15) v4 (fun r221 => x_bn (f_X12_happens M r221) (fun _ M => (f_X12_stand_208 n) M v3 (v4 + (nI 1))))) := rfl
def f_X12_stand_58 : Nat → x_M → Int32 → Int32 → Int32 → Int32 → Option (Unit × x_M)
  | 0, _, _, _, _, _ => none
  | n + 1, M, v1, v2, v3, v4 => x_rd 5512 (M 1) (nI 5) (fun r65 => if r65 ≤ v4 then f_X12_stand_208 x_FU M v3 (nI 0) else x_wr 100 M 14 v4 (nI 0) (fun M => x_wr 100 M 16 v4 (vp_nar .boolean (nI 0)) (fun M => x_bn (f_X12_isKnown M v4 v2) (fun r89 M => if r89 = 0 then f_X12_stand_199 (f_X12_stand_58 n) M v1 v2 v3 v4 else x_rd 5512 (M 1) (((nI 50) + ((nI 10) * v4)) + (nI 2)) (fun r109 => if r109 ≤ v1 then f_X12_stand_120 (f_X12_stand_58 n) x_FU M v1 v2 v3 v4 v3 else f_X12_stand_199 (f_X12_stand_58 n) M v1 v2 v3 v4)))))
theorem f_X12_stand_58_0 (M : x_M) (v1 : Int32) (v2 : Int32) (v3 : Int32) (v4 : Int32) : f_X12_stand_58 0 M v1 v2 v3 v4 = none := rfl
theorem f_X12_stand_58_s (n : Nat) (M : x_M) (v1 : Int32) (v2 : Int32) (v3 : Int32) (v4 : Int32) : f_X12_stand_58 (n + 1) M v1 v2 v3 v4 = (x_rd 5512 (M 1) (nI 5) (fun r65 => if r65 ≤ v4 then f_X12_stand_208 x_FU M v3 (nI 0) else x_wr 100 M 14 v4 (nI 0) (fun M => x_wr 100 M 16 v4 (vp_nar .boolean (nI 0)) (fun M => x_bn (f_X12_isKnown M v4 v2) (fun r89 M => if r89 = 0 then f_X12_stand_199 (f_X12_stand_58 n) M v1 v2 v3 v4 else x_rd 5512 (M 1) (((nI 50) + ((nI 10) * v4)) + (nI 2)) (fun r109 => if r109 ≤ v1 then f_X12_stand_120 (f_X12_stand_58 n) x_FU M v1 v2 v3 v4 v3 else f_X12_stand_199 (f_X12_stand_58 n) M v1 v2 v3 v4)))))) := rfl
def f_X12_stand_28 : Nat → x_M → Int32 → Int32 → Int32 → Option (Unit × x_M)
  | 0, _, _, _, _ => none
  | n + 1, M, v1, v2, v3 => if (nI 4) ≤ v3 then f_X12_stand_58 x_FU M v1 v2 (nI 0) (nI 0) else x_wr 4 M 12 v3 (nI 0) (fun M => x_wr 4 M 13 v3 (nI 0) (fun M => (f_X12_stand_28 n) M v1 v2 (v3 + (nI 1))))
theorem f_X12_stand_28_0 (M : x_M) (v1 : Int32) (v2 : Int32) (v3 : Int32) : f_X12_stand_28 0 M v1 v2 v3 = none := rfl
theorem f_X12_stand_28_s (n : Nat) (M : x_M) (v1 : Int32) (v2 : Int32) (v3 : Int32) : f_X12_stand_28 (n + 1) M v1 v2 v3 = (if (nI 4) ≤ v3 then f_X12_stand_58 x_FU M v1 v2 (nI 0) (nI 0) else x_wr 4 M 12 v3 (nI 0) (fun M => x_wr 4 M 13 v3 (nI 0) (fun M => (f_X12_stand_28 n) M v1 v2 (v3 + (nI 1))))) := rfl
def f_X12_stand_7 : Nat → x_M → Int32 → Int32 → Int32 → Option (Unit × x_M)
  | 0, _, _, _, _ => none
  | n + 1, M, v1, v2, v3 => if (nI 40) ≤ v3 then f_X12_stand_28 x_FU M v1 v2 (nI 0) else x_wr 40 M 11 v3 (nI 0) (fun M => (f_X12_stand_7 n) M v1 v2 (v3 + (nI 1)))
theorem f_X12_stand_7_0 (M : x_M) (v1 : Int32) (v2 : Int32) (v3 : Int32) : f_X12_stand_7 0 M v1 v2 v3 = none := rfl
theorem f_X12_stand_7_s (n : Nat) (M : x_M) (v1 : Int32) (v2 : Int32) (v3 : Int32) : f_X12_stand_7 (n + 1) M v1 v2 v3 = (if (nI 40) ≤ v3 then f_X12_stand_28 x_FU M v1 v2 (nI 0) else x_wr 40 M 11 v3 (nI 0) (fun M => (f_X12_stand_7 n) M v1 v2 (v3 + (nI 1)))) := rfl
def f_X12_stand (M : x_M) (a1 : Int32) (a2 : Int32) : Option (Unit × x_M) := x_pf M 0 24 (nI 0) (fun M => f_X12_stand_7 x_FU M a1 a2 (nI 0))
abbrev rm_X12_stand : Room := { frames := 6, cells := 0, slots := 0, locals := 149 }
set_option maxHeartbeats 4000000 in
set_option maxRecDepth 100000 in
theorem c_X12_stand {l : Launch} {D : va_G} {cy : Nat → ClassId} {q ad : Nat → Nat} {s0 : State} (hq : x_Q q 24 s0.heap.size) {M : x_M} {a1 : Int32} {a2 : Int32} {z : Unit × x_M} (h : f_X12_stand M a1 a2 = some z) : x_Cv l D cy q ad x_spM 24 s0 yX12_stand (x_uw yX12_stand cX12_stand 6 none) rm_X12_stand [.ref (q 0), .int a1, .int a2] M z.2 := by
  have hN : 24 ≤ 24 := Nat.le_refl _
  refine x_metv hq (by decide) (Nat.le_of_ble_eq_true rfl) ?_
  intro p e s m args below meth c ls Q C hret hl hw
  have hx := C.1.1
  have hb := C.1.2.1
  have ho := C.1.2.2.2.1
  have hL := C.1.2.2.2.2
  have hl : lv_has ls 6 [(0, .ref (q 0)), (1, .int a1), (2, .int a2)] := hl
  have w7 : ∀ (n : Nat) (M : x_M) (v1 : Int32) (v2 : Int32) (v3 : Int32) (H : Heap) (locs : List Loc) (ls : Array Slot), x_B D cy q ad x_spM 24 s H locs M → lv_has ls 6 [(0, .ref (q 0)), (1, .int v1), (2, .int v2), (3, .int v3)] → f_X12_stand_7 n M v1 v2 v3 = some z → W p l e rm_X12_stand s m args below meth c H locs 0 0 Q (F0 m 7 ls []) := by
    intro n
    induction n with
    | zero =>
      intro M v1 v2 v3 H locs ls hw hl h
      rw [f_X12_stand_7_0] at h
      cases h
    | succ n7 ih7 =>
      have w28 : ∀ (n : Nat) (M : x_M) (v1 : Int32) (v2 : Int32) (v3 : Int32) (H : Heap) (locs : List Loc) (ls : Array Slot), x_B D cy q ad x_spM 24 s H locs M → lv_has ls 6 [(0, .ref (q 0)), (1, .int v1), (2, .int v2), (3, .int v3)] → f_X12_stand_28 n M v1 v2 v3 = some z → W p l e rm_X12_stand s m args below meth c H locs 0 0 Q (F0 m 28 ls []) := by
        intro n
        induction n with
        | zero =>
          intro M v1 v2 v3 H locs ls hw hl h
          rw [f_X12_stand_28_0] at h
          cases h
        | succ n28 ih28 =>
          have w58 : ∀ (n : Nat) (M : x_M) (v1 : Int32) (v2 : Int32) (v3 : Int32) (v4 : Int32) (H : Heap) (locs : List Loc) (ls : Array Slot), x_B D cy q ad x_spM 24 s H locs M → lv_has ls 6 [(0, .ref (q 0)), (1, .int v1), (2, .int v2), (3, .int v3), (4, .int v4)] → f_X12_stand_58 n M v1 v2 v3 v4 = some z → W p l e rm_X12_stand s m args below meth c H locs 0 0 Q (F0 m 58 ls []) := by
            intro n
            induction n with
            | zero =>
              intro M v1 v2 v3 v4 H locs ls hw hl h
              rw [f_X12_stand_58_0] at h
              cases h
            | succ n58 ih58 =>
              have w199 : ∀ (M : x_M) (v1 : Int32) (v2 : Int32) (v3 : Int32) (v4 : Int32) (H : Heap) (locs : List Loc) (ls : Array Slot), x_B D cy q ad x_spM 24 s H locs M → lv_has ls 6 [(0, .ref (q 0)), (1, .int v1), (2, .int v2), (3, .int v3), (4, .int v4)] → f_X12_stand_199 (f_X12_stand_58 n58) M v1 v2 v3 v4 = some z → W p l e rm_X12_stand s m args below meth c H locs 0 0 Q (F0 m 199 ls []) := by
                intro M v1 v2 v3 v4 H locs ls hw hl h
                unfold f_X12_stand_199 at h
                refine lv_iinc (lv' := [(4, .int _), (0, .ref (q 0)), (1, .int _), (2, .int _), (3, .int _)]) hx hb dX12_stand_199 hl (k := 4) rfl (x_inc (show Int32.ofInt 1 = (nI 1) by decide) _) (by decide) rfl (fun ls hl => ?_)
                refine lv_goto (tgt := 58) hx hb dX12_stand_202 (by decide) ?_
                exact ih58 _ _ _ _ _ _ _ _ hw (lv_sub hl [1, 2, 3, 4, 0] rfl) h
              have w120 : ∀ (n : Nat) (M : x_M) (v1 : Int32) (v2 : Int32) (v3 : Int32) (v4 : Int32) (v5 : Int32) (H : Heap) (locs : List Loc) (ls : Array Slot), x_B D cy q ad x_spM 24 s H locs M → lv_has ls 6 [(0, .ref (q 0)), (1, .int v1), (2, .int v2), (3, .int v3), (4, .int v4), (5, .int v5)] → f_X12_stand_120 (f_X12_stand_58 n58) n M v1 v2 v3 v4 v5 = some z → W p l e rm_X12_stand s m args below meth c H locs 0 0 Q (F0 m 120 ls []) := by
                intro n
                induction n with
                | zero =>
                  intro M v1 v2 v3 v4 v5 H locs ls hw hl h
                  rw [f_X12_stand_120_0] at h
                  cases h
                | succ n120 ih120 =>
                  have w187 : ∀ (M : x_M) (v1 : Int32) (v2 : Int32) (v3 : Int32) (v4 : Int32) (v5 : Int32) (H : Heap) (locs : List Loc) (ls : Array Slot), x_B D cy q ad x_spM 24 s H locs M → lv_has ls 6 [(0, .ref (q 0)), (1, .int v1), (2, .int v2), (3, .int v3), (4, .int v4), (5, .int v5)] → f_X12_stand_187 (f_X12_stand_58 n58) M v1 v2 v3 v4 v5 = some z → W p l e rm_X12_stand s m args below meth c H locs 0 0 Q (F0 m 187 ls []) := by
                    intro M v1 v2 v3 v4 v5 H locs ls hw hl h
                    unfold f_X12_stand_187 at h
                    refine lv_aload_n hx hb dX12_stand_187 rfl (lv_at hl 0 rfl) ?_
                    refine xh_getr C hw 0 29 sM_0 (x_lt hN rfl) rfl rfl rfl lk_RX12_52 dX12_stand_188 ?_
                    refine lv_iload hx hb dX12_stand_191 (lv_at hl 5 rfl) ?_
                    refine lv_iload hx hb dX12_stand_193 (lv_at hl 4 rfl) ?_
                    refine xh_iast C hw 15 100 h sM_15 (x_lt hN rfl) dX12_stand_195 (fun H locs M hw h => ?_)
                    refine lv_iinc (lv' := [(3, .int _), (0, .ref (q 0)), (1, .int _), (2, .int _), (4, .int _), (5, .int _)]) hx hb dX12_stand_196 hl (k := 3) rfl (x_inc (show Int32.ofInt 1 = (nI 1) by decide) _) (by decide) rfl (fun ls hl => ?_)
                    exact w199 _ _ _ _ _ _ _ _ hw (lv_sub hl [1, 2, 3, 0, 4] rfl) h
                  intro M v1 v2 v3 v4 v5 H locs ls hw hl h
                  rw [f_X12_stand_120_s] at h
                  refine lv_iload hx hb dX12_stand_120 (lv_at hl 5 rfl) ?_
                  refine x_if_le (tgt := 187) hx hb h dX12_stand_122 (by decide) (fun h => ?_) (fun h => ?_)
                  · exact w187 _ _ _ _ _ _ _ _ _ hw (lv_sub hl [0, 1, 2, 3, 4, 5] rfl) h
                  · refine lv_aload_n hx hb dX12_stand_125 rfl (lv_at hl 0 rfl) ?_
                    refine xh_getr C hw 0 0 sM_0 (x_lt hN rfl) rfl rfl rfl lk_RX12_7 dX12_stand_126 ?_
                    refine lv_bipush (v := (nI 50)) hx hb dX12_stand_129 (by decide) ?_
                    refine lv_bipush (v := (nI 10)) hx hb dX12_stand_131 (by decide) ?_
                    refine lv_aload_n hx hb dX12_stand_133 rfl (lv_at hl 0 rfl) ?_
                    refine xh_getr C hw 0 29 sM_0 (x_lt hN rfl) rfl rfl rfl lk_RX12_52 dX12_stand_134 ?_
                    refine lv_iload hx hb dX12_stand_137 (lv_at hl 5 rfl) ?_
                    refine lv_iconst (v := (nI 1)) hx hb dX12_stand_139 (by decide) ?_
                    refine lv_isub hx hb dX12_stand_140 ?_
                    refine xh_iald C hw 15 100 h sM_15 (x_lt hN rfl) dX12_stand_141 (fun r141 h => ?_)
                    refine lv_imul hx hb dX12_stand_142 ?_
                    refine lv_iadd hx hb dX12_stand_143 ?_
                    refine lv_iconst (v := (nI 2)) hx hb dX12_stand_144 (by decide) ?_
                    refine lv_iadd hx hb dX12_stand_145 ?_
                    refine xh_iald C hw 1 5512 h sM_1 (x_lt hN rfl) dX12_stand_146 (fun r146 h => ?_)
                    refine lv_aload_n hx hb dX12_stand_147 rfl (lv_at hl 0 rfl) ?_
                    refine xh_getr C hw 0 0 sM_0 (x_lt hN rfl) rfl rfl rfl lk_RX12_7 dX12_stand_148 ?_
                    refine lv_bipush (v := (nI 50)) hx hb dX12_stand_151 (by decide) ?_
                    refine lv_bipush (v := (nI 10)) hx hb dX12_stand_153 (by decide) ?_
                    refine lv_iload hx hb dX12_stand_155 (lv_at hl 4 rfl) ?_
                    refine lv_imul hx hb dX12_stand_157 ?_
                    refine lv_iadd hx hb dX12_stand_158 ?_
                    refine lv_iconst (v := (nI 2)) hx hb dX12_stand_159 (by decide) ?_
                    refine lv_iadd hx hb dX12_stand_160 ?_
                    refine xh_iald C hw 1 5512 h sM_1 (x_lt hN rfl) dX12_stand_161 (fun r161 h => ?_)
                    refine x_icmp_le (tgt := 187) hx hb h dX12_stand_162 (by decide) (fun h => ?_) (fun h => ?_)
                    · exact w187 _ _ _ _ _ _ _ _ _ hw (lv_sub hl [0, 1, 2, 3, 4, 5] rfl) h
                    · refine lv_aload_n hx hb dX12_stand_165 rfl (lv_at hl 0 rfl) ?_
                      refine xh_getr C hw 0 29 sM_0 (x_lt hN rfl) rfl rfl rfl lk_RX12_52 dX12_stand_166 ?_
                      refine lv_iload hx hb dX12_stand_169 (lv_at hl 5 rfl) ?_
                      refine lv_aload_n hx hb dX12_stand_171 rfl (lv_at hl 0 rfl) ?_
                      refine xh_getr C hw 0 29 sM_0 (x_lt hN rfl) rfl rfl rfl lk_RX12_52 dX12_stand_172 ?_
                      refine lv_iload hx hb dX12_stand_175 (lv_at hl 5 rfl) ?_
                      refine lv_iconst (v := (nI 1)) hx hb dX12_stand_177 (by decide) ?_
                      refine lv_isub hx hb dX12_stand_178 ?_
                      refine xh_iald C hw 15 100 h sM_15 (x_lt hN rfl) dX12_stand_179 (fun r179 h => ?_)
                      refine xh_iast C hw 15 100 h sM_15 (x_lt hN rfl) dX12_stand_180 (fun H locs M hw h => ?_)
                      refine lv_iinc (lv' := [(5, .int _), (0, .ref (q 0)), (1, .int _), (2, .int _), (3, .int _), (4, .int _)]) hx hb dX12_stand_181 hl (k := 5) rfl (x_inc (show Int32.ofInt (-1) = (-1) by decide) _) (by decide) rfl (fun ls hl => ?_)
                      refine lv_goto (tgt := 120) hx hb dX12_stand_184 (by decide) ?_
                      exact ih120 _ _ _ _ _ _ _ _ _ hw (lv_sub hl [1, 2, 3, 4, 5, 0] rfl) h
              have w208 : ∀ (n : Nat) (M : x_M) (v3 : Int32) (v4 : Int32) (H : Heap) (locs : List Loc) (ls : Array Slot), x_B D cy q ad x_spM 24 s H locs M → lv_has ls 6 [(0, .ref (q 0)), (3, .int v3), (4, .int v4)] → f_X12_stand_208 n M v3 v4 = some z → W p l e rm_X12_stand s m args below meth c H locs 0 0 Q (F0 m 208 ls []) := by
                intro n
                induction n with
                | zero =>
                  intro M v3 v4 H locs ls hw hl h
                  rw [f_X12_stand_208_0] at h
                  cases h
                | succ n208 ih208 =>
                  intro M v3 v4 H locs ls hw hl h
                  rw [f_X12_stand_208_s] at h
                  refine lv_iload hx hb dX12_stand_208 (lv_at hl 2 rfl) ?_
                  refine lv_iload_n hx hb dX12_stand_210 rfl (lv_at hl 1 rfl) ?_
                  refine x_icmp_ge (tgt := 231) hx hb h dX12_stand_211 (by decide) (fun h => ?_) (fun h => ?_)
                  · exact hret dX12_stand_231 hw h
                  · refine lv_aload_n hx hb dX12_stand_214 rfl (lv_at hl 0 rfl) ?_
                    refine lv_aload_n hx hb dX12_stand_215 rfl (lv_at hl 0 rfl) ?_
                    refine xh_getr C hw 0 29 sM_0 (x_lt hN rfl) rfl rfl rfl lk_RX12_52 dX12_stand_216 ?_
                    refine lv_iload hx hb dX12_stand_219 (lv_at hl 2 rfl) ?_
                    refine xh_iald C hw 15 100 h sM_15 (x_lt hN rfl) dX12_stand_221 (fun r221 h => ?_)
                    refine xh_cVv C hw (rest := []) h (fun _ hz => c_X12_happens hq hz) ml_RX12_252 mv_X12_happens sM_0 (x_lt hN rfl) rfl ⟨rfl, rfl, by decide, by decide⟩ rfl hl.1 rfl (Nat.le_of_ble_eq_true rfl) dX12_stand_222 (fun H locs _ M hw h => ?_)
                    refine lv_iinc (lv' := [(4, .int _), (0, .ref (q 0)), (3, .int _)]) hx hb dX12_stand_225 hl (k := 2) rfl (x_inc (show Int32.ofInt 1 = (nI 1) by decide) _) (by decide) rfl (fun ls hl => ?_)
                    refine lv_goto (tgt := 208) hx hb dX12_stand_228 (by decide) ?_
                    exact ih208 _ _ _ _ _ _ hw (lv_sub hl [1, 2, 0] rfl) h
              intro M v1 v2 v3 v4 H locs ls hw hl h
              rw [f_X12_stand_58_s] at h
              refine lv_iload hx hb dX12_stand_58 (lv_at hl 4 rfl) ?_
              refine lv_aload_n hx hb dX12_stand_60 rfl (lv_at hl 0 rfl) ?_
              refine xh_getr C hw 0 0 sM_0 (x_lt hN rfl) rfl rfl rfl lk_RX12_7 dX12_stand_61 ?_
              refine lv_iconst (v := (nI 5)) hx hb dX12_stand_64 (by decide) ?_
              refine xh_iald C hw 1 5512 h sM_1 (x_lt hN rfl) dX12_stand_65 (fun r65 h => ?_)
              refine x_icmp_ge (tgt := 205) hx hb h dX12_stand_66 (by decide) (fun h => ?_) (fun h => ?_)
              · refine lv_iconst (v := (nI 0)) hx hb dX12_stand_205 (by decide) ?_
                refine lv_istore (lv' := [(4, .int _), (0, .ref (q 0)), (1, .int _), (2, .int _), (3, .int _)]) hx hb dX12_stand_206 hl (by decide) rfl (fun ls hl => ?_)
                exact w208 _ _ _ _ _ _ _ hw (lv_sub hl [1, 4, 0] rfl) h
              · refine lv_aload_n hx hb dX12_stand_69 rfl (lv_at hl 0 rfl) ?_
                refine xh_getr C hw 0 28 sM_0 (x_lt hN rfl) rfl rfl rfl lk_RX12_49 dX12_stand_70 ?_
                refine lv_iload hx hb dX12_stand_73 (lv_at hl 4 rfl) ?_
                refine lv_iconst (v := (nI 0)) hx hb dX12_stand_75 (by decide) ?_
                refine xh_iast C hw 14 100 h sM_14 (x_lt hN rfl) dX12_stand_76 (fun H locs M hw h => ?_)
                refine lv_aload_n hx hb dX12_stand_77 rfl (lv_at hl 0 rfl) ?_
                refine xh_getr C hw 0 30 sM_0 (x_lt hN rfl) rfl rfl rfl lk_RX12_55 dX12_stand_78 ?_
                refine lv_iload hx hb dX12_stand_81 (lv_at hl 4 rfl) ?_
                refine lv_iconst (v := (nI 0)) hx hb dX12_stand_83 (by decide) ?_
                refine xh_zast C hw 16 100 h sM_16 (x_lt hN rfl) dX12_stand_84 (fun H locs M hw h => ?_)
                refine lv_aload_n hx hb dX12_stand_85 rfl (lv_at hl 0 rfl) ?_
                refine lv_iload hx hb dX12_stand_86 (lv_at hl 4 rfl) ?_
                refine lv_iload_n hx hb dX12_stand_88 rfl (lv_at hl 2 rfl) ?_
                refine xh_cVi C hw (rest := []) h (fun _ hz => c_X12_isKnown hq hz) ml_RX12_249 mv_X12_isKnown sM_0 (x_lt hN rfl) rfl ⟨rfl, rfl, by decide, by decide⟩ rfl hl.1 rfl (Nat.le_of_ble_eq_true rfl) dX12_stand_89 (fun H locs r89 M hw h => ?_)
                refine x_if_eq (tgt := 199) hx hb h dX12_stand_92 (by decide) (fun h => ?_) (fun h => ?_)
                · exact w199 _ _ _ _ _ _ _ _ hw (lv_sub hl [0, 1, 2, 3, 4] rfl) h
                · refine lv_aload_n hx hb dX12_stand_95 rfl (lv_at hl 0 rfl) ?_
                  refine xh_getr C hw 0 0 sM_0 (x_lt hN rfl) rfl rfl rfl lk_RX12_7 dX12_stand_96 ?_
                  refine lv_bipush (v := (nI 50)) hx hb dX12_stand_99 (by decide) ?_
                  refine lv_bipush (v := (nI 10)) hx hb dX12_stand_101 (by decide) ?_
                  refine lv_iload hx hb dX12_stand_103 (lv_at hl 4 rfl) ?_
                  refine lv_imul hx hb dX12_stand_105 ?_
                  refine lv_iadd hx hb dX12_stand_106 ?_
                  refine lv_iconst (v := (nI 2)) hx hb dX12_stand_107 (by decide) ?_
                  refine lv_iadd hx hb dX12_stand_108 ?_
                  refine xh_iald C hw 1 5512 h sM_1 (x_lt hN rfl) dX12_stand_109 (fun r109 h => ?_)
                  refine lv_iload_n hx hb dX12_stand_110 rfl (lv_at hl 1 rfl) ?_
                  refine x_icmp_le (tgt := 117) hx hb h dX12_stand_111 (by decide) (fun h => ?_) (fun h => ?_)
                  · refine lv_iload_n hx hb dX12_stand_117 rfl (lv_at hl 3 rfl) ?_
                    refine lv_istore (lv' := [(5, .int _), (0, .ref (q 0)), (1, .int _), (2, .int _), (3, .int _), (4, .int _)]) hx hb dX12_stand_118 hl (by decide) rfl (fun ls hl => ?_)
                    exact w120 _ _ _ _ _ _ _ _ _ _ hw (lv_sub hl [1, 2, 3, 4, 5, 0] rfl) h
                  · refine lv_goto (tgt := 199) hx hb dX12_stand_114 (by decide) ?_
                    exact w199 _ _ _ _ _ _ _ _ hw (lv_sub hl [0, 1, 2, 3, 4] rfl) h
          intro M v1 v2 v3 H locs ls hw hl h
          rw [f_X12_stand_28_s] at h
          refine lv_iload_n hx hb dX12_stand_28 rfl (lv_at hl 3 rfl) ?_
          refine lv_iconst (v := (nI 4)) hx hb dX12_stand_29 (by decide) ?_
          refine x_icmp_ge (tgt := 53) hx hb h dX12_stand_30 (by decide) (fun h => ?_) (fun h => ?_)
          · refine lv_iconst (v := (nI 0)) hx hb dX12_stand_53 (by decide) ?_
            refine lv_istore_n (lv' := [(3, .int _), (0, .ref (q 0)), (1, .int _), (2, .int _)]) hx hb dX12_stand_54 rfl hl (by decide) rfl (fun ls hl => ?_)
            refine lv_iconst (v := (nI 0)) hx hb dX12_stand_55 (by decide) ?_
            refine lv_istore (lv' := [(4, .int _), (3, .int _), (0, .ref (q 0)), (1, .int _), (2, .int _)]) hx hb dX12_stand_56 hl (by decide) rfl (fun ls hl => ?_)
            exact w58 _ _ _ _ _ _ _ _ _ hw (lv_sub hl [2, 3, 4, 1, 0] rfl) h
          · refine lv_aload_n hx hb dX12_stand_33 rfl (lv_at hl 0 rfl) ?_
            refine xh_getr C hw 0 26 sM_0 (x_lt hN rfl) rfl rfl rfl lk_RX12_43 dX12_stand_34 ?_
            refine lv_iload_n hx hb dX12_stand_37 rfl (lv_at hl 3 rfl) ?_
            refine lv_iconst (v := (nI 0)) hx hb dX12_stand_38 (by decide) ?_
            refine xh_iast C hw 12 4 h sM_12 (x_lt hN rfl) dX12_stand_39 (fun H locs M hw h => ?_)
            refine lv_aload_n hx hb dX12_stand_40 rfl (lv_at hl 0 rfl) ?_
            refine xh_getr C hw 0 27 sM_0 (x_lt hN rfl) rfl rfl rfl lk_RX12_46 dX12_stand_41 ?_
            refine lv_iload_n hx hb dX12_stand_44 rfl (lv_at hl 3 rfl) ?_
            refine lv_iconst (v := (nI 0)) hx hb dX12_stand_45 (by decide) ?_
            refine xh_iast C hw 13 4 h sM_13 (x_lt hN rfl) dX12_stand_46 (fun H locs M hw h => ?_)
            refine lv_iinc (lv' := [(3, .int _), (0, .ref (q 0)), (1, .int _), (2, .int _)]) hx hb dX12_stand_47 hl (k := 3) rfl (x_inc (show Int32.ofInt 1 = (nI 1) by decide) _) (by decide) rfl (fun ls hl => ?_)
            refine lv_goto (tgt := 28) hx hb dX12_stand_50 (by decide) ?_
            exact ih28 _ _ _ _ _ _ _ hw (lv_sub hl [1, 2, 3, 0] rfl) h
      intro M v1 v2 v3 H locs ls hw hl h
      rw [f_X12_stand_7_s] at h
      refine lv_iload_n hx hb dX12_stand_7 rfl (lv_at hl 3 rfl) ?_
      refine lv_bipush (v := (nI 40)) hx hb dX12_stand_8 (by decide) ?_
      refine x_icmp_ge (tgt := 26) hx hb h dX12_stand_10 (by decide) (fun h => ?_) (fun h => ?_)
      · refine lv_iconst (v := (nI 0)) hx hb dX12_stand_26 (by decide) ?_
        refine lv_istore_n (lv' := [(3, .int _), (0, .ref (q 0)), (1, .int _), (2, .int _)]) hx hb dX12_stand_27 rfl hl (by decide) rfl (fun ls hl => ?_)
        exact w28 _ _ _ _ _ _ _ _ hw (lv_sub hl [1, 2, 3, 0] rfl) h
      · refine lv_aload_n hx hb dX12_stand_13 rfl (lv_at hl 0 rfl) ?_
        refine xh_getr C hw 0 25 sM_0 (x_lt hN rfl) rfl rfl rfl lk_RX12_40 dX12_stand_14 ?_
        refine lv_iload_n hx hb dX12_stand_17 rfl (lv_at hl 3 rfl) ?_
        refine lv_iconst (v := (nI 0)) hx hb dX12_stand_18 (by decide) ?_
        refine xh_iast C hw 11 40 h sM_11 (x_lt hN rfl) dX12_stand_19 (fun H locs M hw h => ?_)
        refine lv_iinc (lv' := [(3, .int _), (0, .ref (q 0)), (1, .int _), (2, .int _)]) hx hb dX12_stand_20 hl (k := 3) rfl (x_inc (show Int32.ofInt 1 = (nI 1) by decide) _) (by decide) rfl (fun ls hl => ?_)
        refine lv_goto (tgt := 7) hx hb dX12_stand_23 (by decide) ?_
        exact ih7 _ _ _ _ _ _ _ hw (lv_sub hl [1, 2, 3, 0] rfl) h
  unfold f_X12_stand at h
  refine lv_aload_n hx hb dX12_stand_0 rfl (lv_at hl 0 rfl) ?_
  refine lv_iconst (v := (nI 0)) hx hb dX12_stand_1 (by decide) ?_
  refine xh_puti C hw 0 24 h sM_0 (x_lt hN rfl) rfl rfl rfl lk_RX12_212 rfl rfl dX12_stand_2 (fun H locs M hw h => ?_)
  refine lv_iconst (v := (nI 0)) hx hb dX12_stand_5 (by decide) ?_
  refine lv_istore_n (lv' := [(3, .int _), (0, .ref (q 0)), (1, .int _), (2, .int _)]) hx hb dX12_stand_6 rfl hl (by decide) rfl (fun ls hl => ?_)
  exact w7 _ _ _ _ _ _ _ _ hw (lv_sub hl [1, 2, 3, 0] rfl) h
def f_X12_stands_32 (M : x_M) : Option (Int32 × x_M) := some ((-1000000001), M)
def f_X12_stands_185 (k81 : x_M → Int32 → Int32 → Int32 → Int32 → Int32 → Option (Int32 × x_M)) (M : x_M) (v1 : Int32) (v2 : Int32) (v4 : Int32) (v6 : Int32) (t0 : Int32) (t1 : Int32) : Option (Int32 × x_M) := k81 M v1 v2 v4 (t0 + t1) (v6 + (nI 1))
def f_X12_stands_184 (k81 : x_M → Int32 → Int32 → Int32 → Int32 → Int32 → Option (Int32 × x_M)) (M : x_M) (v1 : Int32) (v2 : Int32) (v4 : Int32) (v6 : Int32) (t0 : Int32) : Option (Int32 × x_M) := f_X12_stands_185 k81 M v1 v2 v4 v6 t0 (nI 0)
def f_X12_stands_154 (k81 : x_M → Int32 → Int32 → Int32 → Int32 → Int32 → Option (Int32 × x_M)) (M : x_M) (v1 : Int32) (v2 : Int32) (v4 : Int32) (v5 : Int32) (v6 : Int32) (t0 : Int32) : Option (Int32 × x_M) := x_rd 100 (M 8) v6 (fun r164 => if r164 = v1 then if t0 = 0 then f_X12_stands_184 k81 M v1 v2 v4 v6 v5 else x_rd 100 (M 9) v6 (fun r180 => f_X12_stands_185 k81 M v1 v2 v4 v6 v5 r180) else f_X12_stands_184 k81 M v1 v2 v4 v6 v5)
def f_X12_stands_149 (k81 : x_M → Int32 → Int32 → Int32 → Int32 → Int32 → Option (Int32 × x_M)) (M : x_M) (v1 : Int32) (v2 : Int32) (v4 : Int32) (v5 : Int32) (v6 : Int32) : Option (Int32 × x_M) := f_X12_stands_154 k81 M v1 v2 v4 v5 v6 (nI 1)
def f_X12_stands_153 (k81 : x_M → Int32 → Int32 → Int32 → Int32 → Int32 → Option (Int32 × x_M)) (M : x_M) (v1 : Int32) (v2 : Int32) (v4 : Int32) (v5 : Int32) (v6 : Int32) : Option (Int32 × x_M) := f_X12_stands_154 k81 M v1 v2 v4 v5 v6 (nI 0)
def f_X12_stands_81 : Nat → x_M → Int32 → Int32 → Int32 → Int32 → Int32 → Option (Int32 × x_M)
  | 0, _, _, _, _, _, _ => none
  | n + 1, M, v1, v2, v4, v5, v6 => x_gf M 0 24 (fun r84 => if r84 ≤ v6 then some (v5, M) else if v4 = (nI 4) then x_rd 100 (M 10) v6 (fun r102 => if v2 < r102 then f_X12_stands_154 (f_X12_stands_81 n) M v1 v2 v4 v5 v6 (nI 0) else f_X12_stands_154 (f_X12_stands_81 n) M v1 v2 v4 v5 v6 (nI 1)) else x_rd 100 (M 10) v6 (fun r121 => if r121 ≤ v2 then f_X12_stands_153 (f_X12_stands_81 n) M v1 v2 v4 v5 v6 else if v4 = 0 then f_X12_stands_149 (f_X12_stands_81 n) M v1 v2 v4 v5 v6 else x_rd 100 (M 10) v6 (fun r137 => x_rd 5512 (M 1) (nI 3) (fun r144 => if (v2 + r144) < r137 then f_X12_stands_153 (f_X12_stands_81 n) M v1 v2 v4 v5 v6 else f_X12_stands_149 (f_X12_stands_81 n) M v1 v2 v4 v5 v6))))
theorem f_X12_stands_81_0 (M : x_M) (v1 : Int32) (v2 : Int32) (v4 : Int32) (v5 : Int32) (v6 : Int32) : f_X12_stands_81 0 M v1 v2 v4 v5 v6 = none := rfl
theorem f_X12_stands_81_s (n : Nat) (M : x_M) (v1 : Int32) (v2 : Int32) (v4 : Int32) (v5 : Int32) (v6 : Int32) : f_X12_stands_81 (n + 1) M v1 v2 v4 v5 v6 = (x_gf M 0 24 (fun r84 => if r84 ≤ v6 then some (v5, M) else if v4 = (nI 4) then x_rd 100 (M 10) v6 (fun r102 => if v2 < r102 then f_X12_stands_154 (f_X12_stands_81 n) M v1 v2 v4 v5 v6 (nI 0) else f_X12_stands_154 (f_X12_stands_81 n) M v1 v2 v4 v5 v6 (nI 1)) else x_rd 100 (M 10) v6 (fun r121 => if r121 ≤ v2 then f_X12_stands_153 (f_X12_stands_81 n) M v1 v2 v4 v5 v6 else if v4 = 0 then f_X12_stands_149 (f_X12_stands_81 n) M v1 v2 v4 v5 v6 else x_rd 100 (M 10) v6 (fun r137 => x_rd 5512 (M 1) (nI 3) (fun r144 => if (v2 + r144) < r137 then f_X12_stands_153 (f_X12_stands_81 n) M v1 v2 v4 v5 v6 else f_X12_stands_149 (f_X12_stands_81 n) M v1 v2 v4 v5 v6))))) := rfl
def f_X12_stands (M : x_M) (a1 : Int32) (a2 : Int32) (a3 : Int32) (a4 : Int32) : Option (Int32 × x_M) := x_bn (f_X12_isMember M a1) (fun r2 M => if r2 = 0 then f_X12_stands_32 M else x_bn (f_X12_isDay M a2) (fun r9 M => if r9 = 0 then f_X12_stands_32 M else x_bn (f_X12_isDay M a3) (fun r16 M => if r16 = 0 then f_X12_stands_32 M else x_bn (f_X12_in M a4 (nI 0) (nI 4)) (fun r26 M => if r26 = 0 then f_X12_stands_32 M else x_bn (f_X12_stand M a2 a3) (fun _ M => if a4 = (nI 1) then x_dv (nI 360) (x_rd 40 (M 11) (((nI 4) * a1) + (a2 / (nI 360))) (fun r60 => some (r60, M))) else if a4 = (nI 2) then x_bn (f_X12_tierOn M a1 a2) (fun r71 M => some (r71, M)) else f_X12_stands_81 x_FU M a1 a2 a4 (nI 0) (nI 0))))))
abbrev rm_X12_stands : Room := { frames := 7, cells := 0, slots := 0, locals := 174 }
set_option maxHeartbeats 4000000 in
set_option maxRecDepth 100000 in
theorem c_X12_stands {l : Launch} {D : va_G} {cy : Nat → ClassId} {q ad : Nat → Nat} {s0 : State} (hq : x_Q q 24 s0.heap.size) {M : x_M} {a1 : Int32} {a2 : Int32} {a3 : Int32} {a4 : Int32} {z : Int32 × x_M} (h : f_X12_stands M a1 a2 a3 a4 = some z) : x_Ci l D cy q ad x_spM 24 s0 yX12_stands (x_uw yX12_stands cX12_stands 8 (some .int)) rm_X12_stands [.ref (q 0), .int a1, .int a2, .int a3, .int a4] M z.1 z.2 := by
  have hN : 24 ≤ 24 := Nat.le_refl _
  refine x_meti hq (by decide) (Nat.le_of_ble_eq_true rfl) ?_
  intro p e s m args below meth c ls Q C hret hl hw
  have hx := C.1.1
  have hb := C.1.2.1
  have ho := C.1.2.2.2.1
  have hL := C.1.2.2.2.2
  have hl : lv_has ls 8 [(0, .ref (q 0)), (1, .int a1), (2, .int a2), (3, .int a3), (4, .int a4)] := hl
  have w32 : ∀ (M : x_M) (H : Heap) (locs : List Loc) (ls : Array Slot), x_B D cy q ad x_spM 24 s H locs M → lv_has ls 8 [] → f_X12_stands_32 M = some z → W p l e rm_X12_stands s m args below meth c H locs 0 0 Q (F0 m 32 ls []) := by
    intro M H locs ls hw hl h
    unfold f_X12_stands_32 at h
    refine lv_ldc hx hb ho (hL _ kc_RX12_85) dX12_stands_32 ?_
    exact hret dX12_stands_34 rfl hw h
  have w81 : ∀ (n : Nat) (M : x_M) (v1 : Int32) (v2 : Int32) (v4 : Int32) (v5 : Int32) (v6 : Int32) (H : Heap) (locs : List Loc) (ls : Array Slot), x_B D cy q ad x_spM 24 s H locs M → lv_has ls 8 [(0, .ref (q 0)), (1, .int v1), (2, .int v2), (4, .int v4), (5, .int v5), (6, .int v6)] → f_X12_stands_81 n M v1 v2 v4 v5 v6 = some z → W p l e rm_X12_stands s m args below meth c H locs 0 0 Q (F0 m 81 ls []) := by
    intro n
    induction n with
    | zero =>
      intro M v1 v2 v4 v5 v6 H locs ls hw hl h
      rw [f_X12_stands_81_0] at h
      cases h
    | succ n81 ih81 =>
      have w154 : ∀ (M : x_M) (v1 : Int32) (v2 : Int32) (v4 : Int32) (v5 : Int32) (v6 : Int32) (t0 : Int32) (H : Heap) (locs : List Loc) (ls : Array Slot), x_B D cy q ad x_spM 24 s H locs M → lv_has ls 8 [(0, .ref (q 0)), (1, .int v1), (2, .int v2), (4, .int v4), (5, .int v5), (6, .int v6)] → f_X12_stands_154 (f_X12_stands_81 n81) M v1 v2 v4 v5 v6 t0 = some z → W p l e rm_X12_stands s m args below meth c H locs 0 0 Q (F0 m 154 ls [.int t0]) := by
        have w185 : ∀ (M : x_M) (v1 : Int32) (v2 : Int32) (v4 : Int32) (v6 : Int32) (t0 : Int32) (t1 : Int32) (H : Heap) (locs : List Loc) (ls : Array Slot), x_B D cy q ad x_spM 24 s H locs M → lv_has ls 8 [(0, .ref (q 0)), (1, .int v1), (2, .int v2), (4, .int v4), (6, .int v6)] → f_X12_stands_185 (f_X12_stands_81 n81) M v1 v2 v4 v6 t0 t1 = some z → W p l e rm_X12_stands s m args below meth c H locs 0 0 Q (F0 m 185 ls [.int t1, .int t0]) := by
          intro M v1 v2 v4 v6 t0 t1 H locs ls hw hl h
          unfold f_X12_stands_185 at h
          refine lv_iadd hx hb dX12_stands_185 ?_
          refine lv_istore (lv' := [(5, .int _), (0, .ref (q 0)), (1, .int _), (2, .int _), (4, .int _), (6, .int _)]) hx hb dX12_stands_186 hl (by decide) rfl (fun ls hl => ?_)
          refine lv_iinc (lv' := [(6, .int _), (5, .int _), (0, .ref (q 0)), (1, .int _), (2, .int _), (4, .int _)]) hx hb dX12_stands_188 hl (k := 5) rfl (x_inc (show Int32.ofInt 1 = (nI 1) by decide) _) (by decide) rfl (fun ls hl => ?_)
          refine lv_goto (tgt := 81) hx hb dX12_stands_191 (by decide) ?_
          exact ih81 _ _ _ _ _ _ _ _ _ hw (lv_sub hl [2, 3, 4, 5, 1, 0] rfl) h
        have w184 : ∀ (M : x_M) (v1 : Int32) (v2 : Int32) (v4 : Int32) (v6 : Int32) (t0 : Int32) (H : Heap) (locs : List Loc) (ls : Array Slot), x_B D cy q ad x_spM 24 s H locs M → lv_has ls 8 [(0, .ref (q 0)), (1, .int v1), (2, .int v2), (4, .int v4), (6, .int v6)] → f_X12_stands_184 (f_X12_stands_81 n81) M v1 v2 v4 v6 t0 = some z → W p l e rm_X12_stands s m args below meth c H locs 0 0 Q (F0 m 184 ls [.int t0]) := by
          intro M v1 v2 v4 v6 t0 H locs ls hw hl h
          unfold f_X12_stands_184 at h
          refine lv_iconst (v := (nI 0)) hx hb dX12_stands_184 (by decide) ?_
          exact w185 _ _ _ _ _ _ _ _ _ _ hw (lv_sub hl [0, 1, 2, 3, 4] rfl) h
        intro M v1 v2 v4 v5 v6 t0 H locs ls hw hl h
        unfold f_X12_stands_154 at h
        refine lv_istore (lv' := [(7, .int _), (0, .ref (q 0)), (1, .int _), (2, .int _), (4, .int _), (5, .int _), (6, .int _)]) hx hb dX12_stands_154 hl (by decide) rfl (fun ls hl => ?_)
        refine lv_iload hx hb dX12_stands_156 (lv_at hl 5 rfl) ?_
        refine lv_aload_n hx hb dX12_stands_158 rfl (lv_at hl 1 rfl) ?_
        refine xh_getr C hw 0 21 sM_0 (x_lt hN rfl) rfl rfl rfl lk_RX12_31 dX12_stands_159 ?_
        refine lv_iload hx hb dX12_stands_162 (lv_at hl 6 rfl) ?_
        refine xh_iald C hw 8 100 h sM_8 (x_lt hN rfl) dX12_stands_164 (fun r164 h => ?_)
        refine lv_iload_n hx hb dX12_stands_165 rfl (lv_at hl 2 rfl) ?_
        refine x_icmp_ne (tgt := 184) hx hb h dX12_stands_166 (by decide) (fun h => ?_) (fun h => ?_)
        · refine lv_iload hx hb dX12_stands_169 (lv_at hl 0 rfl) ?_
          refine x_if_eq (tgt := 184) hx hb h dX12_stands_171 (by decide) (fun h => ?_) (fun h => ?_)
          · exact w184 _ _ _ _ _ _ _ _ _ hw (lv_sub hl [1, 2, 3, 4, 6] rfl) h
          · refine lv_aload_n hx hb dX12_stands_174 rfl (lv_at hl 1 rfl) ?_
            refine xh_getr C hw 0 22 sM_0 (x_lt hN rfl) rfl rfl rfl lk_RX12_34 dX12_stands_175 ?_
            refine lv_iload hx hb dX12_stands_178 (lv_at hl 6 rfl) ?_
            refine xh_iald C hw 9 100 h sM_9 (x_lt hN rfl) dX12_stands_180 (fun r180 h => ?_)
            refine lv_goto (tgt := 185) hx hb dX12_stands_181 (by decide) ?_
            exact w185 _ _ _ _ _ _ _ _ _ _ hw (lv_sub hl [1, 2, 3, 4, 6] rfl) h
        · exact w184 _ _ _ _ _ _ _ _ _ hw (lv_sub hl [1, 2, 3, 4, 6] rfl) h
      have w149 : ∀ (M : x_M) (v1 : Int32) (v2 : Int32) (v4 : Int32) (v5 : Int32) (v6 : Int32) (H : Heap) (locs : List Loc) (ls : Array Slot), x_B D cy q ad x_spM 24 s H locs M → lv_has ls 8 [(0, .ref (q 0)), (1, .int v1), (2, .int v2), (4, .int v4), (5, .int v5), (6, .int v6)] → f_X12_stands_149 (f_X12_stands_81 n81) M v1 v2 v4 v5 v6 = some z → W p l e rm_X12_stands s m args below meth c H locs 0 0 Q (F0 m 149 ls []) := by
        intro M v1 v2 v4 v5 v6 H locs ls hw hl h
        unfold f_X12_stands_149 at h
        refine lv_iconst (v := (nI 1)) hx hb dX12_stands_149 (by decide) ?_
        refine lv_goto (tgt := 154) hx hb dX12_stands_150 (by decide) ?_
        exact w154 _ _ _ _ _ _ _ _ _ _ hw (lv_sub hl [0, 1, 2, 3, 4, 5] rfl) h
      have w153 : ∀ (M : x_M) (v1 : Int32) (v2 : Int32) (v4 : Int32) (v5 : Int32) (v6 : Int32) (H : Heap) (locs : List Loc) (ls : Array Slot), x_B D cy q ad x_spM 24 s H locs M → lv_has ls 8 [(0, .ref (q 0)), (1, .int v1), (2, .int v2), (4, .int v4), (5, .int v5), (6, .int v6)] → f_X12_stands_153 (f_X12_stands_81 n81) M v1 v2 v4 v5 v6 = some z → W p l e rm_X12_stands s m args below meth c H locs 0 0 Q (F0 m 153 ls []) := by
        intro M v1 v2 v4 v5 v6 H locs ls hw hl h
        unfold f_X12_stands_153 at h
        refine lv_iconst (v := (nI 0)) hx hb dX12_stands_153 (by decide) ?_
        exact w154 _ _ _ _ _ _ _ _ _ _ hw (lv_sub hl [0, 1, 2, 3, 4, 5] rfl) h
      intro M v1 v2 v4 v5 v6 H locs ls hw hl h
      rw [f_X12_stands_81_s] at h
      refine lv_iload hx hb dX12_stands_81 (lv_at hl 5 rfl) ?_
      refine lv_aload_n hx hb dX12_stands_83 rfl (lv_at hl 0 rfl) ?_
      refine xh_geti C hw 0 24 h sM_0 (x_lt hN rfl) rfl rfl rfl lk_RX12_212 dX12_stands_84 (fun r84 h => ?_)
      refine x_icmp_ge (tgt := 194) hx hb h dX12_stands_87 (by decide) (fun h => ?_) (fun h => ?_)
      · refine lv_iload hx hb dX12_stands_194 (lv_at hl 4 rfl) ?_
        exact hret dX12_stands_196 rfl hw h
      · refine lv_iload hx hb dX12_stands_90 (lv_at hl 3 rfl) ?_
        refine lv_iconst (v := (nI 4)) hx hb dX12_stands_92 (by decide) ?_
        refine x_icmp_ne (tgt := 115) hx hb h dX12_stands_93 (by decide) (fun h => ?_) (fun h => ?_)
        · refine lv_aload_n hx hb dX12_stands_96 rfl (lv_at hl 0 rfl) ?_
          refine xh_getr C hw 0 23 sM_0 (x_lt hN rfl) rfl rfl rfl lk_RX12_37 dX12_stands_97 ?_
          refine lv_iload hx hb dX12_stands_100 (lv_at hl 5 rfl) ?_
          refine xh_iald C hw 10 100 h sM_10 (x_lt hN rfl) dX12_stands_102 (fun r102 h => ?_)
          refine lv_iload_n hx hb dX12_stands_103 rfl (lv_at hl 2 rfl) ?_
          refine x_icmp_gt (tgt := 111) hx hb h dX12_stands_104 (by decide) (fun h => ?_) (fun h => ?_)
          · refine lv_iconst (v := (nI 0)) hx hb dX12_stands_111 (by decide) ?_
            refine lv_goto (tgt := 154) hx hb dX12_stands_112 (by decide) ?_
            exact w154 _ _ _ _ _ _ _ _ _ _ hw (lv_sub hl [0, 1, 2, 3, 4, 5] rfl) h
          · refine lv_iconst (v := (nI 1)) hx hb dX12_stands_107 (by decide) ?_
            refine lv_goto (tgt := 154) hx hb dX12_stands_108 (by decide) ?_
            exact w154 _ _ _ _ _ _ _ _ _ _ hw (lv_sub hl [0, 1, 2, 3, 4, 5] rfl) h
        · refine lv_aload_n hx hb dX12_stands_115 rfl (lv_at hl 0 rfl) ?_
          refine xh_getr C hw 0 23 sM_0 (x_lt hN rfl) rfl rfl rfl lk_RX12_37 dX12_stands_116 ?_
          refine lv_iload hx hb dX12_stands_119 (lv_at hl 5 rfl) ?_
          refine xh_iald C hw 10 100 h sM_10 (x_lt hN rfl) dX12_stands_121 (fun r121 h => ?_)
          refine lv_iload_n hx hb dX12_stands_122 rfl (lv_at hl 2 rfl) ?_
          refine x_icmp_le (tgt := 153) hx hb h dX12_stands_123 (by decide) (fun h => ?_) (fun h => ?_)
          · exact w153 _ _ _ _ _ _ _ _ _ hw (lv_sub hl [0, 1, 2, 3, 4, 5] rfl) h
          · refine lv_iload hx hb dX12_stands_126 (lv_at hl 3 rfl) ?_
            refine x_if_eq (tgt := 149) hx hb h dX12_stands_128 (by decide) (fun h => ?_) (fun h => ?_)
            · exact w149 _ _ _ _ _ _ _ _ _ hw (lv_sub hl [0, 1, 2, 3, 4, 5] rfl) h
            · refine lv_aload_n hx hb dX12_stands_131 rfl (lv_at hl 0 rfl) ?_
              refine xh_getr C hw 0 23 sM_0 (x_lt hN rfl) rfl rfl rfl lk_RX12_37 dX12_stands_132 ?_
              refine lv_iload hx hb dX12_stands_135 (lv_at hl 5 rfl) ?_
              refine xh_iald C hw 10 100 h sM_10 (x_lt hN rfl) dX12_stands_137 (fun r137 h => ?_)
              refine lv_iload_n hx hb dX12_stands_138 rfl (lv_at hl 2 rfl) ?_
              refine lv_aload_n hx hb dX12_stands_139 rfl (lv_at hl 0 rfl) ?_
              refine xh_getr C hw 0 0 sM_0 (x_lt hN rfl) rfl rfl rfl lk_RX12_7 dX12_stands_140 ?_
              refine lv_iconst (v := (nI 3)) hx hb dX12_stands_143 (by decide) ?_
              refine xh_iald C hw 1 5512 h sM_1 (x_lt hN rfl) dX12_stands_144 (fun r144 h => ?_)
              refine lv_iadd hx hb dX12_stands_145 ?_
              refine x_icmp_gt (tgt := 153) hx hb h dX12_stands_146 (by decide) (fun h => ?_) (fun h => ?_)
              · exact w153 _ _ _ _ _ _ _ _ _ hw (lv_sub hl [0, 1, 2, 3, 4, 5] rfl) h
              · exact w149 _ _ _ _ _ _ _ _ _ hw (lv_sub hl [0, 1, 2, 3, 4, 5] rfl) h
  unfold f_X12_stands at h
  refine lv_aload_n hx hb dX12_stands_0 rfl (lv_at hl 0 rfl) ?_
  refine lv_iload_n hx hb dX12_stands_1 rfl (lv_at hl 1 rfl) ?_
  refine xh_cVi C hw (rest := []) h (fun _ hz => c_X12_isMember hq hz) ml_RX12_87 mv_X12_isMember sM_0 (x_lt hN rfl) rfl ⟨rfl, rfl, by decide, by decide⟩ rfl hl.1 rfl (Nat.le_of_ble_eq_true rfl) dX12_stands_2 (fun H locs r2 M hw h => ?_)
  refine x_if_eq (tgt := 32) hx hb h dX12_stands_5 (by decide) (fun h => ?_) (fun h => ?_)
  · exact w32 _ _ _ _ hw (lv_sub hl [] rfl) h
  · refine lv_iload_n hx hb dX12_stands_8 rfl (lv_at hl 2 rfl) ?_
    refine xh_cSi C hw (rest := []) h (fun _ hz => c_X12_isDay hq hz) ml_RX12_194 st_X12_isDay ⟨rfl, rfl, by decide, by decide⟩ rfl hl.1 rfl (Nat.le_of_ble_eq_true rfl) dX12_stands_9 (fun H locs r9 M hw h => ?_)
    refine x_if_eq (tgt := 32) hx hb h dX12_stands_12 (by decide) (fun h => ?_) (fun h => ?_)
    · exact w32 _ _ _ _ hw (lv_sub hl [] rfl) h
    · refine lv_iload_n hx hb dX12_stands_15 rfl (lv_at hl 3 rfl) ?_
      refine xh_cSi C hw (rest := []) h (fun _ hz => c_X12_isDay hq hz) ml_RX12_194 st_X12_isDay ⟨rfl, rfl, by decide, by decide⟩ rfl hl.1 rfl (Nat.le_of_ble_eq_true rfl) dX12_stands_16 (fun H locs r16 M hw h => ?_)
      refine x_if_eq (tgt := 32) hx hb h dX12_stands_19 (by decide) (fun h => ?_) (fun h => ?_)
      · exact w32 _ _ _ _ hw (lv_sub hl [] rfl) h
      · refine lv_iload hx hb dX12_stands_22 (lv_at hl 4 rfl) ?_
        refine lv_iconst (v := (nI 0)) hx hb dX12_stands_24 (by decide) ?_
        refine lv_iconst (v := (nI 4)) hx hb dX12_stands_25 (by decide) ?_
        refine xh_cSi C hw (rest := []) h (fun _ hz => c_X12_in hq hz) ml_RX12_81 st_X12_in ⟨rfl, rfl, by decide, by decide⟩ rfl hl.1 rfl (Nat.le_of_ble_eq_true rfl) dX12_stands_26 (fun H locs r26 M hw h => ?_)
        refine x_if_ne (tgt := 35) hx hb h dX12_stands_29 (by decide) (fun h => ?_) (fun h => ?_)
        · exact w32 _ _ _ _ hw (lv_sub hl [] rfl) h
        · refine lv_aload_n hx hb dX12_stands_35 rfl (lv_at hl 0 rfl) ?_
          refine lv_iload_n hx hb dX12_stands_36 rfl (lv_at hl 2 rfl) ?_
          refine lv_iload_n hx hb dX12_stands_37 rfl (lv_at hl 3 rfl) ?_
          refine xh_cVv C hw (rest := []) h (fun _ hz => c_X12_stand hq hz) ml_RX12_255 mv_X12_stand sM_0 (x_lt hN rfl) rfl ⟨rfl, rfl, by decide, by decide⟩ rfl hl.1 rfl (Nat.le_of_ble_eq_true rfl) dX12_stands_38 (fun H locs _ M hw h => ?_)
          refine lv_iload hx hb dX12_stands_41 (lv_at hl 4 rfl) ?_
          refine lv_iconst (v := (nI 1)) hx hb dX12_stands_43 (by decide) ?_
          refine x_icmp_ne (tgt := 62) hx hb h dX12_stands_44 (by decide) (fun h => ?_) (fun h => ?_)
          · refine lv_aload_n hx hb dX12_stands_47 rfl (lv_at hl 0 rfl) ?_
            refine xh_getr C hw 0 25 sM_0 (x_lt hN rfl) rfl rfl rfl lk_RX12_40 dX12_stands_48 ?_
            refine lv_iconst (v := (nI 4)) hx hb dX12_stands_51 (by decide) ?_
            refine lv_iload_n hx hb dX12_stands_52 rfl (lv_at hl 1 rfl) ?_
            refine lv_imul hx hb dX12_stands_53 ?_
            refine lv_iload_n hx hb dX12_stands_54 rfl (lv_at hl 2 rfl) ?_
            refine lv_sipush (v := (nI 360)) hx hb dX12_stands_55 (by decide) ?_
            refine xh_idiv hx hb h dX12_stands_58 (fun h => ?_)
            refine lv_iadd hx hb dX12_stands_59 ?_
            refine xh_iald C hw 11 40 h sM_11 (x_lt hN rfl) dX12_stands_60 (fun r60 h => ?_)
            exact hret dX12_stands_61 rfl hw h
          · refine lv_iload hx hb dX12_stands_62 (lv_at hl 4 rfl) ?_
            refine lv_iconst (v := (nI 2)) hx hb dX12_stands_64 (by decide) ?_
            refine x_icmp_ne (tgt := 75) hx hb h dX12_stands_65 (by decide) (fun h => ?_) (fun h => ?_)
            · refine lv_aload_n hx hb dX12_stands_68 rfl (lv_at hl 0 rfl) ?_
              refine lv_iload_n hx hb dX12_stands_69 rfl (lv_at hl 1 rfl) ?_
              refine lv_iload_n hx hb dX12_stands_70 rfl (lv_at hl 2 rfl) ?_
              refine xh_cVi C hw (rest := []) h (fun _ hz => c_X12_tierOn hq hz) ml_RX12_227 mv_X12_tierOn sM_0 (x_lt hN rfl) rfl ⟨rfl, rfl, by decide, by decide⟩ rfl hl.1 rfl (Nat.le_of_ble_eq_true rfl) dX12_stands_71 (fun H locs r71 M hw h => ?_)
              exact hret dX12_stands_74 rfl hw h
            · refine lv_iconst (v := (nI 0)) hx hb dX12_stands_75 (by decide) ?_
              refine lv_istore (lv' := [(5, .int _), (0, .ref (q 0)), (1, .int _), (2, .int _), (3, .int _), (4, .int _)]) hx hb dX12_stands_76 hl (by decide) rfl (fun ls hl => ?_)
              refine lv_iconst (v := (nI 0)) hx hb dX12_stands_78 (by decide) ?_
              refine lv_istore (lv' := [(6, .int _), (5, .int _), (0, .ref (q 0)), (1, .int _), (2, .int _), (3, .int _), (4, .int _)]) hx hb dX12_stands_79 hl (by decide) rfl (fun ls hl => ?_)
              exact w81 _ _ _ _ _ _ _ _ _ _ hw (lv_sub hl [2, 3, 4, 6, 1, 0] rfl) h
def f_X12_brought_22 (M : x_M) : Option (Int32 × x_M) := some ((-1000000001), M)
def f_X12_brought_52 (M : x_M) : Option (Int32 × x_M) := some ((-1000000002), M)
def f_X12_brought (M : x_M) (a1 : Int32) (a2 : Int32) (a3 : Int32) : Option (Int32 × x_M) := x_bn (f_X12_isLine M a1) (fun r2 M => if r2 = 0 then f_X12_brought_22 M else x_bn (f_X12_isDay M a2) (fun r9 M => if r9 = 0 then f_X12_brought_22 M else x_bn (f_X12_isDay M a3) (fun r16 M => if r16 = 0 then f_X12_brought_22 M else x_bn (f_X12_isKnown M a1 a3) (fun r28 M => if r28 = 0 then f_X12_brought_52 M else x_rd 5512 (M 1) (((nI 50) + ((nI 10) * a1)) + (nI 2)) (fun r47 => if r47 ≤ a2 then x_bn (f_X12_stand M a2 a3) (fun _ M => x_rd 100 (M 14) a1 (fun r66 => some (r66, M))) else f_X12_brought_52 M)))))
abbrev rm_X12_brought : Room := { frames := 7, cells := 0, slots := 0, locals := 174 }
set_option maxHeartbeats 4000000 in
set_option maxRecDepth 100000 in
theorem c_X12_brought {l : Launch} {D : va_G} {cy : Nat → ClassId} {q ad : Nat → Nat} {s0 : State} (hq : x_Q q 24 s0.heap.size) {M : x_M} {a1 : Int32} {a2 : Int32} {a3 : Int32} {z : Int32 × x_M} (h : f_X12_brought M a1 a2 a3 = some z) : x_Ci l D cy q ad x_spM 24 s0 yX12_brought (x_uw yX12_brought cX12_brought 4 (some .int)) rm_X12_brought [.ref (q 0), .int a1, .int a2, .int a3] M z.1 z.2 := by
  have hN : 24 ≤ 24 := Nat.le_refl _
  refine x_meti hq (by decide) (Nat.le_of_ble_eq_true rfl) ?_
  intro p e s m args below meth c ls Q C hret hl hw
  have hx := C.1.1
  have hb := C.1.2.1
  have ho := C.1.2.2.2.1
  have hL := C.1.2.2.2.2
  have hl : lv_has ls 4 [(0, .ref (q 0)), (1, .int a1), (2, .int a2), (3, .int a3)] := hl
  have w22 : ∀ (M : x_M) (H : Heap) (locs : List Loc) (ls : Array Slot), x_B D cy q ad x_spM 24 s H locs M → lv_has ls 4 [] → f_X12_brought_22 M = some z → W p l e rm_X12_brought s m args below meth c H locs 0 0 Q (F0 m 22 ls []) := by
    intro M H locs ls hw hl h
    unfold f_X12_brought_22 at h
    refine lv_ldc hx hb ho (hL _ kc_RX12_85) dX12_brought_22 ?_
    exact hret dX12_brought_24 rfl hw h
  have w52 : ∀ (M : x_M) (H : Heap) (locs : List Loc) (ls : Array Slot), x_B D cy q ad x_spM 24 s H locs M → lv_has ls 4 [] → f_X12_brought_52 M = some z → W p l e rm_X12_brought s m args below meth c H locs 0 0 Q (F0 m 52 ls []) := by
    intro M H locs ls hw hl h
    unfold f_X12_brought_52 at h
    refine lv_ldc hx hb ho (hL _ kc_RX12_111) dX12_brought_52 ?_
    exact hret dX12_brought_54 rfl hw h
  unfold f_X12_brought at h
  refine lv_aload_n hx hb dX12_brought_0 rfl (lv_at hl 0 rfl) ?_
  refine lv_iload_n hx hb dX12_brought_1 rfl (lv_at hl 1 rfl) ?_
  refine xh_cVi C hw (rest := []) h (fun _ hz => c_X12_isLine hq hz) ml_RX12_108 mv_X12_isLine sM_0 (x_lt hN rfl) rfl ⟨rfl, rfl, by decide, by decide⟩ rfl hl.1 rfl (Nat.le_of_ble_eq_true rfl) dX12_brought_2 (fun H locs r2 M hw h => ?_)
  refine x_if_eq (tgt := 22) hx hb h dX12_brought_5 (by decide) (fun h => ?_) (fun h => ?_)
  · exact w22 _ _ _ _ hw (lv_sub hl [] rfl) h
  · refine lv_iload_n hx hb dX12_brought_8 rfl (lv_at hl 2 rfl) ?_
    refine xh_cSi C hw (rest := []) h (fun _ hz => c_X12_isDay hq hz) ml_RX12_194 st_X12_isDay ⟨rfl, rfl, by decide, by decide⟩ rfl hl.1 rfl (Nat.le_of_ble_eq_true rfl) dX12_brought_9 (fun H locs r9 M hw h => ?_)
    refine x_if_eq (tgt := 22) hx hb h dX12_brought_12 (by decide) (fun h => ?_) (fun h => ?_)
    · exact w22 _ _ _ _ hw (lv_sub hl [] rfl) h
    · refine lv_iload_n hx hb dX12_brought_15 rfl (lv_at hl 3 rfl) ?_
      refine xh_cSi C hw (rest := []) h (fun _ hz => c_X12_isDay hq hz) ml_RX12_194 st_X12_isDay ⟨rfl, rfl, by decide, by decide⟩ rfl hl.1 rfl (Nat.le_of_ble_eq_true rfl) dX12_brought_16 (fun H locs r16 M hw h => ?_)
      refine x_if_ne (tgt := 25) hx hb h dX12_brought_19 (by decide) (fun h => ?_) (fun h => ?_)
      · exact w22 _ _ _ _ hw (lv_sub hl [] rfl) h
      · refine lv_aload_n hx hb dX12_brought_25 rfl (lv_at hl 0 rfl) ?_
        refine lv_iload_n hx hb dX12_brought_26 rfl (lv_at hl 1 rfl) ?_
        refine lv_iload_n hx hb dX12_brought_27 rfl (lv_at hl 3 rfl) ?_
        refine xh_cVi C hw (rest := []) h (fun _ hz => c_X12_isKnown hq hz) ml_RX12_249 mv_X12_isKnown sM_0 (x_lt hN rfl) rfl ⟨rfl, rfl, by decide, by decide⟩ rfl hl.1 rfl (Nat.le_of_ble_eq_true rfl) dX12_brought_28 (fun H locs r28 M hw h => ?_)
        refine x_if_eq (tgt := 52) hx hb h dX12_brought_31 (by decide) (fun h => ?_) (fun h => ?_)
        · exact w52 _ _ _ _ hw (lv_sub hl [] rfl) h
        · refine lv_aload_n hx hb dX12_brought_34 rfl (lv_at hl 0 rfl) ?_
          refine xh_getr C hw 0 0 sM_0 (x_lt hN rfl) rfl rfl rfl lk_RX12_7 dX12_brought_35 ?_
          refine lv_bipush (v := (nI 50)) hx hb dX12_brought_38 (by decide) ?_
          refine lv_bipush (v := (nI 10)) hx hb dX12_brought_40 (by decide) ?_
          refine lv_iload_n hx hb dX12_brought_42 rfl (lv_at hl 1 rfl) ?_
          refine lv_imul hx hb dX12_brought_43 ?_
          refine lv_iadd hx hb dX12_brought_44 ?_
          refine lv_iconst (v := (nI 2)) hx hb dX12_brought_45 (by decide) ?_
          refine lv_iadd hx hb dX12_brought_46 ?_
          refine xh_iald C hw 1 5512 h sM_1 (x_lt hN rfl) dX12_brought_47 (fun r47 h => ?_)
          refine lv_iload_n hx hb dX12_brought_48 rfl (lv_at hl 2 rfl) ?_
          refine x_icmp_le (tgt := 55) hx hb h dX12_brought_49 (by decide) (fun h => ?_) (fun h => ?_)
          · refine lv_aload_n hx hb dX12_brought_55 rfl (lv_at hl 0 rfl) ?_
            refine lv_iload_n hx hb dX12_brought_56 rfl (lv_at hl 2 rfl) ?_
            refine lv_iload_n hx hb dX12_brought_57 rfl (lv_at hl 3 rfl) ?_
            refine xh_cVv C hw (rest := []) h (fun _ hz => c_X12_stand hq hz) ml_RX12_255 mv_X12_stand sM_0 (x_lt hN rfl) rfl ⟨rfl, rfl, by decide, by decide⟩ rfl hl.1 rfl (Nat.le_of_ble_eq_true rfl) dX12_brought_58 (fun H locs _ M hw h => ?_)
            refine lv_aload_n hx hb dX12_brought_61 rfl (lv_at hl 0 rfl) ?_
            refine xh_getr C hw 0 28 sM_0 (x_lt hN rfl) rfl rfl rfl lk_RX12_49 dX12_brought_62 ?_
            refine lv_iload_n hx hb dX12_brought_65 rfl (lv_at hl 1 rfl) ?_
            refine xh_iald C hw 14 100 h sM_14 (x_lt hN rfl) dX12_brought_66 (fun r66 h => ?_)
            exact hret dX12_brought_67 rfl hw h
          · exact w52 _ _ _ _ hw (lv_sub hl [] rfl) h
def f_X12_owes_23 (M : x_M) : Option (Int32 × x_M) := some ((-1000000001), M)
def f_X12_owes (M : x_M) (a1 : Int32) (a2 : Int32) (a3 : Int32) : Option (Int32 × x_M) := x_bn (f_X12_in M a1 (nI 1) (nI 3)) (fun r3 M => if r3 = 0 then f_X12_owes_23 M else x_bn (f_X12_isDay M a2) (fun r10 M => if r10 = 0 then f_X12_owes_23 M else x_bn (f_X12_isDay M a3) (fun r17 M => if r17 = 0 then f_X12_owes_23 M else x_bn (f_X12_stand M a2 a3) (fun _ M => x_rd 4 (M 12) a1 (fun r37 => x_rd 5512 (M 1) (((nI 10) + ((nI 2) * a1)) - (nI 2)) (fun r51 => x_dl (1000 : Int64) (x_rd 4 (M 13) a1 (fun r67 => x_rd 5512 (M 1) (((nI 10) + ((nI 2) * a1)) - (nI 1)) (fun r81 => x_dl (1000 : Int64) (some ((((((((r37).toInt64) * ((r51).toInt64)) / (1000 : Int64)) - ((((r67).toInt64) * ((r81).toInt64)) / (1000 : Int64)))).toInt32), M)))))))))))
abbrev rm_X12_owes : Room := { frames := 7, cells := 0, slots := 0, locals := 174 }
set_option maxHeartbeats 4000000 in
set_option maxRecDepth 100000 in
theorem c_X12_owes {l : Launch} {D : va_G} {cy : Nat → ClassId} {q ad : Nat → Nat} {s0 : State} (hq : x_Q q 24 s0.heap.size) {M : x_M} {a1 : Int32} {a2 : Int32} {a3 : Int32} {z : Int32 × x_M} (h : f_X12_owes M a1 a2 a3 = some z) : x_Ci l D cy q ad x_spM 24 s0 yX12_owes (x_uw yX12_owes cX12_owes 6 (some .int)) rm_X12_owes [.ref (q 0), .int a1, .int a2, .int a3] M z.1 z.2 := by
  have hN : 24 ≤ 24 := Nat.le_refl _
  refine x_meti hq (by decide) (Nat.le_of_ble_eq_true rfl) ?_
  intro p e s m args below meth c ls Q C hret hl hw
  have hx := C.1.1
  have hb := C.1.2.1
  have ho := C.1.2.2.2.1
  have hL := C.1.2.2.2.2
  have hl : lv_has ls 6 [(0, .ref (q 0)), (1, .int a1), (2, .int a2), (3, .int a3)] := hl
  have w23 : ∀ (M : x_M) (H : Heap) (locs : List Loc) (ls : Array Slot), x_B D cy q ad x_spM 24 s H locs M → lv_has ls 6 [] → f_X12_owes_23 M = some z → W p l e rm_X12_owes s m args below meth c H locs 0 0 Q (F0 m 23 ls []) := by
    intro M H locs ls hw hl h
    unfold f_X12_owes_23 at h
    refine lv_ldc hx hb ho (hL _ kc_RX12_85) dX12_owes_23 ?_
    exact hret dX12_owes_25 rfl hw h
  unfold f_X12_owes at h
  refine lv_iload_n hx hb dX12_owes_0 rfl (lv_at hl 1 rfl) ?_
  refine lv_iconst (v := (nI 1)) hx hb dX12_owes_1 (by decide) ?_
  refine lv_iconst (v := (nI 3)) hx hb dX12_owes_2 (by decide) ?_
  refine xh_cSi C hw (rest := []) h (fun _ hz => c_X12_in hq hz) ml_RX12_81 st_X12_in ⟨rfl, rfl, by decide, by decide⟩ rfl hl.1 rfl (Nat.le_of_ble_eq_true rfl) dX12_owes_3 (fun H locs r3 M hw h => ?_)
  refine x_if_eq (tgt := 23) hx hb h dX12_owes_6 (by decide) (fun h => ?_) (fun h => ?_)
  · exact w23 _ _ _ _ hw (lv_sub hl [] rfl) h
  · refine lv_iload_n hx hb dX12_owes_9 rfl (lv_at hl 2 rfl) ?_
    refine xh_cSi C hw (rest := []) h (fun _ hz => c_X12_isDay hq hz) ml_RX12_194 st_X12_isDay ⟨rfl, rfl, by decide, by decide⟩ rfl hl.1 rfl (Nat.le_of_ble_eq_true rfl) dX12_owes_10 (fun H locs r10 M hw h => ?_)
    refine x_if_eq (tgt := 23) hx hb h dX12_owes_13 (by decide) (fun h => ?_) (fun h => ?_)
    · exact w23 _ _ _ _ hw (lv_sub hl [] rfl) h
    · refine lv_iload_n hx hb dX12_owes_16 rfl (lv_at hl 3 rfl) ?_
      refine xh_cSi C hw (rest := []) h (fun _ hz => c_X12_isDay hq hz) ml_RX12_194 st_X12_isDay ⟨rfl, rfl, by decide, by decide⟩ rfl hl.1 rfl (Nat.le_of_ble_eq_true rfl) dX12_owes_17 (fun H locs r17 M hw h => ?_)
      refine x_if_ne (tgt := 26) hx hb h dX12_owes_20 (by decide) (fun h => ?_) (fun h => ?_)
      · exact w23 _ _ _ _ hw (lv_sub hl [] rfl) h
      · refine lv_aload_n hx hb dX12_owes_26 rfl (lv_at hl 0 rfl) ?_
        refine lv_iload_n hx hb dX12_owes_27 rfl (lv_at hl 2 rfl) ?_
        refine lv_iload_n hx hb dX12_owes_28 rfl (lv_at hl 3 rfl) ?_
        refine xh_cVv C hw (rest := []) h (fun _ hz => c_X12_stand hq hz) ml_RX12_255 mv_X12_stand sM_0 (x_lt hN rfl) rfl ⟨rfl, rfl, by decide, by decide⟩ rfl hl.1 rfl (Nat.le_of_ble_eq_true rfl) dX12_owes_29 (fun H locs _ M hw h => ?_)
        refine lv_aload_n hx hb dX12_owes_32 rfl (lv_at hl 0 rfl) ?_
        refine xh_getr C hw 0 26 sM_0 (x_lt hN rfl) rfl rfl rfl lk_RX12_43 dX12_owes_33 ?_
        refine lv_iload_n hx hb dX12_owes_36 rfl (lv_at hl 1 rfl) ?_
        refine xh_iald C hw 12 4 h sM_12 (x_lt hN rfl) dX12_owes_37 (fun r37 h => ?_)
        refine lv_i2l hx hb dX12_owes_38 rfl ?_
        refine lv_aload_n hx hb dX12_owes_39 rfl (lv_at hl 0 rfl) ?_
        refine xh_getr C hw 0 0 sM_0 (x_lt hN rfl) rfl rfl rfl lk_RX12_7 dX12_owes_40 ?_
        refine lv_bipush (v := (nI 10)) hx hb dX12_owes_43 (by decide) ?_
        refine lv_iconst (v := (nI 2)) hx hb dX12_owes_45 (by decide) ?_
        refine lv_iload_n hx hb dX12_owes_46 rfl (lv_at hl 1 rfl) ?_
        refine lv_imul hx hb dX12_owes_47 ?_
        refine lv_iadd hx hb dX12_owes_48 ?_
        refine lv_iconst (v := (nI 2)) hx hb dX12_owes_49 (by decide) ?_
        refine lv_isub hx hb dX12_owes_50 ?_
        refine xh_iald C hw 1 5512 h sM_1 (x_lt hN rfl) dX12_owes_51 (fun r51 h => ?_)
        refine lv_i2l hx hb dX12_owes_52 rfl ?_
        refine lv_lmul hx hb dX12_owes_53 ?_
        refine lv_ldc2 hx hb ho (hL _ kl_RX12_258) dX12_owes_54 ?_
        refine xh_ldiv hx hb h dX12_owes_57 (fun h => ?_)
        refine lv_lstore (lv' := [(4, .long _), (0, .ref (q 0)), (1, .int _), (2, .int _), (3, .int _)]) hx hb dX12_owes_58 hl (by decide) rfl (fun ls hl => ?_)
        refine lv_lload hx hb dX12_owes_60 (lv_at hl 0 rfl) ?_
        refine lv_aload_n hx hb dX12_owes_62 rfl (lv_at hl 1 rfl) ?_
        refine xh_getr C hw 0 27 sM_0 (x_lt hN rfl) rfl rfl rfl lk_RX12_46 dX12_owes_63 ?_
        refine lv_iload_n hx hb dX12_owes_66 rfl (lv_at hl 2 rfl) ?_
        refine xh_iald C hw 13 4 h sM_13 (x_lt hN rfl) dX12_owes_67 (fun r67 h => ?_)
        refine lv_i2l hx hb dX12_owes_68 rfl ?_
        refine lv_aload_n hx hb dX12_owes_69 rfl (lv_at hl 1 rfl) ?_
        refine xh_getr C hw 0 0 sM_0 (x_lt hN rfl) rfl rfl rfl lk_RX12_7 dX12_owes_70 ?_
        refine lv_bipush (v := (nI 10)) hx hb dX12_owes_73 (by decide) ?_
        refine lv_iconst (v := (nI 2)) hx hb dX12_owes_75 (by decide) ?_
        refine lv_iload_n hx hb dX12_owes_76 rfl (lv_at hl 2 rfl) ?_
        refine lv_imul hx hb dX12_owes_77 ?_
        refine lv_iadd hx hb dX12_owes_78 ?_
        refine lv_iconst (v := (nI 1)) hx hb dX12_owes_79 (by decide) ?_
        refine lv_isub hx hb dX12_owes_80 ?_
        refine xh_iald C hw 1 5512 h sM_1 (x_lt hN rfl) dX12_owes_81 (fun r81 h => ?_)
        refine lv_i2l hx hb dX12_owes_82 rfl ?_
        refine lv_lmul hx hb dX12_owes_83 ?_
        refine lv_ldc2 hx hb ho (hL _ kl_RX12_258) dX12_owes_84 ?_
        refine xh_ldiv hx hb h dX12_owes_87 (fun h => ?_)
        refine lv_lsub hx hb dX12_owes_88 ?_
        refine lv_l2i hx hb dX12_owes_89 rfl ?_
        exact hret dX12_owes_90 rfl hw h
def f_X12_rate_29 (M : x_M) : Option (Int32 × x_M) := some ((-1000000001), M)
def f_X12_rate (M : x_M) (a1 : Int32) (a2 : Int32) (a3 : Int32) : Option (Int32 × x_M) := x_bn (f_X12_in M a1 (nI 1) (nI 3)) (fun r3 M => if r3 = 0 then f_X12_rate_29 M else x_bn (f_X12_in M a2 (nI 0) (nI 1)) (fun r12 M => if r12 = 0 then f_X12_rate_29 M else x_bn (f_X12_in M a3 (nI 0) (nI 999)) (fun r23 M => if r23 = 0 then f_X12_rate_29 M else x_rd 5512 (M 1) ((((nI 10) + ((nI 2) * a1)) - (nI 2)) + a2) (fun r50 => x_wr 5512 M 1 ((((nI 10) + ((nI 2) * a1)) - (nI 2)) + a2) a3 (fun M => some (r50, M))))))
abbrev rm_X12_rate : Room := { frames := 1, cells := 0, slots := 0, locals := 22 }
set_option maxHeartbeats 4000000 in
set_option maxRecDepth 100000 in
theorem c_X12_rate {l : Launch} {D : va_G} {cy : Nat → ClassId} {q ad : Nat → Nat} {s0 : State} (hq : x_Q q 24 s0.heap.size) {M : x_M} {a1 : Int32} {a2 : Int32} {a3 : Int32} {z : Int32 × x_M} (h : f_X12_rate M a1 a2 a3 = some z) : x_Ci l D cy q ad x_spM 24 s0 yX12_rate (x_uw yX12_rate cX12_rate 6 (some .int)) rm_X12_rate [.ref (q 0), .int a1, .int a2, .int a3] M z.1 z.2 := by
  have hN : 24 ≤ 24 := Nat.le_refl _
  refine x_meti hq (by decide) (Nat.le_of_ble_eq_true rfl) ?_
  intro p e s m args below meth c ls Q C hret hl hw
  have hx := C.1.1
  have hb := C.1.2.1
  have ho := C.1.2.2.2.1
  have hL := C.1.2.2.2.2
  have hl : lv_has ls 6 [(0, .ref (q 0)), (1, .int a1), (2, .int a2), (3, .int a3)] := hl
  have w29 : ∀ (M : x_M) (H : Heap) (locs : List Loc) (ls : Array Slot), x_B D cy q ad x_spM 24 s H locs M → lv_has ls 6 [] → f_X12_rate_29 M = some z → W p l e rm_X12_rate s m args below meth c H locs 0 0 Q (F0 m 29 ls []) := by
    intro M H locs ls hw hl h
    unfold f_X12_rate_29 at h
    refine lv_ldc hx hb ho (hL _ kc_RX12_85) dX12_rate_29 ?_
    exact hret dX12_rate_31 rfl hw h
  unfold f_X12_rate at h
  refine lv_iload_n hx hb dX12_rate_0 rfl (lv_at hl 1 rfl) ?_
  refine lv_iconst (v := (nI 1)) hx hb dX12_rate_1 (by decide) ?_
  refine lv_iconst (v := (nI 3)) hx hb dX12_rate_2 (by decide) ?_
  refine xh_cSi C hw (rest := []) h (fun _ hz => c_X12_in hq hz) ml_RX12_81 st_X12_in ⟨rfl, rfl, by decide, by decide⟩ rfl hl.1 rfl (Nat.le_of_ble_eq_true rfl) dX12_rate_3 (fun H locs r3 M hw h => ?_)
  refine x_if_eq (tgt := 29) hx hb h dX12_rate_6 (by decide) (fun h => ?_) (fun h => ?_)
  · exact w29 _ _ _ _ hw (lv_sub hl [] rfl) h
  · refine lv_iload_n hx hb dX12_rate_9 rfl (lv_at hl 2 rfl) ?_
    refine lv_iconst (v := (nI 0)) hx hb dX12_rate_10 (by decide) ?_
    refine lv_iconst (v := (nI 1)) hx hb dX12_rate_11 (by decide) ?_
    refine xh_cSi C hw (rest := []) h (fun _ hz => c_X12_in hq hz) ml_RX12_81 st_X12_in ⟨rfl, rfl, by decide, by decide⟩ rfl hl.1 rfl (Nat.le_of_ble_eq_true rfl) dX12_rate_12 (fun H locs r12 M hw h => ?_)
    refine x_if_eq (tgt := 29) hx hb h dX12_rate_15 (by decide) (fun h => ?_) (fun h => ?_)
    · exact w29 _ _ _ _ hw (lv_sub hl [] rfl) h
    · refine lv_iload_n hx hb dX12_rate_18 rfl (lv_at hl 3 rfl) ?_
      refine lv_iconst (v := (nI 0)) hx hb dX12_rate_19 (by decide) ?_
      refine lv_sipush (v := (nI 999)) hx hb dX12_rate_20 (by decide) ?_
      refine xh_cSi C hw (rest := []) h (fun _ hz => c_X12_in hq hz) ml_RX12_81 st_X12_in ⟨rfl, rfl, by decide, by decide⟩ rfl hl.1 rfl (Nat.le_of_ble_eq_true rfl) dX12_rate_23 (fun H locs r23 M hw h => ?_)
      refine x_if_ne (tgt := 32) hx hb h dX12_rate_26 (by decide) (fun h => ?_) (fun h => ?_)
      · exact w29 _ _ _ _ hw (lv_sub hl [] rfl) h
      · refine lv_bipush (v := (nI 10)) hx hb dX12_rate_32 (by decide) ?_
        refine lv_iconst (v := (nI 2)) hx hb dX12_rate_34 (by decide) ?_
        refine lv_iload_n hx hb dX12_rate_35 rfl (lv_at hl 1 rfl) ?_
        refine lv_imul hx hb dX12_rate_36 ?_
        refine lv_iadd hx hb dX12_rate_37 ?_
        refine lv_iconst (v := (nI 2)) hx hb dX12_rate_38 (by decide) ?_
        refine lv_isub hx hb dX12_rate_39 ?_
        refine lv_iload_n hx hb dX12_rate_40 rfl (lv_at hl 2 rfl) ?_
        refine lv_iadd hx hb dX12_rate_41 ?_
        refine lv_istore (lv' := [(4, .int _), (0, .ref (q 0)), (1, .int _), (2, .int _), (3, .int _)]) hx hb dX12_rate_42 hl (by decide) rfl (fun ls hl => ?_)
        refine lv_aload_n hx hb dX12_rate_44 rfl (lv_at hl 1 rfl) ?_
        refine xh_getr C hw 0 0 sM_0 (x_lt hN rfl) rfl rfl rfl lk_RX12_7 dX12_rate_45 ?_
        refine lv_iload hx hb dX12_rate_48 (lv_at hl 0 rfl) ?_
        refine xh_iald C hw 1 5512 h sM_1 (x_lt hN rfl) dX12_rate_50 (fun r50 h => ?_)
        refine lv_istore (lv' := [(5, .int _), (4, .int _), (0, .ref (q 0)), (1, .int _), (2, .int _), (3, .int _)]) hx hb dX12_rate_51 hl (by decide) rfl (fun ls hl => ?_)
        refine lv_aload_n hx hb dX12_rate_53 rfl (lv_at hl 2 rfl) ?_
        refine xh_getr C hw 0 0 sM_0 (x_lt hN rfl) rfl rfl rfl lk_RX12_7 dX12_rate_54 ?_
        refine lv_iload hx hb dX12_rate_57 (lv_at hl 1 rfl) ?_
        refine lv_iload_n hx hb dX12_rate_59 rfl (lv_at hl 5 rfl) ?_
        refine xh_iast C hw 1 5512 h sM_1 (x_lt hN rfl) dX12_rate_60 (fun H locs M hw h => ?_)
        refine lv_iload hx hb dX12_rate_61 (lv_at hl 0 rfl) ?_
        exact hret dX12_rate_63 rfl hw h
def f_X12_flight_49 (M : x_M) : Option (Int32 × x_M) := some ((-1000000001), M)
def f_X12_flight (M : x_M) (a1 : Int32) (a2 : Int32) (a3 : Int32) (a4 : Int32) : Option (Int32 × x_M) := x_rd 5512 (M 1) (nI 0) (fun r6 => x_bn (f_X12_in M a1 (r6 + (nI 1)) (nI 1200)) (fun r12 M => if r12 = 0 then f_X12_flight_49 M else x_bn (f_X12_in M a2 (nI 1) (nI 9999)) (fun r23 M => if r23 = 0 then f_X12_flight_49 M else x_bn (f_X12_in M a3 (nI 0) (nI 3)) (fun r32 M => if r32 = 0 then f_X12_flight_49 M else x_bn (f_X12_in M a4 (nI 0) (nI 9)) (fun r43 M => if r43 = 0 then f_X12_flight_49 M else x_rd 5512 (M 1) (nI 7) (fun r58 => if r58 = (nI 8) then some ((-1000000003), M) else x_rd 5512 (M 1) (nI 7) (fun r77 => x_wr 5512 M 1 ((nI 5298) + ((nI 5) * r77)) a1 (fun M => x_wr 5512 M 1 (((nI 5298) + ((nI 5) * r77)) + (nI 1)) a2 (fun M => x_wr 5512 M 1 (((nI 5298) + ((nI 5) * r77)) + (nI 2)) a3 (fun M => x_wr 5512 M 1 (((nI 5298) + ((nI 5) * r77)) + (nI 3)) a4 (fun M => x_wr 5512 M 1 (((nI 5298) + ((nI 5) * r77)) + (nI 4)) a4 (fun M => x_rd 5512 (M 1) (nI 7) (fun r139 => x_wr 5512 M 1 (nI 7) (r139 + (nI 1)) (fun M => x_rd 5512 (M 1) (nI 7) (fun r149 => some ((r149 - (nI 1)), M))))))))))))))))
abbrev rm_X12_flight : Room := { frames := 1, cells := 0, slots := 0, locals := 22 }
set_option maxHeartbeats 4000000 in
set_option maxRecDepth 100000 in
theorem c_X12_flight {l : Launch} {D : va_G} {cy : Nat → ClassId} {q ad : Nat → Nat} {s0 : State} (hq : x_Q q 24 s0.heap.size) {M : x_M} {a1 : Int32} {a2 : Int32} {a3 : Int32} {a4 : Int32} {z : Int32 × x_M} (h : f_X12_flight M a1 a2 a3 a4 = some z) : x_Ci l D cy q ad x_spM 24 s0 yX12_flight (x_uw yX12_flight cX12_flight 6 (some .int)) rm_X12_flight [.ref (q 0), .int a1, .int a2, .int a3, .int a4] M z.1 z.2 := by
  have hN : 24 ≤ 24 := Nat.le_refl _
  refine x_meti hq (by decide) (Nat.le_of_ble_eq_true rfl) ?_
  intro p e s m args below meth c ls Q C hret hl hw
  have hx := C.1.1
  have hb := C.1.2.1
  have ho := C.1.2.2.2.1
  have hL := C.1.2.2.2.2
  have hl : lv_has ls 6 [(0, .ref (q 0)), (1, .int a1), (2, .int a2), (3, .int a3), (4, .int a4)] := hl
  have w49 : ∀ (M : x_M) (H : Heap) (locs : List Loc) (ls : Array Slot), x_B D cy q ad x_spM 24 s H locs M → lv_has ls 6 [] → f_X12_flight_49 M = some z → W p l e rm_X12_flight s m args below meth c H locs 0 0 Q (F0 m 49 ls []) := by
    intro M H locs ls hw hl h
    unfold f_X12_flight_49 at h
    refine lv_ldc hx hb ho (hL _ kc_RX12_85) dX12_flight_49 ?_
    exact hret dX12_flight_51 rfl hw h
  unfold f_X12_flight at h
  refine lv_iload_n hx hb dX12_flight_0 rfl (lv_at hl 1 rfl) ?_
  refine lv_aload_n hx hb dX12_flight_1 rfl (lv_at hl 0 rfl) ?_
  refine xh_getr C hw 0 0 sM_0 (x_lt hN rfl) rfl rfl rfl lk_RX12_7 dX12_flight_2 ?_
  refine lv_iconst (v := (nI 0)) hx hb dX12_flight_5 (by decide) ?_
  refine xh_iald C hw 1 5512 h sM_1 (x_lt hN rfl) dX12_flight_6 (fun r6 h => ?_)
  refine lv_iconst (v := (nI 1)) hx hb dX12_flight_7 (by decide) ?_
  refine lv_iadd hx hb dX12_flight_8 ?_
  refine lv_sipush (v := (nI 1200)) hx hb dX12_flight_9 (by decide) ?_
  refine xh_cSi C hw (rest := []) h (fun _ hz => c_X12_in hq hz) ml_RX12_81 st_X12_in ⟨rfl, rfl, by decide, by decide⟩ rfl hl.1 rfl (Nat.le_of_ble_eq_true rfl) dX12_flight_12 (fun H locs r12 M hw h => ?_)
  refine x_if_eq (tgt := 49) hx hb h dX12_flight_15 (by decide) (fun h => ?_) (fun h => ?_)
  · exact w49 _ _ _ _ hw (lv_sub hl [] rfl) h
  · refine lv_iload_n hx hb dX12_flight_18 rfl (lv_at hl 2 rfl) ?_
    refine lv_iconst (v := (nI 1)) hx hb dX12_flight_19 (by decide) ?_
    refine lv_sipush (v := (nI 9999)) hx hb dX12_flight_20 (by decide) ?_
    refine xh_cSi C hw (rest := []) h (fun _ hz => c_X12_in hq hz) ml_RX12_81 st_X12_in ⟨rfl, rfl, by decide, by decide⟩ rfl hl.1 rfl (Nat.le_of_ble_eq_true rfl) dX12_flight_23 (fun H locs r23 M hw h => ?_)
    refine x_if_eq (tgt := 49) hx hb h dX12_flight_26 (by decide) (fun h => ?_) (fun h => ?_)
    · exact w49 _ _ _ _ hw (lv_sub hl [] rfl) h
    · refine lv_iload_n hx hb dX12_flight_29 rfl (lv_at hl 3 rfl) ?_
      refine lv_iconst (v := (nI 0)) hx hb dX12_flight_30 (by decide) ?_
      refine lv_iconst (v := (nI 3)) hx hb dX12_flight_31 (by decide) ?_
      refine xh_cSi C hw (rest := []) h (fun _ hz => c_X12_in hq hz) ml_RX12_81 st_X12_in ⟨rfl, rfl, by decide, by decide⟩ rfl hl.1 rfl (Nat.le_of_ble_eq_true rfl) dX12_flight_32 (fun H locs r32 M hw h => ?_)
      refine x_if_eq (tgt := 49) hx hb h dX12_flight_35 (by decide) (fun h => ?_) (fun h => ?_)
      · exact w49 _ _ _ _ hw (lv_sub hl [] rfl) h
      · refine lv_iload hx hb dX12_flight_38 (lv_at hl 4 rfl) ?_
        refine lv_iconst (v := (nI 0)) hx hb dX12_flight_40 (by decide) ?_
        refine lv_bipush (v := (nI 9)) hx hb dX12_flight_41 (by decide) ?_
        refine xh_cSi C hw (rest := []) h (fun _ hz => c_X12_in hq hz) ml_RX12_81 st_X12_in ⟨rfl, rfl, by decide, by decide⟩ rfl hl.1 rfl (Nat.le_of_ble_eq_true rfl) dX12_flight_43 (fun H locs r43 M hw h => ?_)
        refine x_if_ne (tgt := 52) hx hb h dX12_flight_46 (by decide) (fun h => ?_) (fun h => ?_)
        · exact w49 _ _ _ _ hw (lv_sub hl [] rfl) h
        · refine lv_aload_n hx hb dX12_flight_52 rfl (lv_at hl 0 rfl) ?_
          refine xh_getr C hw 0 0 sM_0 (x_lt hN rfl) rfl rfl rfl lk_RX12_7 dX12_flight_53 ?_
          refine lv_bipush (v := (nI 7)) hx hb dX12_flight_56 (by decide) ?_
          refine xh_iald C hw 1 5512 h sM_1 (x_lt hN rfl) dX12_flight_58 (fun r58 h => ?_)
          refine lv_bipush (v := (nI 8)) hx hb dX12_flight_59 (by decide) ?_
          refine x_icmp_ne (tgt := 67) hx hb h dX12_flight_61 (by decide) (fun h => ?_) (fun h => ?_)
          · refine lv_ldc hx hb ho (hL _ kc_RX12_86) dX12_flight_64 ?_
            exact hret dX12_flight_66 rfl hw h
          · refine lv_sipush (v := (nI 5298)) hx hb dX12_flight_67 (by decide) ?_
            refine lv_iconst (v := (nI 5)) hx hb dX12_flight_70 (by decide) ?_
            refine lv_aload_n hx hb dX12_flight_71 rfl (lv_at hl 0 rfl) ?_
            refine xh_getr C hw 0 0 sM_0 (x_lt hN rfl) rfl rfl rfl lk_RX12_7 dX12_flight_72 ?_
            refine lv_bipush (v := (nI 7)) hx hb dX12_flight_75 (by decide) ?_
            refine xh_iald C hw 1 5512 h sM_1 (x_lt hN rfl) dX12_flight_77 (fun r77 h => ?_)
            refine lv_imul hx hb dX12_flight_78 ?_
            refine lv_iadd hx hb dX12_flight_79 ?_
            refine lv_istore (lv' := [(5, .int _), (0, .ref (q 0)), (1, .int _), (2, .int _), (3, .int _), (4, .int _)]) hx hb dX12_flight_80 hl (by decide) rfl (fun ls hl => ?_)
            refine lv_aload_n hx hb dX12_flight_82 rfl (lv_at hl 1 rfl) ?_
            refine xh_getr C hw 0 0 sM_0 (x_lt hN rfl) rfl rfl rfl lk_RX12_7 dX12_flight_83 ?_
            refine lv_iload hx hb dX12_flight_86 (lv_at hl 0 rfl) ?_
            refine lv_iload_n hx hb dX12_flight_88 rfl (lv_at hl 2 rfl) ?_
            refine xh_iast C hw 1 5512 h sM_1 (x_lt hN rfl) dX12_flight_89 (fun H locs M hw h => ?_)
            refine lv_aload_n hx hb dX12_flight_90 rfl (lv_at hl 1 rfl) ?_
            refine xh_getr C hw 0 0 sM_0 (x_lt hN rfl) rfl rfl rfl lk_RX12_7 dX12_flight_91 ?_
            refine lv_iload hx hb dX12_flight_94 (lv_at hl 0 rfl) ?_
            refine lv_iconst (v := (nI 1)) hx hb dX12_flight_96 (by decide) ?_
            refine lv_iadd hx hb dX12_flight_97 ?_
            refine lv_iload_n hx hb dX12_flight_98 rfl (lv_at hl 3 rfl) ?_
            refine xh_iast C hw 1 5512 h sM_1 (x_lt hN rfl) dX12_flight_99 (fun H locs M hw h => ?_)
            refine lv_aload_n hx hb dX12_flight_100 rfl (lv_at hl 1 rfl) ?_
            refine xh_getr C hw 0 0 sM_0 (x_lt hN rfl) rfl rfl rfl lk_RX12_7 dX12_flight_101 ?_
            refine lv_iload hx hb dX12_flight_104 (lv_at hl 0 rfl) ?_
            refine lv_iconst (v := (nI 2)) hx hb dX12_flight_106 (by decide) ?_
            refine lv_iadd hx hb dX12_flight_107 ?_
            refine lv_iload_n hx hb dX12_flight_108 rfl (lv_at hl 4 rfl) ?_
            refine xh_iast C hw 1 5512 h sM_1 (x_lt hN rfl) dX12_flight_109 (fun H locs M hw h => ?_)
            refine lv_aload_n hx hb dX12_flight_110 rfl (lv_at hl 1 rfl) ?_
            refine xh_getr C hw 0 0 sM_0 (x_lt hN rfl) rfl rfl rfl lk_RX12_7 dX12_flight_111 ?_
            refine lv_iload hx hb dX12_flight_114 (lv_at hl 0 rfl) ?_
            refine lv_iconst (v := (nI 3)) hx hb dX12_flight_116 (by decide) ?_
            refine lv_iadd hx hb dX12_flight_117 ?_
            refine lv_iload hx hb dX12_flight_118 (lv_at hl 5 rfl) ?_
            refine xh_iast C hw 1 5512 h sM_1 (x_lt hN rfl) dX12_flight_120 (fun H locs M hw h => ?_)
            refine lv_aload_n hx hb dX12_flight_121 rfl (lv_at hl 1 rfl) ?_
            refine xh_getr C hw 0 0 sM_0 (x_lt hN rfl) rfl rfl rfl lk_RX12_7 dX12_flight_122 ?_
            refine lv_iload hx hb dX12_flight_125 (lv_at hl 0 rfl) ?_
            refine lv_iconst (v := (nI 4)) hx hb dX12_flight_127 (by decide) ?_
            refine lv_iadd hx hb dX12_flight_128 ?_
            refine lv_iload hx hb dX12_flight_129 (lv_at hl 5 rfl) ?_
            refine xh_iast C hw 1 5512 h sM_1 (x_lt hN rfl) dX12_flight_131 (fun H locs M hw h => ?_)
            refine lv_aload_n hx hb dX12_flight_132 rfl (lv_at hl 1 rfl) ?_
            refine xh_getr C hw 0 0 sM_0 (x_lt hN rfl) rfl rfl rfl lk_RX12_7 dX12_flight_133 ?_
            refine lv_bipush (v := (nI 7)) hx hb dX12_flight_136 (by decide) ?_
            refine lv_dup2_11 hx hb dX12_flight_138 rfl rfl ?_
            refine xh_iald C hw 1 5512 h sM_1 (x_lt hN rfl) dX12_flight_139 (fun r139 h => ?_)
            refine lv_iconst (v := (nI 1)) hx hb dX12_flight_140 (by decide) ?_
            refine lv_iadd hx hb dX12_flight_141 ?_
            refine xh_iast C hw 1 5512 h sM_1 (x_lt hN rfl) dX12_flight_142 (fun H locs M hw h => ?_)
            refine lv_aload_n hx hb dX12_flight_143 rfl (lv_at hl 1 rfl) ?_
            refine xh_getr C hw 0 0 sM_0 (x_lt hN rfl) rfl rfl rfl lk_RX12_7 dX12_flight_144 ?_
            refine lv_bipush (v := (nI 7)) hx hb dX12_flight_147 (by decide) ?_
            refine xh_iald C hw 1 5512 h sM_1 (x_lt hN rfl) dX12_flight_149 (fun r149 h => ?_)
            refine lv_iconst (v := (nI 1)) hx hb dX12_flight_150 (by decide) ?_
            refine lv_isub hx hb dX12_flight_151 ?_
            exact hret dX12_flight_152 rfl hw h
def f_X12_isFlight (M : x_M) (a1 : Int32) : Option (Int32 × x_M) := x_rd 5512 (M 1) (nI 7) (fun r8 => x_bn (f_X12_in M a1 (nI 0) (r8 - (nI 1))) (fun r11 M => x_cz r11 (some (r11, M))))
abbrev rm_X12_isFlight : Room := { frames := 1, cells := 0, slots := 0, locals := 22 }
set_option maxHeartbeats 4000000 in
set_option maxRecDepth 100000 in
theorem c_X12_isFlight {l : Launch} {D : va_G} {cy : Nat → ClassId} {q ad : Nat → Nat} {s0 : State} (hq : x_Q q 24 s0.heap.size) {M : x_M} {a1 : Int32} {z : Int32 × x_M} (h : f_X12_isFlight M a1 = some z) : x_Ci l D cy q ad x_spM 24 s0 yX12_isFlight (x_uw yX12_isFlight cX12_isFlight 2 (some .boolean)) rm_X12_isFlight [.ref (q 0), .int a1] M z.1 z.2 := by
  have hN : 24 ≤ 24 := Nat.le_refl _
  refine x_meti hq (by decide) (Nat.le_of_ble_eq_true rfl) ?_
  intro p e s m args below meth c ls Q C hret hl hw
  have hx := C.1.1
  have hb := C.1.2.1
  have ho := C.1.2.2.2.1
  have hL := C.1.2.2.2.2
  have hl : lv_has ls 2 [(0, .ref (q 0)), (1, .int a1)] := hl
  unfold f_X12_isFlight at h
  refine lv_iload_n hx hb dX12_isFlight_0 rfl (lv_at hl 1 rfl) ?_
  refine lv_iconst (v := (nI 0)) hx hb dX12_isFlight_1 (by decide) ?_
  refine lv_aload_n hx hb dX12_isFlight_2 rfl (lv_at hl 0 rfl) ?_
  refine xh_getr C hw 0 0 sM_0 (x_lt hN rfl) rfl rfl rfl lk_RX12_7 dX12_isFlight_3 ?_
  refine lv_bipush (v := (nI 7)) hx hb dX12_isFlight_6 (by decide) ?_
  refine xh_iald C hw 1 5512 h sM_1 (x_lt hN rfl) dX12_isFlight_8 (fun r8 h => ?_)
  refine lv_iconst (v := (nI 1)) hx hb dX12_isFlight_9 (by decide) ?_
  refine lv_isub hx hb dX12_isFlight_10 ?_
  refine xh_cSi C hw (rest := []) h (fun _ hz => c_X12_in hq hz) ml_RX12_81 st_X12_in ⟨rfl, rfl, by decide, by decide⟩ rfl hl.1 rfl (Nat.le_of_ble_eq_true rfl) dX12_isFlight_11 (fun H locs r11 M hw h => ?_)
  exact hret dX12_isFlight_14 (x_z_nar (x_cz_some h).1) hw (x_cz_some h).2
def f_X12_ask_25 (M : x_M) : Option (Int32 × x_M) := some ((-1000000001), M)
def f_X12_ask (M : x_M) (a1 : Int32) (a2 : Int32) (a3 : Int32) : Option (Int32 × x_M) := x_bn (f_X12_isMember M a1) (fun r2 M => if r2 = 0 then f_X12_ask_25 M else x_bn (f_X12_isFlight M a2) (fun r10 M => if r10 = 0 then f_X12_ask_25 M else x_bn (f_X12_in M a3 (nI 0) (nI 3)) (fun r19 M => if r19 = 0 then f_X12_ask_25 M else x_rd 5512 (M 1) ((nI 5298) + ((nI 5) * a2)) (fun r39 => x_rd 5512 (M 1) (nI 0) (fun r45 => if r45 < r39 then x_rd 5512 (M 1) (nI 8) (fun r58 => if r58 = (nI 30) then some ((-1000000003), M) else x_rd 5512 (M 1) (nI 8) (fun r77 => x_wr 5512 M 1 ((nI 5338) + ((nI 5) * r77)) a1 (fun M => x_wr 5512 M 1 (((nI 5338) + ((nI 5) * r77)) + (nI 1)) a2 (fun M => x_wr 5512 M 1 (((nI 5338) + ((nI 5) * r77)) + (nI 2)) a3 (fun M => x_wr 5512 M 1 (((nI 5338) + ((nI 5) * r77)) + (nI 3)) (nI 0) (fun M => x_wr 5512 M 1 (((nI 5338) + ((nI 5) * r77)) + (nI 4)) (-1) (fun M => x_rd 5512 (M 1) (nI 8) (fun r137 => x_wr 5512 M 1 (nI 8) (r137 + (nI 1)) (fun M => x_rd 5512 (M 1) (nI 8) (fun r147 => some ((r147 - (nI 1)), M))))))))))) else some ((-1000000002), M))))))
abbrev rm_X12_ask : Room := { frames := 2, cells := 0, slots := 0, locals := 43 }
set_option maxHeartbeats 4000000 in
set_option maxRecDepth 100000 in
theorem c_X12_ask {l : Launch} {D : va_G} {cy : Nat → ClassId} {q ad : Nat → Nat} {s0 : State} (hq : x_Q q 24 s0.heap.size) {M : x_M} {a1 : Int32} {a2 : Int32} {a3 : Int32} {z : Int32 × x_M} (h : f_X12_ask M a1 a2 a3 = some z) : x_Ci l D cy q ad x_spM 24 s0 yX12_ask (x_uw yX12_ask cX12_ask 5 (some .int)) rm_X12_ask [.ref (q 0), .int a1, .int a2, .int a3] M z.1 z.2 := by
  have hN : 24 ≤ 24 := Nat.le_refl _
  refine x_meti hq (by decide) (Nat.le_of_ble_eq_true rfl) ?_
  intro p e s m args below meth c ls Q C hret hl hw
  have hx := C.1.1
  have hb := C.1.2.1
  have ho := C.1.2.2.2.1
  have hL := C.1.2.2.2.2
  have hl : lv_has ls 5 [(0, .ref (q 0)), (1, .int a1), (2, .int a2), (3, .int a3)] := hl
  have w25 : ∀ (M : x_M) (H : Heap) (locs : List Loc) (ls : Array Slot), x_B D cy q ad x_spM 24 s H locs M → lv_has ls 5 [] → f_X12_ask_25 M = some z → W p l e rm_X12_ask s m args below meth c H locs 0 0 Q (F0 m 25 ls []) := by
    intro M H locs ls hw hl h
    unfold f_X12_ask_25 at h
    refine lv_ldc hx hb ho (hL _ kc_RX12_85) dX12_ask_25 ?_
    exact hret dX12_ask_27 rfl hw h
  unfold f_X12_ask at h
  refine lv_aload_n hx hb dX12_ask_0 rfl (lv_at hl 0 rfl) ?_
  refine lv_iload_n hx hb dX12_ask_1 rfl (lv_at hl 1 rfl) ?_
  refine xh_cVi C hw (rest := []) h (fun _ hz => c_X12_isMember hq hz) ml_RX12_87 mv_X12_isMember sM_0 (x_lt hN rfl) rfl ⟨rfl, rfl, by decide, by decide⟩ rfl hl.1 rfl (Nat.le_of_ble_eq_true rfl) dX12_ask_2 (fun H locs r2 M hw h => ?_)
  refine x_if_eq (tgt := 25) hx hb h dX12_ask_5 (by decide) (fun h => ?_) (fun h => ?_)
  · exact w25 _ _ _ _ hw (lv_sub hl [] rfl) h
  · refine lv_aload_n hx hb dX12_ask_8 rfl (lv_at hl 0 rfl) ?_
    refine lv_iload_n hx hb dX12_ask_9 rfl (lv_at hl 2 rfl) ?_
    refine xh_cVi C hw (rest := []) h (fun _ hz => c_X12_isFlight hq hz) ml_RX12_260 mv_X12_isFlight sM_0 (x_lt hN rfl) rfl ⟨rfl, rfl, by decide, by decide⟩ rfl hl.1 rfl (Nat.le_of_ble_eq_true rfl) dX12_ask_10 (fun H locs r10 M hw h => ?_)
    refine x_if_eq (tgt := 25) hx hb h dX12_ask_13 (by decide) (fun h => ?_) (fun h => ?_)
    · exact w25 _ _ _ _ hw (lv_sub hl [] rfl) h
    · refine lv_iload_n hx hb dX12_ask_16 rfl (lv_at hl 3 rfl) ?_
      refine lv_iconst (v := (nI 0)) hx hb dX12_ask_17 (by decide) ?_
      refine lv_iconst (v := (nI 3)) hx hb dX12_ask_18 (by decide) ?_
      refine xh_cSi C hw (rest := []) h (fun _ hz => c_X12_in hq hz) ml_RX12_81 st_X12_in ⟨rfl, rfl, by decide, by decide⟩ rfl hl.1 rfl (Nat.le_of_ble_eq_true rfl) dX12_ask_19 (fun H locs r19 M hw h => ?_)
      refine x_if_ne (tgt := 28) hx hb h dX12_ask_22 (by decide) (fun h => ?_) (fun h => ?_)
      · exact w25 _ _ _ _ hw (lv_sub hl [] rfl) h
      · refine lv_aload_n hx hb dX12_ask_28 rfl (lv_at hl 0 rfl) ?_
        refine xh_getr C hw 0 0 sM_0 (x_lt hN rfl) rfl rfl rfl lk_RX12_7 dX12_ask_29 ?_
        refine lv_sipush (v := (nI 5298)) hx hb dX12_ask_32 (by decide) ?_
        refine lv_iconst (v := (nI 5)) hx hb dX12_ask_35 (by decide) ?_
        refine lv_iload_n hx hb dX12_ask_36 rfl (lv_at hl 2 rfl) ?_
        refine lv_imul hx hb dX12_ask_37 ?_
        refine lv_iadd hx hb dX12_ask_38 ?_
        refine xh_iald C hw 1 5512 h sM_1 (x_lt hN rfl) dX12_ask_39 (fun r39 h => ?_)
        refine lv_aload_n hx hb dX12_ask_40 rfl (lv_at hl 0 rfl) ?_
        refine xh_getr C hw 0 0 sM_0 (x_lt hN rfl) rfl rfl rfl lk_RX12_7 dX12_ask_41 ?_
        refine lv_iconst (v := (nI 0)) hx hb dX12_ask_44 (by decide) ?_
        refine xh_iald C hw 1 5512 h sM_1 (x_lt hN rfl) dX12_ask_45 (fun r45 h => ?_)
        refine x_icmp_gt (tgt := 52) hx hb h dX12_ask_46 (by decide) (fun h => ?_) (fun h => ?_)
        · refine lv_aload_n hx hb dX12_ask_52 rfl (lv_at hl 0 rfl) ?_
          refine xh_getr C hw 0 0 sM_0 (x_lt hN rfl) rfl rfl rfl lk_RX12_7 dX12_ask_53 ?_
          refine lv_bipush (v := (nI 8)) hx hb dX12_ask_56 (by decide) ?_
          refine xh_iald C hw 1 5512 h sM_1 (x_lt hN rfl) dX12_ask_58 (fun r58 h => ?_)
          refine lv_bipush (v := (nI 30)) hx hb dX12_ask_59 (by decide) ?_
          refine x_icmp_ne (tgt := 67) hx hb h dX12_ask_61 (by decide) (fun h => ?_) (fun h => ?_)
          · refine lv_ldc hx hb ho (hL _ kc_RX12_86) dX12_ask_64 ?_
            exact hret dX12_ask_66 rfl hw h
          · refine lv_sipush (v := (nI 5338)) hx hb dX12_ask_67 (by decide) ?_
            refine lv_iconst (v := (nI 5)) hx hb dX12_ask_70 (by decide) ?_
            refine lv_aload_n hx hb dX12_ask_71 rfl (lv_at hl 0 rfl) ?_
            refine xh_getr C hw 0 0 sM_0 (x_lt hN rfl) rfl rfl rfl lk_RX12_7 dX12_ask_72 ?_
            refine lv_bipush (v := (nI 8)) hx hb dX12_ask_75 (by decide) ?_
            refine xh_iald C hw 1 5512 h sM_1 (x_lt hN rfl) dX12_ask_77 (fun r77 h => ?_)
            refine lv_imul hx hb dX12_ask_78 ?_
            refine lv_iadd hx hb dX12_ask_79 ?_
            refine lv_istore (lv' := [(4, .int _), (0, .ref (q 0)), (1, .int _), (2, .int _), (3, .int _)]) hx hb dX12_ask_80 hl (by decide) rfl (fun ls hl => ?_)
            refine lv_aload_n hx hb dX12_ask_82 rfl (lv_at hl 1 rfl) ?_
            refine xh_getr C hw 0 0 sM_0 (x_lt hN rfl) rfl rfl rfl lk_RX12_7 dX12_ask_83 ?_
            refine lv_iload hx hb dX12_ask_86 (lv_at hl 0 rfl) ?_
            refine lv_iload_n hx hb dX12_ask_88 rfl (lv_at hl 2 rfl) ?_
            refine xh_iast C hw 1 5512 h sM_1 (x_lt hN rfl) dX12_ask_89 (fun H locs M hw h => ?_)
            refine lv_aload_n hx hb dX12_ask_90 rfl (lv_at hl 1 rfl) ?_
            refine xh_getr C hw 0 0 sM_0 (x_lt hN rfl) rfl rfl rfl lk_RX12_7 dX12_ask_91 ?_
            refine lv_iload hx hb dX12_ask_94 (lv_at hl 0 rfl) ?_
            refine lv_iconst (v := (nI 1)) hx hb dX12_ask_96 (by decide) ?_
            refine lv_iadd hx hb dX12_ask_97 ?_
            refine lv_iload_n hx hb dX12_ask_98 rfl (lv_at hl 3 rfl) ?_
            refine xh_iast C hw 1 5512 h sM_1 (x_lt hN rfl) dX12_ask_99 (fun H locs M hw h => ?_)
            refine lv_aload_n hx hb dX12_ask_100 rfl (lv_at hl 1 rfl) ?_
            refine xh_getr C hw 0 0 sM_0 (x_lt hN rfl) rfl rfl rfl lk_RX12_7 dX12_ask_101 ?_
            refine lv_iload hx hb dX12_ask_104 (lv_at hl 0 rfl) ?_
            refine lv_iconst (v := (nI 2)) hx hb dX12_ask_106 (by decide) ?_
            refine lv_iadd hx hb dX12_ask_107 ?_
            refine lv_iload_n hx hb dX12_ask_108 rfl (lv_at hl 4 rfl) ?_
            refine xh_iast C hw 1 5512 h sM_1 (x_lt hN rfl) dX12_ask_109 (fun H locs M hw h => ?_)
            refine lv_aload_n hx hb dX12_ask_110 rfl (lv_at hl 1 rfl) ?_
            refine xh_getr C hw 0 0 sM_0 (x_lt hN rfl) rfl rfl rfl lk_RX12_7 dX12_ask_111 ?_
            refine lv_iload hx hb dX12_ask_114 (lv_at hl 0 rfl) ?_
            refine lv_iconst (v := (nI 3)) hx hb dX12_ask_116 (by decide) ?_
            refine lv_iadd hx hb dX12_ask_117 ?_
            refine lv_iconst (v := (nI 0)) hx hb dX12_ask_118 (by decide) ?_
            refine xh_iast C hw 1 5512 h sM_1 (x_lt hN rfl) dX12_ask_119 (fun H locs M hw h => ?_)
            refine lv_aload_n hx hb dX12_ask_120 rfl (lv_at hl 1 rfl) ?_
            refine xh_getr C hw 0 0 sM_0 (x_lt hN rfl) rfl rfl rfl lk_RX12_7 dX12_ask_121 ?_
            refine lv_iload hx hb dX12_ask_124 (lv_at hl 0 rfl) ?_
            refine lv_iconst (v := (nI 4)) hx hb dX12_ask_126 (by decide) ?_
            refine lv_iadd hx hb dX12_ask_127 ?_
            refine lv_iconst (v := (-1)) hx hb dX12_ask_128 (by decide) ?_
            refine xh_iast C hw 1 5512 h sM_1 (x_lt hN rfl) dX12_ask_129 (fun H locs M hw h => ?_)
            refine lv_aload_n hx hb dX12_ask_130 rfl (lv_at hl 1 rfl) ?_
            refine xh_getr C hw 0 0 sM_0 (x_lt hN rfl) rfl rfl rfl lk_RX12_7 dX12_ask_131 ?_
            refine lv_bipush (v := (nI 8)) hx hb dX12_ask_134 (by decide) ?_
            refine lv_dup2_11 hx hb dX12_ask_136 rfl rfl ?_
            refine xh_iald C hw 1 5512 h sM_1 (x_lt hN rfl) dX12_ask_137 (fun r137 h => ?_)
            refine lv_iconst (v := (nI 1)) hx hb dX12_ask_138 (by decide) ?_
            refine lv_iadd hx hb dX12_ask_139 ?_
            refine xh_iast C hw 1 5512 h sM_1 (x_lt hN rfl) dX12_ask_140 (fun H locs M hw h => ?_)
            refine lv_aload_n hx hb dX12_ask_141 rfl (lv_at hl 1 rfl) ?_
            refine xh_getr C hw 0 0 sM_0 (x_lt hN rfl) rfl rfl rfl lk_RX12_7 dX12_ask_142 ?_
            refine lv_bipush (v := (nI 8)) hx hb dX12_ask_145 (by decide) ?_
            refine xh_iald C hw 1 5512 h sM_1 (x_lt hN rfl) dX12_ask_147 (fun r147 h => ?_)
            refine lv_iconst (v := (nI 1)) hx hb dX12_ask_148 (by decide) ?_
            refine lv_isub hx hb dX12_ask_149 ?_
            exact hret dX12_ask_150 rfl hw h
        · refine lv_ldc hx hb ho (hL _ kc_RX12_111) dX12_ask_49 ?_
          exact hret dX12_ask_51 rfl hw h
def f_X12_priceFor (M : x_M) (a1 : Int32) : Option (Int32 × x_M) := x_rd 5512 (M 1) (((nI 5338) + ((nI 5) * a1)) + (nI 1)) (fun r19 => x_rd 5512 (M 1) (nI 0) (fun r29 => x_bn (f_X12_termsOn M r29) (fun r30 M => if r30 = (-1) then x_rd 5512 (M 1) (((nI 5298) + ((nI 5) * r19)) + (nI 1)) (fun r48 => some (r48, M)) else x_rd 5512 (M 1) (((nI 5298) + ((nI 5) * r19)) + (nI 1)) (fun r63 => x_wr 128 M 7 (nI 108) r63 (fun M => x_rd 5512 (M 1) (((nI 5338) + ((nI 5) * a1)) + (nI 2)) (fun r78 => x_wr 128 M 7 (nI 102) r78 (fun M => x_rd 5512 (M 1) (((nI 5298) + ((nI 5) * r19)) + (nI 4)) (fun r93 => x_wr 128 M 7 (nI 111) r93 (fun M => x_rd 5512 (M 1) ((nI 5298) + ((nI 5) * r19)) (fun r106 => x_rd 5512 (M 1) (nI 0) (fun r112 => x_wr 128 M 7 (nI 100) (r106 - r112) (fun M => x_rd 5512 (M 1) ((nI 5338) + ((nI 5) * a1)) (fun r130 => x_rd 10 (M 17) r130 (fun r131 => x_wr 128 M 7 (nI 116) r131 (fun M => x_rd 5512 (M 1) ((nI 5338) + ((nI 5) * a1)) (fun r151 => x_rd 5512 (M 1) ((nI 20) + ((nI 3) * r151)) (fun r154 => x_wr 128 M 7 (nI 107) r154 (fun M => x_bn (f_X12_worked M r30 (nI 2)) (fun r160 M => x_bn (f_X12_within M r160 (nI 0) (nI 99999)) (fun r166 M => some (r166, M)))))))))))))))))))))
abbrev rm_X12_priceFor : Room := { frames := 2, cells := 0, slots := 0, locals := 49 }
set_option maxHeartbeats 4000000 in
set_option maxRecDepth 100000 in
theorem c_X12_priceFor {l : Launch} {D : va_G} {cy : Nat → ClassId} {q ad : Nat → Nat} {s0 : State} (hq : x_Q q 24 s0.heap.size) {M : x_M} {a1 : Int32} {z : Int32 × x_M} (h : f_X12_priceFor M a1 = some z) : x_Ci l D cy q ad x_spM 24 s0 yX12_priceFor (x_uw yX12_priceFor cX12_priceFor 5 (some .int)) rm_X12_priceFor [.ref (q 0), .int a1] M z.1 z.2 := by
  have hN : 24 ≤ 24 := Nat.le_refl _
  refine x_meti hq (by decide) (Nat.le_of_ble_eq_true rfl) ?_
  intro p e s m args below meth c ls Q C hret hl hw
  have hx := C.1.1
  have hb := C.1.2.1
  have ho := C.1.2.2.2.1
  have hL := C.1.2.2.2.2
  have hl : lv_has ls 5 [(0, .ref (q 0)), (1, .int a1)] := hl
  unfold f_X12_priceFor at h
  refine lv_sipush (v := (nI 5338)) hx hb dX12_priceFor_0 (by decide) ?_
  refine lv_iconst (v := (nI 5)) hx hb dX12_priceFor_3 (by decide) ?_
  refine lv_iload_n hx hb dX12_priceFor_4 rfl (lv_at hl 1 rfl) ?_
  refine lv_imul hx hb dX12_priceFor_5 ?_
  refine lv_iadd hx hb dX12_priceFor_6 ?_
  refine lv_istore_n (lv' := [(2, .int _), (0, .ref (q 0)), (1, .int _)]) hx hb dX12_priceFor_7 rfl hl (by decide) rfl (fun ls hl => ?_)
  refine lv_sipush (v := (nI 5298)) hx hb dX12_priceFor_8 (by decide) ?_
  refine lv_iconst (v := (nI 5)) hx hb dX12_priceFor_11 (by decide) ?_
  refine lv_aload_n hx hb dX12_priceFor_12 rfl (lv_at hl 1 rfl) ?_
  refine xh_getr C hw 0 0 sM_0 (x_lt hN rfl) rfl rfl rfl lk_RX12_7 dX12_priceFor_13 ?_
  refine lv_iload_n hx hb dX12_priceFor_16 rfl (lv_at hl 0 rfl) ?_
  refine lv_iconst (v := (nI 1)) hx hb dX12_priceFor_17 (by decide) ?_
  refine lv_iadd hx hb dX12_priceFor_18 ?_
  refine xh_iald C hw 1 5512 h sM_1 (x_lt hN rfl) dX12_priceFor_19 (fun r19 h => ?_)
  refine lv_imul hx hb dX12_priceFor_20 ?_
  refine lv_iadd hx hb dX12_priceFor_21 ?_
  refine lv_istore_n (lv' := [(3, .int _), (2, .int _), (0, .ref (q 0)), (1, .int _)]) hx hb dX12_priceFor_22 rfl hl (by decide) rfl (fun ls hl => ?_)
  refine lv_aload_n hx hb dX12_priceFor_23 rfl (lv_at hl 2 rfl) ?_
  refine lv_aload_n hx hb dX12_priceFor_24 rfl (lv_at hl 2 rfl) ?_
  refine xh_getr C hw 0 0 sM_0 (x_lt hN rfl) rfl rfl rfl lk_RX12_7 dX12_priceFor_25 ?_
  refine lv_iconst (v := (nI 0)) hx hb dX12_priceFor_28 (by decide) ?_
  refine xh_iald C hw 1 5512 h sM_1 (x_lt hN rfl) dX12_priceFor_29 (fun r29 h => ?_)
  refine xh_cVi C hw (rest := []) h (fun _ hz => c_X12_termsOn hq hz) ml_RX12_221 mv_X12_termsOn sM_0 (x_lt hN rfl) rfl ⟨rfl, rfl, by decide, by decide⟩ rfl hl.1 rfl (Nat.le_of_ble_eq_true rfl) dX12_priceFor_30 (fun H locs r30 M hw h => ?_)
  refine lv_istore (lv' := [(4, .int _), (3, .int _), (2, .int _), (0, .ref (q 0)), (1, .int _)]) hx hb dX12_priceFor_33 hl (by decide) rfl (fun ls hl => ?_)
  refine lv_iload hx hb dX12_priceFor_35 (lv_at hl 0 rfl) ?_
  refine lv_iconst (v := (-1)) hx hb dX12_priceFor_37 (by decide) ?_
  refine x_icmp_ne (tgt := 50) hx hb h dX12_priceFor_38 (by decide) (fun h => ?_) (fun h => ?_)
  · refine lv_aload_n hx hb dX12_priceFor_41 rfl (lv_at hl 3 rfl) ?_
    refine xh_getr C hw 0 0 sM_0 (x_lt hN rfl) rfl rfl rfl lk_RX12_7 dX12_priceFor_42 ?_
    refine lv_iload_n hx hb dX12_priceFor_45 rfl (lv_at hl 1 rfl) ?_
    refine lv_iconst (v := (nI 1)) hx hb dX12_priceFor_46 (by decide) ?_
    refine lv_iadd hx hb dX12_priceFor_47 ?_
    refine xh_iald C hw 1 5512 h sM_1 (x_lt hN rfl) dX12_priceFor_48 (fun r48 h => ?_)
    exact hret dX12_priceFor_49 rfl hw h
  · refine lv_aload_n hx hb dX12_priceFor_50 rfl (lv_at hl 3 rfl) ?_
    refine xh_getr C hw 0 20 sM_0 (x_lt hN rfl) rfl rfl rfl lk_RX12_28 dX12_priceFor_51 ?_
    refine lv_bipush (v := (nI 108)) hx hb dX12_priceFor_54 (by decide) ?_
    refine lv_aload_n hx hb dX12_priceFor_56 rfl (lv_at hl 3 rfl) ?_
    refine xh_getr C hw 0 0 sM_0 (x_lt hN rfl) rfl rfl rfl lk_RX12_7 dX12_priceFor_57 ?_
    refine lv_iload_n hx hb dX12_priceFor_60 rfl (lv_at hl 1 rfl) ?_
    refine lv_iconst (v := (nI 1)) hx hb dX12_priceFor_61 (by decide) ?_
    refine lv_iadd hx hb dX12_priceFor_62 ?_
    refine xh_iald C hw 1 5512 h sM_1 (x_lt hN rfl) dX12_priceFor_63 (fun r63 h => ?_)
    refine xh_iast C hw 7 128 h sM_7 (x_lt hN rfl) dX12_priceFor_64 (fun H locs M hw h => ?_)
    refine lv_aload_n hx hb dX12_priceFor_65 rfl (lv_at hl 3 rfl) ?_
    refine xh_getr C hw 0 20 sM_0 (x_lt hN rfl) rfl rfl rfl lk_RX12_28 dX12_priceFor_66 ?_
    refine lv_bipush (v := (nI 102)) hx hb dX12_priceFor_69 (by decide) ?_
    refine lv_aload_n hx hb dX12_priceFor_71 rfl (lv_at hl 3 rfl) ?_
    refine xh_getr C hw 0 0 sM_0 (x_lt hN rfl) rfl rfl rfl lk_RX12_7 dX12_priceFor_72 ?_
    refine lv_iload_n hx hb dX12_priceFor_75 rfl (lv_at hl 2 rfl) ?_
    refine lv_iconst (v := (nI 2)) hx hb dX12_priceFor_76 (by decide) ?_
    refine lv_iadd hx hb dX12_priceFor_77 ?_
    refine xh_iald C hw 1 5512 h sM_1 (x_lt hN rfl) dX12_priceFor_78 (fun r78 h => ?_)
    refine xh_iast C hw 7 128 h sM_7 (x_lt hN rfl) dX12_priceFor_79 (fun H locs M hw h => ?_)
    refine lv_aload_n hx hb dX12_priceFor_80 rfl (lv_at hl 3 rfl) ?_
    refine xh_getr C hw 0 20 sM_0 (x_lt hN rfl) rfl rfl rfl lk_RX12_28 dX12_priceFor_81 ?_
    refine lv_bipush (v := (nI 111)) hx hb dX12_priceFor_84 (by decide) ?_
    refine lv_aload_n hx hb dX12_priceFor_86 rfl (lv_at hl 3 rfl) ?_
    refine xh_getr C hw 0 0 sM_0 (x_lt hN rfl) rfl rfl rfl lk_RX12_7 dX12_priceFor_87 ?_
    refine lv_iload_n hx hb dX12_priceFor_90 rfl (lv_at hl 1 rfl) ?_
    refine lv_iconst (v := (nI 4)) hx hb dX12_priceFor_91 (by decide) ?_
    refine lv_iadd hx hb dX12_priceFor_92 ?_
    refine xh_iald C hw 1 5512 h sM_1 (x_lt hN rfl) dX12_priceFor_93 (fun r93 h => ?_)
    refine xh_iast C hw 7 128 h sM_7 (x_lt hN rfl) dX12_priceFor_94 (fun H locs M hw h => ?_)
    refine lv_aload_n hx hb dX12_priceFor_95 rfl (lv_at hl 3 rfl) ?_
    refine xh_getr C hw 0 20 sM_0 (x_lt hN rfl) rfl rfl rfl lk_RX12_28 dX12_priceFor_96 ?_
    refine lv_bipush (v := (nI 100)) hx hb dX12_priceFor_99 (by decide) ?_
    refine lv_aload_n hx hb dX12_priceFor_101 rfl (lv_at hl 3 rfl) ?_
    refine xh_getr C hw 0 0 sM_0 (x_lt hN rfl) rfl rfl rfl lk_RX12_7 dX12_priceFor_102 ?_
    refine lv_iload_n hx hb dX12_priceFor_105 rfl (lv_at hl 1 rfl) ?_
    refine xh_iald C hw 1 5512 h sM_1 (x_lt hN rfl) dX12_priceFor_106 (fun r106 h => ?_)
    refine lv_aload_n hx hb dX12_priceFor_107 rfl (lv_at hl 3 rfl) ?_
    refine xh_getr C hw 0 0 sM_0 (x_lt hN rfl) rfl rfl rfl lk_RX12_7 dX12_priceFor_108 ?_
    refine lv_iconst (v := (nI 0)) hx hb dX12_priceFor_111 (by decide) ?_
    refine xh_iald C hw 1 5512 h sM_1 (x_lt hN rfl) dX12_priceFor_112 (fun r112 h => ?_)
    refine lv_isub hx hb dX12_priceFor_113 ?_
    refine xh_iast C hw 7 128 h sM_7 (x_lt hN rfl) dX12_priceFor_114 (fun H locs M hw h => ?_)
    refine lv_aload_n hx hb dX12_priceFor_115 rfl (lv_at hl 3 rfl) ?_
    refine xh_getr C hw 0 20 sM_0 (x_lt hN rfl) rfl rfl rfl lk_RX12_28 dX12_priceFor_116 ?_
    refine lv_bipush (v := (nI 116)) hx hb dX12_priceFor_119 (by decide) ?_
    refine lv_aload_n hx hb dX12_priceFor_121 rfl (lv_at hl 3 rfl) ?_
    refine xh_getr C hw 0 31 sM_0 (x_lt hN rfl) rfl rfl rfl lk_RX12_59 dX12_priceFor_122 ?_
    refine lv_aload_n hx hb dX12_priceFor_125 rfl (lv_at hl 3 rfl) ?_
    refine xh_getr C hw 0 0 sM_0 (x_lt hN rfl) rfl rfl rfl lk_RX12_7 dX12_priceFor_126 ?_
    refine lv_iload_n hx hb dX12_priceFor_129 rfl (lv_at hl 2 rfl) ?_
    refine xh_iald C hw 1 5512 h sM_1 (x_lt hN rfl) dX12_priceFor_130 (fun r130 h => ?_)
    refine xh_iald C hw 17 10 h sM_17 (x_lt hN rfl) dX12_priceFor_131 (fun r131 h => ?_)
    refine xh_iast C hw 7 128 h sM_7 (x_lt hN rfl) dX12_priceFor_132 (fun H locs M hw h => ?_)
    refine lv_aload_n hx hb dX12_priceFor_133 rfl (lv_at hl 3 rfl) ?_
    refine xh_getr C hw 0 20 sM_0 (x_lt hN rfl) rfl rfl rfl lk_RX12_28 dX12_priceFor_134 ?_
    refine lv_bipush (v := (nI 107)) hx hb dX12_priceFor_137 (by decide) ?_
    refine lv_aload_n hx hb dX12_priceFor_139 rfl (lv_at hl 3 rfl) ?_
    refine xh_getr C hw 0 0 sM_0 (x_lt hN rfl) rfl rfl rfl lk_RX12_7 dX12_priceFor_140 ?_
    refine lv_bipush (v := (nI 20)) hx hb dX12_priceFor_143 (by decide) ?_
    refine lv_iconst (v := (nI 3)) hx hb dX12_priceFor_145 (by decide) ?_
    refine lv_aload_n hx hb dX12_priceFor_146 rfl (lv_at hl 3 rfl) ?_
    refine xh_getr C hw 0 0 sM_0 (x_lt hN rfl) rfl rfl rfl lk_RX12_7 dX12_priceFor_147 ?_
    refine lv_iload_n hx hb dX12_priceFor_150 rfl (lv_at hl 2 rfl) ?_
    refine xh_iald C hw 1 5512 h sM_1 (x_lt hN rfl) dX12_priceFor_151 (fun r151 h => ?_)
    refine lv_imul hx hb dX12_priceFor_152 ?_
    refine lv_iadd hx hb dX12_priceFor_153 ?_
    refine xh_iald C hw 1 5512 h sM_1 (x_lt hN rfl) dX12_priceFor_154 (fun r154 h => ?_)
    refine xh_iast C hw 7 128 h sM_7 (x_lt hN rfl) dX12_priceFor_155 (fun H locs M hw h => ?_)
    refine lv_aload_n hx hb dX12_priceFor_156 rfl (lv_at hl 3 rfl) ?_
    refine lv_iload hx hb dX12_priceFor_157 (lv_at hl 0 rfl) ?_
    refine lv_iconst (v := (nI 2)) hx hb dX12_priceFor_159 (by decide) ?_
    refine xh_cVi C hw (rest := []) h (fun _ hz => c_X12_worked hq hz) ml_RX12_215 mv_X12_worked sM_0 (x_lt hN rfl) rfl ⟨rfl, rfl, by decide, by decide⟩ rfl hl.1 rfl (Nat.le_of_ble_eq_true rfl) dX12_priceFor_160 (fun H locs r160 M hw h => ?_)
    refine lv_iconst (v := (nI 0)) hx hb dX12_priceFor_163 (by decide) ?_
    refine lv_ldc hx hb ho (hL _ kc_RX12_107) dX12_priceFor_164 ?_
    refine xh_cSi C hw (rest := []) h (fun _ hz => c_X12_within hq hz) ml_RX12_218 st_X12_within ⟨rfl, rfl, by decide, by decide⟩ rfl hl.1 rfl (Nat.le_of_ble_eq_true rfl) dX12_priceFor_166 (fun H locs r166 M hw h => ?_)
    exact hret dX12_priceFor_169 rfl hw h
def f_X12_pays_45 (M : x_M) : Option (Int32 × x_M) := some ((nI 0), M)
def f_X12_pays_131 (M : x_M) (v2 : Int32) (v3 : Int32) (v4 : Int32) : Option (Int32 × x_M) := x_rd 5512 (M 1) (v3 + (nI 4)) (fun r139 => x_wr 5512 M 1 (v3 + (nI 4)) (r139 - (nI 1)) (fun M => x_wr 5512 M 1 (v2 + (nI 3)) (nI 1) (fun M => x_wr 5512 M 1 (v2 + (nI 4)) v4 (fun M => some ((nI 1), M)))))
def f_X12_pays (M : x_M) (a1 : Int32) : Option (Int32 × x_M) := x_rd 5512 (M 1) (((nI 5338) + ((nI 5) * a1)) + (nI 1)) (fun r19 => x_rd 5512 (M 1) (((nI 5298) + ((nI 5) * r19)) + (nI 4)) (fun r30 => if r30 = 0 then f_X12_pays_45 M else x_rd 5512 (M 1) (nI 5) (fun r39 => if r39 = (nI 100) then f_X12_pays_45 M else x_bn (f_X12_priceFor M a1) (fun r49 M => x_rd 5512 (M 1) (nI 0) (fun r60 => x_rd 5512 (M 1) (nI 0) (fun r66 => x_bn (f_X12_stand M r60 r66) (fun _ M => x_rd 5512 (M 1) ((nI 5338) + ((nI 5) * a1)) (fun r76 => x_rd 5512 (M 1) (nI 0) (fun r82 => x_bn (f_X12_there M r76 r82 (nI 1)) (fun r84 M => if 0 ≤ (lg_cmp r84 ((r49).toInt64)) then if r49 ≤ 0 then f_X12_pays_131 M ((nI 5338) + ((nI 5) * a1)) ((nI 5298) + ((nI 5) * r19)) r49 else x_rd 5512 (M 1) ((nI 5338) + ((nI 5) * a1)) (fun r108 => x_rd 5512 (M 1) (nI 0) (fun r114 => x_rd 5512 (M 1) (((nI 5298) + ((nI 5) * r19)) + (nI 2)) (fun r124 => x_bn (f_X12_tells M (nI 1) r108 r114 r49 r124 (nI 0)) (fun r126 M => f_X12_pays_131 M ((nI 5338) + ((nI 5) * a1)) ((nI 5298) + ((nI 5) * r19)) r49)))) else some ((nI 0), M)))))))))))
abbrev rm_X12_pays : Room := { frames := 7, cells := 0, slots := 0, locals := 174 }
set_option maxHeartbeats 4000000 in
set_option maxRecDepth 100000 in
theorem c_X12_pays {l : Launch} {D : va_G} {cy : Nat → ClassId} {q ad : Nat → Nat} {s0 : State} (hq : x_Q q 24 s0.heap.size) {M : x_M} {a1 : Int32} {z : Int32 × x_M} (h : f_X12_pays M a1 = some z) : x_Ci l D cy q ad x_spM 24 s0 yX12_pays (x_uw yX12_pays cX12_pays 6 (some .boolean)) rm_X12_pays [.ref (q 0), .int a1] M z.1 z.2 := by
  have hN : 24 ≤ 24 := Nat.le_refl _
  refine x_meti hq (by decide) (Nat.le_of_ble_eq_true rfl) ?_
  intro p e s m args below meth c ls Q C hret hl hw
  have hx := C.1.1
  have hb := C.1.2.1
  have ho := C.1.2.2.2.1
  have hL := C.1.2.2.2.2
  have hl : lv_has ls 6 [(0, .ref (q 0)), (1, .int a1)] := hl
  have w45 : ∀ (M : x_M) (H : Heap) (locs : List Loc) (ls : Array Slot), x_B D cy q ad x_spM 24 s H locs M → lv_has ls 6 [] → f_X12_pays_45 M = some z → W p l e rm_X12_pays s m args below meth c H locs 0 0 Q (F0 m 45 ls []) := by
    intro M H locs ls hw hl h
    unfold f_X12_pays_45 at h
    refine lv_iconst (v := (nI 0)) hx hb dX12_pays_45 (by decide) ?_
    exact hret dX12_pays_46 rfl hw h
  have w131 : ∀ (M : x_M) (v2 : Int32) (v3 : Int32) (v4 : Int32) (H : Heap) (locs : List Loc) (ls : Array Slot), x_B D cy q ad x_spM 24 s H locs M → lv_has ls 6 [(0, .ref (q 0)), (2, .int v2), (3, .int v3), (4, .int v4)] → f_X12_pays_131 M v2 v3 v4 = some z → W p l e rm_X12_pays s m args below meth c H locs 0 0 Q (F0 m 131 ls []) := by
    intro M v2 v3 v4 H locs ls hw hl h
    unfold f_X12_pays_131 at h
    refine lv_aload_n hx hb dX12_pays_131 rfl (lv_at hl 0 rfl) ?_
    refine xh_getr C hw 0 0 sM_0 (x_lt hN rfl) rfl rfl rfl lk_RX12_7 dX12_pays_132 ?_
    refine lv_iload_n hx hb dX12_pays_135 rfl (lv_at hl 2 rfl) ?_
    refine lv_iconst (v := (nI 4)) hx hb dX12_pays_136 (by decide) ?_
    refine lv_iadd hx hb dX12_pays_137 ?_
    refine lv_dup2_11 hx hb dX12_pays_138 rfl rfl ?_
    refine xh_iald C hw 1 5512 h sM_1 (x_lt hN rfl) dX12_pays_139 (fun r139 h => ?_)
    refine lv_iconst (v := (nI 1)) hx hb dX12_pays_140 (by decide) ?_
    refine lv_isub hx hb dX12_pays_141 ?_
    refine xh_iast C hw 1 5512 h sM_1 (x_lt hN rfl) dX12_pays_142 (fun H locs M hw h => ?_)
    refine lv_aload_n hx hb dX12_pays_143 rfl (lv_at hl 0 rfl) ?_
    refine xh_getr C hw 0 0 sM_0 (x_lt hN rfl) rfl rfl rfl lk_RX12_7 dX12_pays_144 ?_
    refine lv_iload_n hx hb dX12_pays_147 rfl (lv_at hl 1 rfl) ?_
    refine lv_iconst (v := (nI 3)) hx hb dX12_pays_148 (by decide) ?_
    refine lv_iadd hx hb dX12_pays_149 ?_
    refine lv_iconst (v := (nI 1)) hx hb dX12_pays_150 (by decide) ?_
    refine xh_iast C hw 1 5512 h sM_1 (x_lt hN rfl) dX12_pays_151 (fun H locs M hw h => ?_)
    refine lv_aload_n hx hb dX12_pays_152 rfl (lv_at hl 0 rfl) ?_
    refine xh_getr C hw 0 0 sM_0 (x_lt hN rfl) rfl rfl rfl lk_RX12_7 dX12_pays_153 ?_
    refine lv_iload_n hx hb dX12_pays_156 rfl (lv_at hl 1 rfl) ?_
    refine lv_iconst (v := (nI 4)) hx hb dX12_pays_157 (by decide) ?_
    refine lv_iadd hx hb dX12_pays_158 ?_
    refine lv_iload hx hb dX12_pays_159 (lv_at hl 3 rfl) ?_
    refine xh_iast C hw 1 5512 h sM_1 (x_lt hN rfl) dX12_pays_161 (fun H locs M hw h => ?_)
    refine lv_iconst (v := (nI 1)) hx hb dX12_pays_162 (by decide) ?_
    exact hret dX12_pays_163 rfl hw h
  unfold f_X12_pays at h
  refine lv_sipush (v := (nI 5338)) hx hb dX12_pays_0 (by decide) ?_
  refine lv_iconst (v := (nI 5)) hx hb dX12_pays_3 (by decide) ?_
  refine lv_iload_n hx hb dX12_pays_4 rfl (lv_at hl 1 rfl) ?_
  refine lv_imul hx hb dX12_pays_5 ?_
  refine lv_iadd hx hb dX12_pays_6 ?_
  refine lv_istore_n (lv' := [(2, .int _), (0, .ref (q 0)), (1, .int _)]) hx hb dX12_pays_7 rfl hl (by decide) rfl (fun ls hl => ?_)
  refine lv_sipush (v := (nI 5298)) hx hb dX12_pays_8 (by decide) ?_
  refine lv_iconst (v := (nI 5)) hx hb dX12_pays_11 (by decide) ?_
  refine lv_aload_n hx hb dX12_pays_12 rfl (lv_at hl 1 rfl) ?_
  refine xh_getr C hw 0 0 sM_0 (x_lt hN rfl) rfl rfl rfl lk_RX12_7 dX12_pays_13 ?_
  refine lv_iload_n hx hb dX12_pays_16 rfl (lv_at hl 0 rfl) ?_
  refine lv_iconst (v := (nI 1)) hx hb dX12_pays_17 (by decide) ?_
  refine lv_iadd hx hb dX12_pays_18 ?_
  refine xh_iald C hw 1 5512 h sM_1 (x_lt hN rfl) dX12_pays_19 (fun r19 h => ?_)
  refine lv_imul hx hb dX12_pays_20 ?_
  refine lv_iadd hx hb dX12_pays_21 ?_
  refine lv_istore_n (lv' := [(3, .int _), (2, .int _), (0, .ref (q 0)), (1, .int _)]) hx hb dX12_pays_22 rfl hl (by decide) rfl (fun ls hl => ?_)
  refine lv_aload_n hx hb dX12_pays_23 rfl (lv_at hl 2 rfl) ?_
  refine xh_getr C hw 0 0 sM_0 (x_lt hN rfl) rfl rfl rfl lk_RX12_7 dX12_pays_24 ?_
  refine lv_iload_n hx hb dX12_pays_27 rfl (lv_at hl 0 rfl) ?_
  refine lv_iconst (v := (nI 4)) hx hb dX12_pays_28 (by decide) ?_
  refine lv_iadd hx hb dX12_pays_29 ?_
  refine xh_iald C hw 1 5512 h sM_1 (x_lt hN rfl) dX12_pays_30 (fun r30 h => ?_)
  refine x_if_eq (tgt := 45) hx hb h dX12_pays_31 (by decide) (fun h => ?_) (fun h => ?_)
  · exact w45 _ _ _ _ hw (lv_sub hl [] rfl) h
  · refine lv_aload_n hx hb dX12_pays_34 rfl (lv_at hl 2 rfl) ?_
    refine xh_getr C hw 0 0 sM_0 (x_lt hN rfl) rfl rfl rfl lk_RX12_7 dX12_pays_35 ?_
    refine lv_iconst (v := (nI 5)) hx hb dX12_pays_38 (by decide) ?_
    refine xh_iald C hw 1 5512 h sM_1 (x_lt hN rfl) dX12_pays_39 (fun r39 h => ?_)
    refine lv_bipush (v := (nI 100)) hx hb dX12_pays_40 (by decide) ?_
    refine x_icmp_ne (tgt := 47) hx hb h dX12_pays_42 (by decide) (fun h => ?_) (fun h => ?_)
    · exact w45 _ _ _ _ hw (lv_sub hl [] rfl) h
    · refine lv_aload_n hx hb dX12_pays_47 rfl (lv_at hl 2 rfl) ?_
      refine lv_iload_n hx hb dX12_pays_48 rfl (lv_at hl 3 rfl) ?_
      refine xh_cVi C hw (rest := []) h (fun _ hz => c_X12_priceFor hq hz) ml_RX12_263 mv_X12_priceFor sM_0 (x_lt hN rfl) rfl ⟨rfl, rfl, by decide, by decide⟩ rfl hl.1 rfl (Nat.le_of_ble_eq_true rfl) dX12_pays_49 (fun H locs r49 M hw h => ?_)
      refine lv_istore (lv' := [(4, .int _), (3, .int _), (2, .int _), (0, .ref (q 0)), (1, .int _)]) hx hb dX12_pays_52 hl (by decide) rfl (fun ls hl => ?_)
      refine lv_aload_n hx hb dX12_pays_54 rfl (lv_at hl 3 rfl) ?_
      refine lv_aload_n hx hb dX12_pays_55 rfl (lv_at hl 3 rfl) ?_
      refine xh_getr C hw 0 0 sM_0 (x_lt hN rfl) rfl rfl rfl lk_RX12_7 dX12_pays_56 ?_
      refine lv_iconst (v := (nI 0)) hx hb dX12_pays_59 (by decide) ?_
      refine xh_iald C hw 1 5512 h sM_1 (x_lt hN rfl) dX12_pays_60 (fun r60 h => ?_)
      refine lv_aload_n hx hb dX12_pays_61 rfl (lv_at hl 3 rfl) ?_
      refine xh_getr C hw 0 0 sM_0 (x_lt hN rfl) rfl rfl rfl lk_RX12_7 dX12_pays_62 ?_
      refine lv_iconst (v := (nI 0)) hx hb dX12_pays_65 (by decide) ?_
      refine xh_iald C hw 1 5512 h sM_1 (x_lt hN rfl) dX12_pays_66 (fun r66 h => ?_)
      refine xh_cVv C hw (rest := []) h (fun _ hz => c_X12_stand hq hz) ml_RX12_255 mv_X12_stand sM_0 (x_lt hN rfl) rfl ⟨rfl, rfl, by decide, by decide⟩ rfl hl.1 rfl (Nat.le_of_ble_eq_true rfl) dX12_pays_67 (fun H locs _ M hw h => ?_)
      refine lv_aload_n hx hb dX12_pays_70 rfl (lv_at hl 3 rfl) ?_
      refine lv_aload_n hx hb dX12_pays_71 rfl (lv_at hl 3 rfl) ?_
      refine xh_getr C hw 0 0 sM_0 (x_lt hN rfl) rfl rfl rfl lk_RX12_7 dX12_pays_72 ?_
      refine lv_iload_n hx hb dX12_pays_75 rfl (lv_at hl 2 rfl) ?_
      refine xh_iald C hw 1 5512 h sM_1 (x_lt hN rfl) dX12_pays_76 (fun r76 h => ?_)
      refine lv_aload_n hx hb dX12_pays_77 rfl (lv_at hl 3 rfl) ?_
      refine xh_getr C hw 0 0 sM_0 (x_lt hN rfl) rfl rfl rfl lk_RX12_7 dX12_pays_78 ?_
      refine lv_iconst (v := (nI 0)) hx hb dX12_pays_81 (by decide) ?_
      refine xh_iald C hw 1 5512 h sM_1 (x_lt hN rfl) dX12_pays_82 (fun r82 h => ?_)
      refine lv_iconst (v := (nI 1)) hx hb dX12_pays_83 (by decide) ?_
      refine xh_cVl C hw (rest := []) h (fun _ hz => c_X12_there hq hz) ml_RX12_241 mv_X12_there sM_0 (x_lt hN rfl) rfl ⟨rfl, rfl, by decide, by decide⟩ rfl hl.1 rfl (Nat.le_of_ble_eq_true rfl) dX12_pays_84 (fun H locs r84 M hw h => ?_)
      refine lv_iload hx hb dX12_pays_87 (lv_at hl 0 rfl) ?_
      refine lv_i2l hx hb dX12_pays_89 rfl ?_
      refine W.lcmp hx hb dX12_pays_90 ?_
      refine x_if_ge (tgt := 96) hx hb h dX12_pays_91 (by decide) (fun h => ?_) (fun h => ?_)
      · refine lv_iload hx hb dX12_pays_96 (lv_at hl 0 rfl) ?_
        refine x_if_le (tgt := 131) hx hb h dX12_pays_98 (by decide) (fun h => ?_) (fun h => ?_)
        · exact w131 _ _ _ _ _ _ _ hw (lv_sub hl [3, 2, 1, 0] rfl) h
        · refine lv_aload_n hx hb dX12_pays_101 rfl (lv_at hl 3 rfl) ?_
          refine lv_iconst (v := (nI 1)) hx hb dX12_pays_102 (by decide) ?_
          refine lv_aload_n hx hb dX12_pays_103 rfl (lv_at hl 3 rfl) ?_
          refine xh_getr C hw 0 0 sM_0 (x_lt hN rfl) rfl rfl rfl lk_RX12_7 dX12_pays_104 ?_
          refine lv_iload_n hx hb dX12_pays_107 rfl (lv_at hl 2 rfl) ?_
          refine xh_iald C hw 1 5512 h sM_1 (x_lt hN rfl) dX12_pays_108 (fun r108 h => ?_)
          refine lv_aload_n hx hb dX12_pays_109 rfl (lv_at hl 3 rfl) ?_
          refine xh_getr C hw 0 0 sM_0 (x_lt hN rfl) rfl rfl rfl lk_RX12_7 dX12_pays_110 ?_
          refine lv_iconst (v := (nI 0)) hx hb dX12_pays_113 (by decide) ?_
          refine xh_iald C hw 1 5512 h sM_1 (x_lt hN rfl) dX12_pays_114 (fun r114 h => ?_)
          refine lv_iload hx hb dX12_pays_115 (lv_at hl 0 rfl) ?_
          refine lv_aload_n hx hb dX12_pays_117 rfl (lv_at hl 3 rfl) ?_
          refine xh_getr C hw 0 0 sM_0 (x_lt hN rfl) rfl rfl rfl lk_RX12_7 dX12_pays_118 ?_
          refine lv_iload_n hx hb dX12_pays_121 rfl (lv_at hl 1 rfl) ?_
          refine lv_iconst (v := (nI 2)) hx hb dX12_pays_122 (by decide) ?_
          refine lv_iadd hx hb dX12_pays_123 ?_
          refine xh_iald C hw 1 5512 h sM_1 (x_lt hN rfl) dX12_pays_124 (fun r124 h => ?_)
          refine lv_iconst (v := (nI 0)) hx hb dX12_pays_125 (by decide) ?_
          refine xh_cVi C hw (rest := []) h (fun _ hz => c_X12_tells hq hz) ml_RX12_103 mv_X12_tells sM_0 (x_lt hN rfl) rfl ⟨rfl, rfl, by decide, by decide⟩ rfl hl.1 rfl (Nat.le_of_ble_eq_true rfl) dX12_pays_126 (fun H locs r126 M hw h => ?_)
          refine lv_istore (lv' := [(5, .int _), (4, .int _), (3, .int _), (2, .int _), (0, .ref (q 0)), (1, .int _)]) hx hb dX12_pays_129 hl (by decide) rfl (fun ls hl => ?_)
          exact w131 _ _ _ _ _ _ _ hw (lv_sub hl [4, 3, 2, 1] rfl) h
      · refine lv_iconst (v := (nI 0)) hx hb dX12_pays_94 (by decide) ?_
        exact hret dX12_pays_95 rfl hw h
def f_X12_settle_181 (k90 : x_M → Int32 → Int32 → Int32 → Option (Int32 × x_M)) (k97 : x_M → Int32 → Int32 → Int32 → Int32 → Option (Int32 × x_M)) (M : x_M) (v1 : Int32) (v2 : Int32) (v3 : Int32) (v4 : Int32) : Option (Int32 × x_M) := k97 M v1 v2 v3 (v4 + (nI 1))
def f_X12_settle_179 (k90 : x_M → Int32 → Int32 → Int32 → Option (Int32 × x_M)) (k97 : x_M → Int32 → Int32 → Int32 → Int32 → Option (Int32 × x_M)) (M : x_M) (v1 : Int32) (v3 : Int32) (v4 : Int32) (t0 : Int32) (t1 : Int32) : Option (Int32 × x_M) := f_X12_settle_181 k90 k97 M v1 (t0 + t1) v3 v4
def f_X12_settle_97 (k90 : x_M → Int32 → Int32 → Int32 → Option (Int32 × x_M)) : Nat → x_M → Int32 → Int32 → Int32 → Int32 → Option (Int32 × x_M)
  | 0, _, _, _, _, _ => none
  | n + 1, M, v1, v2, v3, v4 => x_rd 5512 (M 1) (nI 8) (fun r105 => if r105 ≤ v4 then k90 M v1 v2 (v3 + (-1)) else x_rd 5512 (M 1) (((nI 5338) + ((nI 5) * v4)) + (nI 1)) (fun r127 => if r127 = v1 then x_rd 5512 (M 1) (((nI 5338) + ((nI 5) * v4)) + (nI 3)) (fun r140 => if r140 = (nI 1) then f_X12_settle_181 k90 (f_X12_settle_97 k90 n) M v1 v2 v3 v4 else x_rd 5512 (M 1) ((nI 5338) + ((nI 5) * v4)) (fun r155 => x_rd 10 (M 17) r155 (fun r156 => if r156 = v3 then x_bn (f_X12_pays M v4) (fun r168 M => if r168 = 0 then f_X12_settle_179 k90 (f_X12_settle_97 k90 n) M v1 v3 v4 v2 (nI 0) else f_X12_settle_179 k90 (f_X12_settle_97 k90 n) M v1 v3 v4 v2 (nI 1)) else f_X12_settle_181 k90 (f_X12_settle_97 k90 n) M v1 v2 v3 v4))) else f_X12_settle_181 k90 (f_X12_settle_97 k90 n) M v1 v2 v3 v4))
theorem f_X12_settle_97_0 (k90 : x_M → Int32 → Int32 → Int32 → Option (Int32 × x_M)) (M : x_M) (v1 : Int32) (v2 : Int32) (v3 : Int32) (v4 : Int32) : f_X12_settle_97 k90 0 M v1 v2 v3 v4 = none := rfl
theorem f_X12_settle_97_s (k90 : x_M → Int32 → Int32 → Int32 → Option (Int32 × x_M)) (n : Nat) (M : x_M) (v1 : Int32) (v2 : Int32) (v3 : Int32) (v4 : Int32) : f_X12_settle_97 k90 (n + 1) M v1 v2 v3 v4 = (x_rd 5512 (M 1) (nI 8) (fun r105 => if r105 ≤ v4 then k90 M v1 v2 (v3 + (-1)) else x_rd 5512 (M 1) (((nI 5338) + ((nI 5) * v4)) + (nI 1)) (fun r127 => if r127 = v1 then x_rd 5512 (M 1) (((nI 5338) + ((nI 5) * v4)) + (nI 3)) (fun r140 => if r140 = (nI 1) then f_X12_settle_181 k90 (f_X12_settle_97 k90 n) M v1 v2 v3 v4 else x_rd 5512 (M 1) ((nI 5338) + ((nI 5) * v4)) (fun r155 => x_rd 10 (M 17) r155 (fun r156 => if r156 = v3 then x_bn (f_X12_pays M v4) (fun r168 M => if r168 = 0 then f_X12_settle_179 k90 (f_X12_settle_97 k90 n) M v1 v3 v4 v2 (nI 0) else f_X12_settle_179 k90 (f_X12_settle_97 k90 n) M v1 v3 v4 v2 (nI 1)) else f_X12_settle_181 k90 (f_X12_settle_97 k90 n) M v1 v2 v3 v4))) else f_X12_settle_181 k90 (f_X12_settle_97 k90 n) M v1 v2 v3 v4))) := rfl
def f_X12_settle_90 : Nat → x_M → Int32 → Int32 → Int32 → Option (Int32 × x_M)
  | 0, _, _, _, _ => none
  | n + 1, M, v1, v2, v3 => if v3 < 0 then some (v2, M) else f_X12_settle_97 (f_X12_settle_90 n) x_FU M v1 v2 v3 (nI 0)
theorem f_X12_settle_90_0 (M : x_M) (v1 : Int32) (v2 : Int32) (v3 : Int32) : f_X12_settle_90 0 M v1 v2 v3 = none := rfl
theorem f_X12_settle_90_s (n : Nat) (M : x_M) (v1 : Int32) (v2 : Int32) (v3 : Int32) : f_X12_settle_90 (n + 1) M v1 v2 v3 = (if v3 < 0 then some (v2, M) else f_X12_settle_97 (f_X12_settle_90 n) x_FU M v1 v2 v3 (nI 0)) := rfl
def f_X12_settle_53 : Nat → x_M → Int32 → Int32 → Option (Int32 × x_M)
  | 0, _, _, _ => none
  | n + 1, M, v1, v2 => x_rd 5512 (M 1) (nI 4) (fun r59 => if r59 ≤ v2 then f_X12_settle_90 x_FU M v1 (nI 0) (nI 3) else x_rd 5512 (M 1) (nI 0) (fun r75 => x_bn (f_X12_tierOn M v2 r75) (fun r76 M => x_wr 10 M 17 v2 r76 (fun M => (f_X12_settle_53 n) M v1 (v2 + (nI 1))))))
theorem f_X12_settle_53_0 (M : x_M) (v1 : Int32) (v2 : Int32) : f_X12_settle_53 0 M v1 v2 = none := rfl
theorem f_X12_settle_53_s (n : Nat) (M : x_M) (v1 : Int32) (v2 : Int32) : f_X12_settle_53 (n + 1) M v1 v2 = (x_rd 5512 (M 1) (nI 4) (fun r59 => if r59 ≤ v2 then f_X12_settle_90 x_FU M v1 (nI 0) (nI 3) else x_rd 5512 (M 1) (nI 0) (fun r75 => x_bn (f_X12_tierOn M v2 r75) (fun r76 M => x_wr 10 M 17 v2 r76 (fun M => (f_X12_settle_53 n) M v1 (v2 + (nI 1))))))) := rfl
def f_X12_settle (M : x_M) (a1 : Int32) : Option (Int32 × x_M) := x_bn (f_X12_isFlight M a1) (fun r2 M => if r2 = 0 then some ((-1000000001), M) else x_rd 5512 (M 1) ((nI 5298) + ((nI 5) * a1)) (fun r22 => x_rd 5512 (M 1) (nI 0) (fun r28 => if r28 < r22 then x_rd 5512 (M 1) (nI 0) (fun r41 => x_rd 5512 (M 1) (nI 0) (fun r47 => x_bn (f_X12_stand M r41 r47) (fun _ M => f_X12_settle_53 x_FU M a1 (nI 0)))) else some ((-1000000002), M))))
abbrev rm_X12_settle : Room := { frames := 8, cells := 0, slots := 0, locals := 199 }
set_option maxHeartbeats 4000000 in
set_option maxRecDepth 100000 in
theorem c_X12_settle {l : Launch} {D : va_G} {cy : Nat → ClassId} {q ad : Nat → Nat} {s0 : State} (hq : x_Q q 24 s0.heap.size) {M : x_M} {a1 : Int32} {z : Int32 × x_M} (h : f_X12_settle M a1 = some z) : x_Ci l D cy q ad x_spM 24 s0 yX12_settle (x_uw yX12_settle cX12_settle 6 (some .int)) rm_X12_settle [.ref (q 0), .int a1] M z.1 z.2 := by
  have hN : 24 ≤ 24 := Nat.le_refl _
  refine x_meti hq (by decide) (Nat.le_of_ble_eq_true rfl) ?_
  intro p e s m args below meth c ls Q C hret hl hw
  have hx := C.1.1
  have hb := C.1.2.1
  have ho := C.1.2.2.2.1
  have hL := C.1.2.2.2.2
  have hl : lv_has ls 6 [(0, .ref (q 0)), (1, .int a1)] := hl
  have w53 : ∀ (n : Nat) (M : x_M) (v1 : Int32) (v2 : Int32) (H : Heap) (locs : List Loc) (ls : Array Slot), x_B D cy q ad x_spM 24 s H locs M → lv_has ls 6 [(0, .ref (q 0)), (1, .int v1), (2, .int v2)] → f_X12_settle_53 n M v1 v2 = some z → W p l e rm_X12_settle s m args below meth c H locs 0 0 Q (F0 m 53 ls []) := by
    intro n
    induction n with
    | zero =>
      intro M v1 v2 H locs ls hw hl h
      rw [f_X12_settle_53_0] at h
      cases h
    | succ n53 ih53 =>
      have w90 : ∀ (n : Nat) (M : x_M) (v1 : Int32) (v2 : Int32) (v3 : Int32) (H : Heap) (locs : List Loc) (ls : Array Slot), x_B D cy q ad x_spM 24 s H locs M → lv_has ls 6 [(0, .ref (q 0)), (1, .int v1), (2, .int v2), (3, .int v3)] → f_X12_settle_90 n M v1 v2 v3 = some z → W p l e rm_X12_settle s m args below meth c H locs 0 0 Q (F0 m 90 ls []) := by
        intro n
        induction n with
        | zero =>
          intro M v1 v2 v3 H locs ls hw hl h
          rw [f_X12_settle_90_0] at h
          cases h
        | succ n90 ih90 =>
          have w97 : ∀ (n : Nat) (M : x_M) (v1 : Int32) (v2 : Int32) (v3 : Int32) (v4 : Int32) (H : Heap) (locs : List Loc) (ls : Array Slot), x_B D cy q ad x_spM 24 s H locs M → lv_has ls 6 [(0, .ref (q 0)), (1, .int v1), (2, .int v2), (3, .int v3), (4, .int v4)] → f_X12_settle_97 (f_X12_settle_90 n90) n M v1 v2 v3 v4 = some z → W p l e rm_X12_settle s m args below meth c H locs 0 0 Q (F0 m 97 ls []) := by
            intro n
            induction n with
            | zero =>
              intro M v1 v2 v3 v4 H locs ls hw hl h
              rw [f_X12_settle_97_0] at h
              cases h
            | succ n97 ih97 =>
              have w181 : ∀ (M : x_M) (v1 : Int32) (v2 : Int32) (v3 : Int32) (v4 : Int32) (H : Heap) (locs : List Loc) (ls : Array Slot), x_B D cy q ad x_spM 24 s H locs M → lv_has ls 6 [(0, .ref (q 0)), (1, .int v1), (2, .int v2), (3, .int v3), (4, .int v4)] → f_X12_settle_181 (f_X12_settle_90 n90) (f_X12_settle_97 (f_X12_settle_90 n90) n97) M v1 v2 v3 v4 = some z → W p l e rm_X12_settle s m args below meth c H locs 0 0 Q (F0 m 181 ls []) := by
                intro M v1 v2 v3 v4 H locs ls hw hl h
                unfold f_X12_settle_181 at h
                refine lv_iinc (lv' := [(4, .int _), (0, .ref (q 0)), (1, .int _), (2, .int _), (3, .int _)]) hx hb dX12_settle_181 hl (k := 4) rfl (x_inc (show Int32.ofInt 1 = (nI 1) by decide) _) (by decide) rfl (fun ls hl => ?_)
                refine lv_goto (tgt := 97) hx hb dX12_settle_184 (by decide) ?_
                exact ih97 _ _ _ _ _ _ _ _ hw (lv_sub hl [1, 2, 3, 4, 0] rfl) h
              have w179 : ∀ (M : x_M) (v1 : Int32) (v3 : Int32) (v4 : Int32) (t0 : Int32) (t1 : Int32) (H : Heap) (locs : List Loc) (ls : Array Slot), x_B D cy q ad x_spM 24 s H locs M → lv_has ls 6 [(0, .ref (q 0)), (1, .int v1), (3, .int v3), (4, .int v4)] → f_X12_settle_179 (f_X12_settle_90 n90) (f_X12_settle_97 (f_X12_settle_90 n90) n97) M v1 v3 v4 t0 t1 = some z → W p l e rm_X12_settle s m args below meth c H locs 0 0 Q (F0 m 179 ls [.int t1, .int t0]) := by
                intro M v1 v3 v4 t0 t1 H locs ls hw hl h
                unfold f_X12_settle_179 at h
                refine lv_iadd hx hb dX12_settle_179 ?_
                refine lv_istore_n (lv' := [(2, .int _), (0, .ref (q 0)), (1, .int _), (3, .int _), (4, .int _)]) hx hb dX12_settle_180 rfl hl (by decide) rfl (fun ls hl => ?_)
                exact w181 _ _ _ _ _ _ _ _ hw (lv_sub hl [1, 2, 0, 3, 4] rfl) h
              intro M v1 v2 v3 v4 H locs ls hw hl h
              rw [f_X12_settle_97_s] at h
              refine lv_iload hx hb dX12_settle_97 (lv_at hl 4 rfl) ?_
              refine lv_aload_n hx hb dX12_settle_99 rfl (lv_at hl 0 rfl) ?_
              refine xh_getr C hw 0 0 sM_0 (x_lt hN rfl) rfl rfl rfl lk_RX12_7 dX12_settle_100 ?_
              refine lv_bipush (v := (nI 8)) hx hb dX12_settle_103 (by decide) ?_
              refine xh_iald C hw 1 5512 h sM_1 (x_lt hN rfl) dX12_settle_105 (fun r105 h => ?_)
              refine x_icmp_ge (tgt := 187) hx hb h dX12_settle_106 (by decide) (fun h => ?_) (fun h => ?_)
              · refine lv_iinc (lv' := [(3, .int _), (0, .ref (q 0)), (1, .int _), (2, .int _), (4, .int _)]) hx hb dX12_settle_187 hl (k := 3) rfl (x_inc (show Int32.ofInt (-1) = (-1) by decide) _) (by decide) rfl (fun ls hl => ?_)
                refine lv_goto (tgt := 90) hx hb dX12_settle_190 (by decide) ?_
                exact ih90 _ _ _ _ _ _ _ hw (lv_sub hl [1, 2, 3, 0] rfl) h
              · refine lv_sipush (v := (nI 5338)) hx hb dX12_settle_109 (by decide) ?_
                refine lv_iconst (v := (nI 5)) hx hb dX12_settle_112 (by decide) ?_
                refine lv_iload hx hb dX12_settle_113 (lv_at hl 4 rfl) ?_
                refine lv_imul hx hb dX12_settle_115 ?_
                refine lv_iadd hx hb dX12_settle_116 ?_
                refine lv_istore (lv' := [(5, .int _), (0, .ref (q 0)), (1, .int _), (2, .int _), (3, .int _), (4, .int _)]) hx hb dX12_settle_117 hl (by decide) rfl (fun ls hl => ?_)
                refine lv_aload_n hx hb dX12_settle_119 rfl (lv_at hl 1 rfl) ?_
                refine xh_getr C hw 0 0 sM_0 (x_lt hN rfl) rfl rfl rfl lk_RX12_7 dX12_settle_120 ?_
                refine lv_iload hx hb dX12_settle_123 (lv_at hl 0 rfl) ?_
                refine lv_iconst (v := (nI 1)) hx hb dX12_settle_125 (by decide) ?_
                refine lv_iadd hx hb dX12_settle_126 ?_
                refine xh_iald C hw 1 5512 h sM_1 (x_lt hN rfl) dX12_settle_127 (fun r127 h => ?_)
                refine lv_iload_n hx hb dX12_settle_128 rfl (lv_at hl 2 rfl) ?_
                refine x_icmp_ne (tgt := 181) hx hb h dX12_settle_129 (by decide) (fun h => ?_) (fun h => ?_)
                · refine lv_aload_n hx hb dX12_settle_132 rfl (lv_at hl 1 rfl) ?_
                  refine xh_getr C hw 0 0 sM_0 (x_lt hN rfl) rfl rfl rfl lk_RX12_7 dX12_settle_133 ?_
                  refine lv_iload hx hb dX12_settle_136 (lv_at hl 0 rfl) ?_
                  refine lv_iconst (v := (nI 3)) hx hb dX12_settle_138 (by decide) ?_
                  refine lv_iadd hx hb dX12_settle_139 ?_
                  refine xh_iald C hw 1 5512 h sM_1 (x_lt hN rfl) dX12_settle_140 (fun r140 h => ?_)
                  refine lv_iconst (v := (nI 1)) hx hb dX12_settle_141 (by decide) ?_
                  refine x_icmp_eq (tgt := 181) hx hb h dX12_settle_142 (by decide) (fun h => ?_) (fun h => ?_)
                  · exact w181 _ _ _ _ _ _ _ _ hw (lv_sub hl [1, 2, 3, 4, 5] rfl) h
                  · refine lv_aload_n hx hb dX12_settle_145 rfl (lv_at hl 1 rfl) ?_
                    refine xh_getr C hw 0 31 sM_0 (x_lt hN rfl) rfl rfl rfl lk_RX12_59 dX12_settle_146 ?_
                    refine lv_aload_n hx hb dX12_settle_149 rfl (lv_at hl 1 rfl) ?_
                    refine xh_getr C hw 0 0 sM_0 (x_lt hN rfl) rfl rfl rfl lk_RX12_7 dX12_settle_150 ?_
                    refine lv_iload hx hb dX12_settle_153 (lv_at hl 0 rfl) ?_
                    refine xh_iald C hw 1 5512 h sM_1 (x_lt hN rfl) dX12_settle_155 (fun r155 h => ?_)
                    refine xh_iald C hw 17 10 h sM_17 (x_lt hN rfl) dX12_settle_156 (fun r156 h => ?_)
                    refine lv_iload_n hx hb dX12_settle_157 rfl (lv_at hl 4 rfl) ?_
                    refine x_icmp_eq (tgt := 164) hx hb h dX12_settle_158 (by decide) (fun h => ?_) (fun h => ?_)
                    · refine lv_iload_n hx hb dX12_settle_164 rfl (lv_at hl 3 rfl) ?_
                      refine lv_aload_n hx hb dX12_settle_165 rfl (lv_at hl 1 rfl) ?_
                      refine lv_iload hx hb dX12_settle_166 (lv_at hl 5 rfl) ?_
                      refine xh_cVi C hw (rest := [_]) h (fun _ hz => c_X12_pays hq hz) ml_RX12_266 mv_X12_pays sM_0 (x_lt hN rfl) rfl ⟨rfl, rfl, by decide, by decide⟩ rfl hl.1 rfl (Nat.le_of_ble_eq_true rfl) dX12_settle_168 (fun H locs r168 M hw h => ?_)
                      refine x_if_eq (tgt := 178) hx hb h dX12_settle_171 (by decide) (fun h => ?_) (fun h => ?_)
                      · refine lv_iconst (v := (nI 0)) hx hb dX12_settle_178 (by decide) ?_
                        exact w179 _ _ _ _ _ _ _ _ _ hw (lv_sub hl [1, 2, 4, 5] rfl) h
                      · refine lv_iconst (v := (nI 1)) hx hb dX12_settle_174 (by decide) ?_
                        refine lv_goto (tgt := 179) hx hb dX12_settle_175 (by decide) ?_
                        exact w179 _ _ _ _ _ _ _ _ _ hw (lv_sub hl [1, 2, 4, 5] rfl) h
                    · refine lv_goto (tgt := 181) hx hb dX12_settle_161 (by decide) ?_
                      exact w181 _ _ _ _ _ _ _ _ hw (lv_sub hl [1, 2, 3, 4, 5] rfl) h
                · exact w181 _ _ _ _ _ _ _ _ hw (lv_sub hl [1, 2, 3, 4, 5] rfl) h
          intro M v1 v2 v3 H locs ls hw hl h
          rw [f_X12_settle_90_s] at h
          refine lv_iload_n hx hb dX12_settle_90 rfl (lv_at hl 3 rfl) ?_
          refine x_if_lt (tgt := 193) hx hb h dX12_settle_91 (by decide) (fun h => ?_) (fun h => ?_)
          · refine lv_iload_n hx hb dX12_settle_193 rfl (lv_at hl 2 rfl) ?_
            exact hret dX12_settle_194 rfl hw h
          · refine lv_iconst (v := (nI 0)) hx hb dX12_settle_94 (by decide) ?_
            refine lv_istore (lv' := [(4, .int _), (0, .ref (q 0)), (1, .int _), (2, .int _), (3, .int _)]) hx hb dX12_settle_95 hl (by decide) rfl (fun ls hl => ?_)
            exact w97 _ _ _ _ _ _ _ _ _ hw (lv_sub hl [1, 2, 3, 4, 0] rfl) h
      intro M v1 v2 H locs ls hw hl h
      rw [f_X12_settle_53_s] at h
      refine lv_iload_n hx hb dX12_settle_53 rfl (lv_at hl 2 rfl) ?_
      refine lv_aload_n hx hb dX12_settle_54 rfl (lv_at hl 0 rfl) ?_
      refine xh_getr C hw 0 0 sM_0 (x_lt hN rfl) rfl rfl rfl lk_RX12_7 dX12_settle_55 ?_
      refine lv_iconst (v := (nI 4)) hx hb dX12_settle_58 (by decide) ?_
      refine xh_iald C hw 1 5512 h sM_1 (x_lt hN rfl) dX12_settle_59 (fun r59 h => ?_)
      refine x_icmp_ge (tgt := 86) hx hb h dX12_settle_60 (by decide) (fun h => ?_) (fun h => ?_)
      · refine lv_iconst (v := (nI 0)) hx hb dX12_settle_86 (by decide) ?_
        refine lv_istore_n (lv' := [(2, .int _), (0, .ref (q 0)), (1, .int _)]) hx hb dX12_settle_87 rfl hl (by decide) rfl (fun ls hl => ?_)
        refine lv_iconst (v := (nI 3)) hx hb dX12_settle_88 (by decide) ?_
        refine lv_istore_n (lv' := [(3, .int _), (2, .int _), (0, .ref (q 0)), (1, .int _)]) hx hb dX12_settle_89 rfl hl (by decide) rfl (fun ls hl => ?_)
        exact w90 _ _ _ _ _ _ _ _ hw (lv_sub hl [2, 3, 1, 0] rfl) h
      · refine lv_aload_n hx hb dX12_settle_63 rfl (lv_at hl 0 rfl) ?_
        refine xh_getr C hw 0 31 sM_0 (x_lt hN rfl) rfl rfl rfl lk_RX12_59 dX12_settle_64 ?_
        refine lv_iload_n hx hb dX12_settle_67 rfl (lv_at hl 2 rfl) ?_
        refine lv_aload_n hx hb dX12_settle_68 rfl (lv_at hl 0 rfl) ?_
        refine lv_iload_n hx hb dX12_settle_69 rfl (lv_at hl 2 rfl) ?_
        refine lv_aload_n hx hb dX12_settle_70 rfl (lv_at hl 0 rfl) ?_
        refine xh_getr C hw 0 0 sM_0 (x_lt hN rfl) rfl rfl rfl lk_RX12_7 dX12_settle_71 ?_
        refine lv_iconst (v := (nI 0)) hx hb dX12_settle_74 (by decide) ?_
        refine xh_iald C hw 1 5512 h sM_1 (x_lt hN rfl) dX12_settle_75 (fun r75 h => ?_)
        refine xh_cVi C hw (rest := [_, _]) h (fun _ hz => c_X12_tierOn hq hz) ml_RX12_227 mv_X12_tierOn sM_0 (x_lt hN rfl) rfl ⟨rfl, rfl, by decide, by decide⟩ rfl hl.1 rfl (Nat.le_of_ble_eq_true rfl) dX12_settle_76 (fun H locs r76 M hw h => ?_)
        refine xh_iast C hw 17 10 h sM_17 (x_lt hN rfl) dX12_settle_79 (fun H locs M hw h => ?_)
        refine lv_iinc (lv' := [(2, .int _), (0, .ref (q 0)), (1, .int _)]) hx hb dX12_settle_80 hl (k := 2) rfl (x_inc (show Int32.ofInt 1 = (nI 1) by decide) _) (by decide) rfl (fun ls hl => ?_)
        refine lv_goto (tgt := 53) hx hb dX12_settle_83 (by decide) ?_
        exact ih53 _ _ _ _ _ _ hw (lv_sub hl [1, 2, 0] rfl) h
  unfold f_X12_settle at h
  refine lv_aload_n hx hb dX12_settle_0 rfl (lv_at hl 0 rfl) ?_
  refine lv_iload_n hx hb dX12_settle_1 rfl (lv_at hl 1 rfl) ?_
  refine xh_cVi C hw (rest := []) h (fun _ hz => c_X12_isFlight hq hz) ml_RX12_260 mv_X12_isFlight sM_0 (x_lt hN rfl) rfl ⟨rfl, rfl, by decide, by decide⟩ rfl hl.1 rfl (Nat.le_of_ble_eq_true rfl) dX12_settle_2 (fun H locs r2 M hw h => ?_)
  refine x_if_ne (tgt := 11) hx hb h dX12_settle_5 (by decide) (fun h => ?_) (fun h => ?_)
  · refine lv_ldc hx hb ho (hL _ kc_RX12_85) dX12_settle_8 ?_
    exact hret dX12_settle_10 rfl hw h
  · refine lv_aload_n hx hb dX12_settle_11 rfl (lv_at hl 0 rfl) ?_
    refine xh_getr C hw 0 0 sM_0 (x_lt hN rfl) rfl rfl rfl lk_RX12_7 dX12_settle_12 ?_
    refine lv_sipush (v := (nI 5298)) hx hb dX12_settle_15 (by decide) ?_
    refine lv_iconst (v := (nI 5)) hx hb dX12_settle_18 (by decide) ?_
    refine lv_iload_n hx hb dX12_settle_19 rfl (lv_at hl 1 rfl) ?_
    refine lv_imul hx hb dX12_settle_20 ?_
    refine lv_iadd hx hb dX12_settle_21 ?_
    refine xh_iald C hw 1 5512 h sM_1 (x_lt hN rfl) dX12_settle_22 (fun r22 h => ?_)
    refine lv_aload_n hx hb dX12_settle_23 rfl (lv_at hl 0 rfl) ?_
    refine xh_getr C hw 0 0 sM_0 (x_lt hN rfl) rfl rfl rfl lk_RX12_7 dX12_settle_24 ?_
    refine lv_iconst (v := (nI 0)) hx hb dX12_settle_27 (by decide) ?_
    refine xh_iald C hw 1 5512 h sM_1 (x_lt hN rfl) dX12_settle_28 (fun r28 h => ?_)
    refine x_icmp_gt (tgt := 35) hx hb h dX12_settle_29 (by decide) (fun h => ?_) (fun h => ?_)
    · refine lv_aload_n hx hb dX12_settle_35 rfl (lv_at hl 0 rfl) ?_
      refine lv_aload_n hx hb dX12_settle_36 rfl (lv_at hl 0 rfl) ?_
      refine xh_getr C hw 0 0 sM_0 (x_lt hN rfl) rfl rfl rfl lk_RX12_7 dX12_settle_37 ?_
      refine lv_iconst (v := (nI 0)) hx hb dX12_settle_40 (by decide) ?_
      refine xh_iald C hw 1 5512 h sM_1 (x_lt hN rfl) dX12_settle_41 (fun r41 h => ?_)
      refine lv_aload_n hx hb dX12_settle_42 rfl (lv_at hl 0 rfl) ?_
      refine xh_getr C hw 0 0 sM_0 (x_lt hN rfl) rfl rfl rfl lk_RX12_7 dX12_settle_43 ?_
      refine lv_iconst (v := (nI 0)) hx hb dX12_settle_46 (by decide) ?_
      refine xh_iald C hw 1 5512 h sM_1 (x_lt hN rfl) dX12_settle_47 (fun r47 h => ?_)
      refine xh_cVv C hw (rest := []) h (fun _ hz => c_X12_stand hq hz) ml_RX12_255 mv_X12_stand sM_0 (x_lt hN rfl) rfl ⟨rfl, rfl, by decide, by decide⟩ rfl hl.1 rfl (Nat.le_of_ble_eq_true rfl) dX12_settle_48 (fun H locs _ M hw h => ?_)
      refine lv_iconst (v := (nI 0)) hx hb dX12_settle_51 (by decide) ?_
      refine lv_istore_n (lv' := [(2, .int _), (0, .ref (q 0)), (1, .int _)]) hx hb dX12_settle_52 rfl hl (by decide) rfl (fun ls hl => ?_)
      exact w53 _ _ _ _ _ _ _ hw (lv_sub hl [1, 2, 0] rfl) h
    · refine lv_ldc hx hb ho (hL _ kc_RX12_111) dX12_settle_32 ?_
      exact hret dX12_settle_34 rfl hw h
def f_X12_asked_26 (M : x_M) : Option (Int32 × x_M) := some ((-1000000001), M)
def f_X12_asked (M : x_M) (a1 : Int32) (a2 : Int32) : Option (Int32 × x_M) := x_rd 5512 (M 1) (nI 8) (fun r8 => x_bn (f_X12_in M a1 (nI 0) (r8 - (nI 1))) (fun r11 M => if r11 = 0 then f_X12_asked_26 M else x_bn (f_X12_in M a2 (nI 0) (nI 4)) (fun r20 M => if r20 = 0 then f_X12_asked_26 M else x_rd 5512 (M 1) (((nI 5338) + ((nI 5) * a1)) + a2) (fun r42 => x_bn (f_X12_orNone M r42) (fun r43 M => some (r43, M))))))
abbrev rm_X12_asked : Room := { frames := 1, cells := 0, slots := 0, locals := 22 }
set_option maxHeartbeats 4000000 in
set_option maxRecDepth 100000 in
theorem c_X12_asked {l : Launch} {D : va_G} {cy : Nat → ClassId} {q ad : Nat → Nat} {s0 : State} (hq : x_Q q 24 s0.heap.size) {M : x_M} {a1 : Int32} {a2 : Int32} {z : Int32 × x_M} (h : f_X12_asked M a1 a2 = some z) : x_Ci l D cy q ad x_spM 24 s0 yX12_asked (x_uw yX12_asked cX12_asked 3 (some .int)) rm_X12_asked [.ref (q 0), .int a1, .int a2] M z.1 z.2 := by
  have hN : 24 ≤ 24 := Nat.le_refl _
  refine x_meti hq (by decide) (Nat.le_of_ble_eq_true rfl) ?_
  intro p e s m args below meth c ls Q C hret hl hw
  have hx := C.1.1
  have hb := C.1.2.1
  have ho := C.1.2.2.2.1
  have hL := C.1.2.2.2.2
  have hl : lv_has ls 3 [(0, .ref (q 0)), (1, .int a1), (2, .int a2)] := hl
  have w26 : ∀ (M : x_M) (H : Heap) (locs : List Loc) (ls : Array Slot), x_B D cy q ad x_spM 24 s H locs M → lv_has ls 3 [] → f_X12_asked_26 M = some z → W p l e rm_X12_asked s m args below meth c H locs 0 0 Q (F0 m 26 ls []) := by
    intro M H locs ls hw hl h
    unfold f_X12_asked_26 at h
    refine lv_ldc hx hb ho (hL _ kc_RX12_85) dX12_asked_26 ?_
    exact hret dX12_asked_28 rfl hw h
  unfold f_X12_asked at h
  refine lv_iload_n hx hb dX12_asked_0 rfl (lv_at hl 1 rfl) ?_
  refine lv_iconst (v := (nI 0)) hx hb dX12_asked_1 (by decide) ?_
  refine lv_aload_n hx hb dX12_asked_2 rfl (lv_at hl 0 rfl) ?_
  refine xh_getr C hw 0 0 sM_0 (x_lt hN rfl) rfl rfl rfl lk_RX12_7 dX12_asked_3 ?_
  refine lv_bipush (v := (nI 8)) hx hb dX12_asked_6 (by decide) ?_
  refine xh_iald C hw 1 5512 h sM_1 (x_lt hN rfl) dX12_asked_8 (fun r8 h => ?_)
  refine lv_iconst (v := (nI 1)) hx hb dX12_asked_9 (by decide) ?_
  refine lv_isub hx hb dX12_asked_10 ?_
  refine xh_cSi C hw (rest := []) h (fun _ hz => c_X12_in hq hz) ml_RX12_81 st_X12_in ⟨rfl, rfl, by decide, by decide⟩ rfl hl.1 rfl (Nat.le_of_ble_eq_true rfl) dX12_asked_11 (fun H locs r11 M hw h => ?_)
  refine x_if_eq (tgt := 26) hx hb h dX12_asked_14 (by decide) (fun h => ?_) (fun h => ?_)
  · exact w26 _ _ _ _ hw (lv_sub hl [] rfl) h
  · refine lv_iload_n hx hb dX12_asked_17 rfl (lv_at hl 2 rfl) ?_
    refine lv_iconst (v := (nI 0)) hx hb dX12_asked_18 (by decide) ?_
    refine lv_iconst (v := (nI 4)) hx hb dX12_asked_19 (by decide) ?_
    refine xh_cSi C hw (rest := []) h (fun _ hz => c_X12_in hq hz) ml_RX12_81 st_X12_in ⟨rfl, rfl, by decide, by decide⟩ rfl hl.1 rfl (Nat.le_of_ble_eq_true rfl) dX12_asked_20 (fun H locs r20 M hw h => ?_)
    refine x_if_ne (tgt := 29) hx hb h dX12_asked_23 (by decide) (fun h => ?_) (fun h => ?_)
    · exact w26 _ _ _ _ hw (lv_sub hl [] rfl) h
    · refine lv_aload_n hx hb dX12_asked_29 rfl (lv_at hl 0 rfl) ?_
      refine xh_getr C hw 0 0 sM_0 (x_lt hN rfl) rfl rfl rfl lk_RX12_7 dX12_asked_30 ?_
      refine lv_sipush (v := (nI 5338)) hx hb dX12_asked_33 (by decide) ?_
      refine lv_iconst (v := (nI 5)) hx hb dX12_asked_36 (by decide) ?_
      refine lv_iload_n hx hb dX12_asked_37 rfl (lv_at hl 1 rfl) ?_
      refine lv_imul hx hb dX12_asked_38 ?_
      refine lv_iadd hx hb dX12_asked_39 ?_
      refine lv_iload_n hx hb dX12_asked_40 rfl (lv_at hl 2 rfl) ?_
      refine lv_iadd hx hb dX12_asked_41 ?_
      refine xh_iald C hw 1 5512 h sM_1 (x_lt hN rfl) dX12_asked_42 (fun r42 h => ?_)
      refine xh_cSi C hw (rest := []) h (fun _ hz => c_X12_orNone hq hz) ml_RX12_91 st_X12_orNone ⟨rfl, rfl, by decide, by decide⟩ rfl hl.1 rfl (Nat.le_of_ble_eq_true rfl) dX12_asked_43 (fun H locs r43 M hw h => ?_)
      exact hret dX12_asked_46 rfl hw h
def f_X12_open (M : x_M) (a1 : Int32) : Option (Int32 × x_M) := x_bn (f_X12_isFlight M a1) (fun r2 M => if r2 = 0 then some ((-1000000001), M) else x_rd 5512 (M 1) (((nI 5298) + ((nI 5) * a1)) + (nI 4)) (fun r21 => some (r21, M)))
abbrev rm_X12_open : Room := { frames := 2, cells := 0, slots := 0, locals := 43 }
set_option maxHeartbeats 4000000 in
set_option maxRecDepth 100000 in
theorem c_X12_open {l : Launch} {D : va_G} {cy : Nat → ClassId} {q ad : Nat → Nat} {s0 : State} (hq : x_Q q 24 s0.heap.size) {M : x_M} {a1 : Int32} {z : Int32 × x_M} (h : f_X12_open M a1 = some z) : x_Ci l D cy q ad x_spM 24 s0 yX12_open (x_uw yX12_open cX12_open 2 (some .int)) rm_X12_open [.ref (q 0), .int a1] M z.1 z.2 := by
  have hN : 24 ≤ 24 := Nat.le_refl _
  refine x_meti hq (by decide) (Nat.le_of_ble_eq_true rfl) ?_
  intro p e s m args below meth c ls Q C hret hl hw
  have hx := C.1.1
  have hb := C.1.2.1
  have ho := C.1.2.2.2.1
  have hL := C.1.2.2.2.2
  have hl : lv_has ls 2 [(0, .ref (q 0)), (1, .int a1)] := hl
  unfold f_X12_open at h
  refine lv_aload_n hx hb dX12_open_0 rfl (lv_at hl 0 rfl) ?_
  refine lv_iload_n hx hb dX12_open_1 rfl (lv_at hl 1 rfl) ?_
  refine xh_cVi C hw (rest := []) h (fun _ hz => c_X12_isFlight hq hz) ml_RX12_260 mv_X12_isFlight sM_0 (x_lt hN rfl) rfl ⟨rfl, rfl, by decide, by decide⟩ rfl hl.1 rfl (Nat.le_of_ble_eq_true rfl) dX12_open_2 (fun H locs r2 M hw h => ?_)
  refine x_if_eq (tgt := 25) hx hb h dX12_open_5 (by decide) (fun h => ?_) (fun h => ?_)
  · refine lv_ldc hx hb ho (hL _ kc_RX12_85) dX12_open_25 ?_
    exact hret dX12_open_27 rfl hw h
  · refine lv_aload_n hx hb dX12_open_8 rfl (lv_at hl 0 rfl) ?_
    refine xh_getr C hw 0 0 sM_0 (x_lt hN rfl) rfl rfl rfl lk_RX12_7 dX12_open_9 ?_
    refine lv_sipush (v := (nI 5298)) hx hb dX12_open_12 (by decide) ?_
    refine lv_iconst (v := (nI 5)) hx hb dX12_open_15 (by decide) ?_
    refine lv_iload_n hx hb dX12_open_16 rfl (lv_at hl 1 rfl) ?_
    refine lv_imul hx hb dX12_open_17 ?_
    refine lv_iadd hx hb dX12_open_18 ?_
    refine lv_iconst (v := (nI 4)) hx hb dX12_open_19 (by decide) ?_
    refine lv_iadd hx hb dX12_open_20 ?_
    refine xh_iald C hw 1 5512 h sM_1 (x_lt hN rfl) dX12_open_21 (fun r21 h => ?_)
    refine lv_goto (tgt := 27) hx hb dX12_open_22 (by decide) ?_
    exact hret dX12_open_27 rfl hw h
def f_X12_offer_32 (M : x_M) : Option (Int32 × x_M) := some ((-1000000001), M)
def f_X12_offer (M : x_M) (a1 : Int32) (a2 : Int32) (a3 : Int32) : Option (Int32 × x_M) := x_bn (f_X12_in M a1 (nI 1) (nI 9999)) (fun r5 M => if r5 = 0 then f_X12_offer_32 M else x_bn (f_X12_in M a2 (nI 1) (nI 999)) (fun r16 M => if r16 = 0 then f_X12_offer_32 M else x_bn (f_X12_in M a3 (nI 1) (nI 9)) (fun r26 M => if r26 = 0 then f_X12_offer_32 M else x_rd 5512 (M 1) (nI 9) (fun r41 => if r41 = (nI 8) then some ((-1000000003), M) else x_rd 5512 (M 1) (nI 9) (fun r60 => x_wr 5512 M 1 ((nI 5488) + ((nI 3) * r60)) a1 (fun M => x_wr 5512 M 1 (((nI 5488) + ((nI 3) * r60)) + (nI 1)) a2 (fun M => x_wr 5512 M 1 (((nI 5488) + ((nI 3) * r60)) + (nI 2)) a3 (fun M => x_rd 5512 (M 1) (nI 9) (fun r100 => x_wr 5512 M 1 (nI 9) (r100 + (nI 1)) (fun M => x_rd 5512 (M 1) (nI 9) (fun r110 => some ((r110 - (nI 1)), M))))))))))))
abbrev rm_X12_offer : Room := { frames := 1, cells := 0, slots := 0, locals := 22 }
set_option maxHeartbeats 4000000 in
set_option maxRecDepth 100000 in
theorem c_X12_offer {l : Launch} {D : va_G} {cy : Nat → ClassId} {q ad : Nat → Nat} {s0 : State} (hq : x_Q q 24 s0.heap.size) {M : x_M} {a1 : Int32} {a2 : Int32} {a3 : Int32} {z : Int32 × x_M} (h : f_X12_offer M a1 a2 a3 = some z) : x_Ci l D cy q ad x_spM 24 s0 yX12_offer (x_uw yX12_offer cX12_offer 5 (some .int)) rm_X12_offer [.ref (q 0), .int a1, .int a2, .int a3] M z.1 z.2 := by
  have hN : 24 ≤ 24 := Nat.le_refl _
  refine x_meti hq (by decide) (Nat.le_of_ble_eq_true rfl) ?_
  intro p e s m args below meth c ls Q C hret hl hw
  have hx := C.1.1
  have hb := C.1.2.1
  have ho := C.1.2.2.2.1
  have hL := C.1.2.2.2.2
  have hl : lv_has ls 5 [(0, .ref (q 0)), (1, .int a1), (2, .int a2), (3, .int a3)] := hl
  have w32 : ∀ (M : x_M) (H : Heap) (locs : List Loc) (ls : Array Slot), x_B D cy q ad x_spM 24 s H locs M → lv_has ls 5 [] → f_X12_offer_32 M = some z → W p l e rm_X12_offer s m args below meth c H locs 0 0 Q (F0 m 32 ls []) := by
    intro M H locs ls hw hl h
    unfold f_X12_offer_32 at h
    refine lv_ldc hx hb ho (hL _ kc_RX12_85) dX12_offer_32 ?_
    exact hret dX12_offer_34 rfl hw h
  unfold f_X12_offer at h
  refine lv_iload_n hx hb dX12_offer_0 rfl (lv_at hl 1 rfl) ?_
  refine lv_iconst (v := (nI 1)) hx hb dX12_offer_1 (by decide) ?_
  refine lv_sipush (v := (nI 9999)) hx hb dX12_offer_2 (by decide) ?_
  refine xh_cSi C hw (rest := []) h (fun _ hz => c_X12_in hq hz) ml_RX12_81 st_X12_in ⟨rfl, rfl, by decide, by decide⟩ rfl hl.1 rfl (Nat.le_of_ble_eq_true rfl) dX12_offer_5 (fun H locs r5 M hw h => ?_)
  refine x_if_eq (tgt := 32) hx hb h dX12_offer_8 (by decide) (fun h => ?_) (fun h => ?_)
  · exact w32 _ _ _ _ hw (lv_sub hl [] rfl) h
  · refine lv_iload_n hx hb dX12_offer_11 rfl (lv_at hl 2 rfl) ?_
    refine lv_iconst (v := (nI 1)) hx hb dX12_offer_12 (by decide) ?_
    refine lv_sipush (v := (nI 999)) hx hb dX12_offer_13 (by decide) ?_
    refine xh_cSi C hw (rest := []) h (fun _ hz => c_X12_in hq hz) ml_RX12_81 st_X12_in ⟨rfl, rfl, by decide, by decide⟩ rfl hl.1 rfl (Nat.le_of_ble_eq_true rfl) dX12_offer_16 (fun H locs r16 M hw h => ?_)
    refine x_if_eq (tgt := 32) hx hb h dX12_offer_19 (by decide) (fun h => ?_) (fun h => ?_)
    · exact w32 _ _ _ _ hw (lv_sub hl [] rfl) h
    · refine lv_iload_n hx hb dX12_offer_22 rfl (lv_at hl 3 rfl) ?_
      refine lv_iconst (v := (nI 1)) hx hb dX12_offer_23 (by decide) ?_
      refine lv_bipush (v := (nI 9)) hx hb dX12_offer_24 (by decide) ?_
      refine xh_cSi C hw (rest := []) h (fun _ hz => c_X12_in hq hz) ml_RX12_81 st_X12_in ⟨rfl, rfl, by decide, by decide⟩ rfl hl.1 rfl (Nat.le_of_ble_eq_true rfl) dX12_offer_26 (fun H locs r26 M hw h => ?_)
      refine x_if_ne (tgt := 35) hx hb h dX12_offer_29 (by decide) (fun h => ?_) (fun h => ?_)
      · exact w32 _ _ _ _ hw (lv_sub hl [] rfl) h
      · refine lv_aload_n hx hb dX12_offer_35 rfl (lv_at hl 0 rfl) ?_
        refine xh_getr C hw 0 0 sM_0 (x_lt hN rfl) rfl rfl rfl lk_RX12_7 dX12_offer_36 ?_
        refine lv_bipush (v := (nI 9)) hx hb dX12_offer_39 (by decide) ?_
        refine xh_iald C hw 1 5512 h sM_1 (x_lt hN rfl) dX12_offer_41 (fun r41 h => ?_)
        refine lv_bipush (v := (nI 8)) hx hb dX12_offer_42 (by decide) ?_
        refine x_icmp_ne (tgt := 50) hx hb h dX12_offer_44 (by decide) (fun h => ?_) (fun h => ?_)
        · refine lv_ldc hx hb ho (hL _ kc_RX12_86) dX12_offer_47 ?_
          exact hret dX12_offer_49 rfl hw h
        · refine lv_sipush (v := (nI 5488)) hx hb dX12_offer_50 (by decide) ?_
          refine lv_iconst (v := (nI 3)) hx hb dX12_offer_53 (by decide) ?_
          refine lv_aload_n hx hb dX12_offer_54 rfl (lv_at hl 0 rfl) ?_
          refine xh_getr C hw 0 0 sM_0 (x_lt hN rfl) rfl rfl rfl lk_RX12_7 dX12_offer_55 ?_
          refine lv_bipush (v := (nI 9)) hx hb dX12_offer_58 (by decide) ?_
          refine xh_iald C hw 1 5512 h sM_1 (x_lt hN rfl) dX12_offer_60 (fun r60 h => ?_)
          refine lv_imul hx hb dX12_offer_61 ?_
          refine lv_iadd hx hb dX12_offer_62 ?_
          refine lv_istore (lv' := [(4, .int _), (0, .ref (q 0)), (1, .int _), (2, .int _), (3, .int _)]) hx hb dX12_offer_63 hl (by decide) rfl (fun ls hl => ?_)
          refine lv_aload_n hx hb dX12_offer_65 rfl (lv_at hl 1 rfl) ?_
          refine xh_getr C hw 0 0 sM_0 (x_lt hN rfl) rfl rfl rfl lk_RX12_7 dX12_offer_66 ?_
          refine lv_iload hx hb dX12_offer_69 (lv_at hl 0 rfl) ?_
          refine lv_iload_n hx hb dX12_offer_71 rfl (lv_at hl 2 rfl) ?_
          refine xh_iast C hw 1 5512 h sM_1 (x_lt hN rfl) dX12_offer_72 (fun H locs M hw h => ?_)
          refine lv_aload_n hx hb dX12_offer_73 rfl (lv_at hl 1 rfl) ?_
          refine xh_getr C hw 0 0 sM_0 (x_lt hN rfl) rfl rfl rfl lk_RX12_7 dX12_offer_74 ?_
          refine lv_iload hx hb dX12_offer_77 (lv_at hl 0 rfl) ?_
          refine lv_iconst (v := (nI 1)) hx hb dX12_offer_79 (by decide) ?_
          refine lv_iadd hx hb dX12_offer_80 ?_
          refine lv_iload_n hx hb dX12_offer_81 rfl (lv_at hl 3 rfl) ?_
          refine xh_iast C hw 1 5512 h sM_1 (x_lt hN rfl) dX12_offer_82 (fun H locs M hw h => ?_)
          refine lv_aload_n hx hb dX12_offer_83 rfl (lv_at hl 1 rfl) ?_
          refine xh_getr C hw 0 0 sM_0 (x_lt hN rfl) rfl rfl rfl lk_RX12_7 dX12_offer_84 ?_
          refine lv_iload hx hb dX12_offer_87 (lv_at hl 0 rfl) ?_
          refine lv_iconst (v := (nI 2)) hx hb dX12_offer_89 (by decide) ?_
          refine lv_iadd hx hb dX12_offer_90 ?_
          refine lv_iload_n hx hb dX12_offer_91 rfl (lv_at hl 4 rfl) ?_
          refine xh_iast C hw 1 5512 h sM_1 (x_lt hN rfl) dX12_offer_92 (fun H locs M hw h => ?_)
          refine lv_aload_n hx hb dX12_offer_93 rfl (lv_at hl 1 rfl) ?_
          refine xh_getr C hw 0 0 sM_0 (x_lt hN rfl) rfl rfl rfl lk_RX12_7 dX12_offer_94 ?_
          refine lv_bipush (v := (nI 9)) hx hb dX12_offer_97 (by decide) ?_
          refine lv_dup2_11 hx hb dX12_offer_99 rfl rfl ?_
          refine xh_iald C hw 1 5512 h sM_1 (x_lt hN rfl) dX12_offer_100 (fun r100 h => ?_)
          refine lv_iconst (v := (nI 1)) hx hb dX12_offer_101 (by decide) ?_
          refine lv_iadd hx hb dX12_offer_102 ?_
          refine xh_iast C hw 1 5512 h sM_1 (x_lt hN rfl) dX12_offer_103 (fun H locs M hw h => ?_)
          refine lv_aload_n hx hb dX12_offer_104 rfl (lv_at hl 1 rfl) ?_
          refine xh_getr C hw 0 0 sM_0 (x_lt hN rfl) rfl rfl rfl lk_RX12_7 dX12_offer_105 ?_
          refine lv_bipush (v := (nI 9)) hx hb dX12_offer_108 (by decide) ?_
          refine xh_iald C hw 1 5512 h sM_1 (x_lt hN rfl) dX12_offer_110 (fun r110 h => ?_)
          refine lv_iconst (v := (nI 1)) hx hb dX12_offer_111 (by decide) ?_
          refine lv_isub hx hb dX12_offer_112 ?_
          exact hret dX12_offer_113 rfl hw h
def f_X12_clear (M : x_M) : Option (Int32 × x_M) := x_rd 5512 (M 1) (nI 9) (fun r6 => x_wr 5512 M 1 (nI 9) (nI 0) (fun M => some (r6, M)))
abbrev rm_X12_clear : Room := { frames := 0, cells := 0, slots := 0, locals := 0 }
set_option maxHeartbeats 4000000 in
set_option maxRecDepth 100000 in
theorem c_X12_clear {l : Launch} {D : va_G} {cy : Nat → ClassId} {q ad : Nat → Nat} {s0 : State} (hq : x_Q q 24 s0.heap.size) {M : x_M} {z : Int32 × x_M} (h : f_X12_clear M = some z) : x_Ci l D cy q ad x_spM 24 s0 yX12_clear (x_uw yX12_clear cX12_clear 2 (some .int)) rm_X12_clear [.ref (q 0)] M z.1 z.2 := by
  have hN : 24 ≤ 24 := Nat.le_refl _
  refine x_meti hq (by decide) (Nat.le_of_ble_eq_true rfl) ?_
  intro p e s m args below meth c ls Q C hret hl hw
  have hx := C.1.1
  have hb := C.1.2.1
  have ho := C.1.2.2.2.1
  have hL := C.1.2.2.2.2
  have hl : lv_has ls 2 [(0, .ref (q 0))] := hl
  unfold f_X12_clear at h
  refine lv_aload_n hx hb dX12_clear_0 rfl (lv_at hl 0 rfl) ?_
  refine xh_getr C hw 0 0 sM_0 (x_lt hN rfl) rfl rfl rfl lk_RX12_7 dX12_clear_1 ?_
  refine lv_bipush (v := (nI 9)) hx hb dX12_clear_4 (by decide) ?_
  refine xh_iald C hw 1 5512 h sM_1 (x_lt hN rfl) dX12_clear_6 (fun r6 h => ?_)
  refine lv_istore_n (lv' := [(1, .int _), (0, .ref (q 0))]) hx hb dX12_clear_7 rfl hl (by decide) rfl (fun ls hl => ?_)
  refine lv_aload_n hx hb dX12_clear_8 rfl (lv_at hl 1 rfl) ?_
  refine xh_getr C hw 0 0 sM_0 (x_lt hN rfl) rfl rfl rfl lk_RX12_7 dX12_clear_9 ?_
  refine lv_bipush (v := (nI 9)) hx hb dX12_clear_12 (by decide) ?_
  refine lv_iconst (v := (nI 0)) hx hb dX12_clear_14 (by decide) ?_
  refine xh_iast C hw 1 5512 h sM_1 (x_lt hN rfl) dX12_clear_15 (fun H locs M hw h => ?_)
  refine lv_iload_n hx hb dX12_clear_16 rfl (lv_at hl 0 rfl) ?_
  exact hret dX12_clear_17 rfl hw h
def f_X12_wayBy (M : x_M) (a1 : Int32) (a2 : Int32) (a3 : Int32) : Option (Int32 × x_M) := x_rd 5512 (M 1) (((nI 5488) + ((nI 3) * a1)) + (nI 1)) (fun r31 => x_bn (f_X12_more M (nI 0) (a2 - (a3 * r31))) (fun r34 M => x_rd 27009 (M 18) (((nI 3001) * (a1 + (nI 1))) + r34) (fun r38 => if r38 = (nI 1000000000) then some ((nI 1000000000), M) else x_rd 5512 (M 1) ((nI 5488) + ((nI 3) * a1)) (fun r66 => some ((r38 + (a3 * (((nI 100) * r66) + (nI 1)))), M)))))
abbrev rm_X12_wayBy : Room := { frames := 1, cells := 0, slots := 0, locals := 21 }
set_option maxHeartbeats 4000000 in
set_option maxRecDepth 100000 in
theorem c_X12_wayBy {l : Launch} {D : va_G} {cy : Nat → ClassId} {q ad : Nat → Nat} {s0 : State} (hq : x_Q q 24 s0.heap.size) {M : x_M} {a1 : Int32} {a2 : Int32} {a3 : Int32} {z : Int32 × x_M} (h : f_X12_wayBy M a1 a2 a3 = some z) : x_Ci l D cy q ad x_spM 24 s0 yX12_wayBy (x_uw yX12_wayBy cX12_wayBy 6 (some .int)) rm_X12_wayBy [.ref (q 0), .int a1, .int a2, .int a3] M z.1 z.2 := by
  have hN : 24 ≤ 24 := Nat.le_refl _
  refine x_meti hq (by decide) (Nat.le_of_ble_eq_true rfl) ?_
  intro p e s m args below meth c ls Q C hret hl hw
  have hx := C.1.1
  have hb := C.1.2.1
  have ho := C.1.2.2.2.1
  have hL := C.1.2.2.2.2
  have hl : lv_has ls 6 [(0, .ref (q 0)), (1, .int a1), (2, .int a2), (3, .int a3)] := hl
  unfold f_X12_wayBy at h
  refine lv_sipush (v := (nI 5488)) hx hb dX12_wayBy_0 (by decide) ?_
  refine lv_iconst (v := (nI 3)) hx hb dX12_wayBy_3 (by decide) ?_
  refine lv_iload_n hx hb dX12_wayBy_4 rfl (lv_at hl 1 rfl) ?_
  refine lv_imul hx hb dX12_wayBy_5 ?_
  refine lv_iadd hx hb dX12_wayBy_6 ?_
  refine lv_istore (lv' := [(4, .int _), (0, .ref (q 0)), (1, .int _), (2, .int _), (3, .int _)]) hx hb dX12_wayBy_7 hl (by decide) rfl (fun ls hl => ?_)
  refine lv_aload_n hx hb dX12_wayBy_9 rfl (lv_at hl 1 rfl) ?_
  refine xh_getr C hw 0 32 sM_0 (x_lt hN rfl) rfl rfl rfl lk_RX12_62 dX12_wayBy_10 ?_
  refine lv_sipush (v := (nI 3001)) hx hb dX12_wayBy_13 (by decide) ?_
  refine lv_iload_n hx hb dX12_wayBy_16 rfl (lv_at hl 2 rfl) ?_
  refine lv_iconst (v := (nI 1)) hx hb dX12_wayBy_17 (by decide) ?_
  refine lv_iadd hx hb dX12_wayBy_18 ?_
  refine lv_imul hx hb dX12_wayBy_19 ?_
  refine lv_iconst (v := (nI 0)) hx hb dX12_wayBy_20 (by decide) ?_
  refine lv_iload_n hx hb dX12_wayBy_21 rfl (lv_at hl 3 rfl) ?_
  refine lv_iload_n hx hb dX12_wayBy_22 rfl (lv_at hl 4 rfl) ?_
  refine lv_aload_n hx hb dX12_wayBy_23 rfl (lv_at hl 1 rfl) ?_
  refine xh_getr C hw 0 0 sM_0 (x_lt hN rfl) rfl rfl rfl lk_RX12_7 dX12_wayBy_24 ?_
  refine lv_iload hx hb dX12_wayBy_27 (lv_at hl 0 rfl) ?_
  refine lv_iconst (v := (nI 1)) hx hb dX12_wayBy_29 (by decide) ?_
  refine lv_iadd hx hb dX12_wayBy_30 ?_
  refine xh_iald C hw 1 5512 h sM_1 (x_lt hN rfl) dX12_wayBy_31 (fun r31 h => ?_)
  refine lv_imul hx hb dX12_wayBy_32 ?_
  refine lv_isub hx hb dX12_wayBy_33 ?_
  refine xh_cSi C hw (rest := [_, _]) h (fun _ hz => c_X12_more hq hz) ml_RX12_209 st_X12_more ⟨rfl, rfl, by decide, by decide⟩ rfl hl.1 rfl (Nat.le_of_ble_eq_true rfl) dX12_wayBy_34 (fun H locs r34 M hw h => ?_)
  refine lv_iadd hx hb dX12_wayBy_37 ?_
  refine xh_iald C hw 18 27009 h sM_18 (x_lt hN rfl) dX12_wayBy_38 (fun r38 h => ?_)
  refine lv_istore (lv' := [(5, .int _), (4, .int _), (0, .ref (q 0)), (1, .int _), (2, .int _), (3, .int _)]) hx hb dX12_wayBy_39 hl (by decide) rfl (fun ls hl => ?_)
  refine lv_iload hx hb dX12_wayBy_41 (lv_at hl 0 rfl) ?_
  refine lv_ldcw hx hb ho (hL _ kc_RX12_269) dX12_wayBy_43 ?_
  refine x_icmp_ne (tgt := 55) hx hb h dX12_wayBy_46 (by decide) (fun h => ?_) (fun h => ?_)
  · refine lv_ldcw hx hb ho (hL _ kc_RX12_269) dX12_wayBy_49 ?_
    refine lv_goto (tgt := 72) hx hb dX12_wayBy_52 (by decide) ?_
    exact hret dX12_wayBy_72 rfl hw h
  · refine lv_iload hx hb dX12_wayBy_55 (lv_at hl 0 rfl) ?_
    refine lv_iload_n hx hb dX12_wayBy_57 rfl (lv_at hl 5 rfl) ?_
    refine lv_bipush (v := (nI 100)) hx hb dX12_wayBy_58 (by decide) ?_
    refine lv_aload_n hx hb dX12_wayBy_60 rfl (lv_at hl 2 rfl) ?_
    refine xh_getr C hw 0 0 sM_0 (x_lt hN rfl) rfl rfl rfl lk_RX12_7 dX12_wayBy_61 ?_
    refine lv_iload hx hb dX12_wayBy_64 (lv_at hl 1 rfl) ?_
    refine xh_iald C hw 1 5512 h sM_1 (x_lt hN rfl) dX12_wayBy_66 (fun r66 h => ?_)
    refine lv_imul hx hb dX12_wayBy_67 ?_
    refine lv_iconst (v := (nI 1)) hx hb dX12_wayBy_68 (by decide) ?_
    refine lv_iadd hx hb dX12_wayBy_69 ?_
    refine lv_imul hx hb dX12_wayBy_70 ?_
    refine lv_iadd hx hb dX12_wayBy_71 ?_
    exact hret dX12_wayBy_72 rfl hw h
def f_X12_findWays_37 (k10 : x_M → Int32 → Int32 → Int32 → Option (Unit × x_M)) (M : x_M) (v1 : Int32) (v2 : Int32) (v3 : Int32) (t1 : Int32) (t2 : Int32) : Option (Unit × x_M) := x_wr 27009 M 18 t1 t2 (fun M => k10 M v1 v2 (v3 + (nI 1)))
def f_X12_findWays_69 (k48 : x_M → Int32 → Int32 → Option (Unit × x_M)) (k55 : x_M → Int32 → Int32 → Int32 → Option (Unit × x_M)) : Nat → x_M → Int32 → Int32 → Int32 → Int32 → Int32 → Option (Unit × x_M)
  | 0, _, _, _, _, _, _ => none
  | n + 1, M, v1, v3, v4, v5, v6 => x_rd 5512 (M 1) (((nI 5488) + ((nI 3) * v3)) + (nI 2)) (fun r84 => if r84 < v6 then x_wr 27009 M 18 (((nI 3001) * v3) + v4) v5 (fun M => k55 M v1 v3 (v4 + (nI 1))) else x_bn (f_X12_wayBy M v3 v4 v6) (fun r96 M => x_bn (f_X12_less M v5 r96) (fun r99 M => (f_X12_findWays_69 k48 k55 n) M v1 v3 v4 r99 (v6 + (nI 1)))))
theorem f_X12_findWays_69_0 (k48 : x_M → Int32 → Int32 → Option (Unit × x_M)) (k55 : x_M → Int32 → Int32 → Int32 → Option (Unit × x_M)) (M : x_M) (v1 : Int32) (v3 : Int32) (v4 : Int32) (v5 : Int32) (v6 : Int32) : f_X12_findWays_69 k48 k55 0 M v1 v3 v4 v5 v6 = none := rfl
theorem f_X12_findWays_69_s (k48 : x_M → Int32 → Int32 → Option (Unit × x_M)) (k55 : x_M → Int32 → Int32 → Int32 → Option (Unit × x_M)) (n : Nat) (M : x_M) (v1 : Int32) (v3 : Int32) (v4 : Int32) (v5 : Int32) (v6 : Int32) : f_X12_findWays_69 k48 k55 (n + 1) M v1 v3 v4 v5 v6 = (x_rd 5512 (M 1) (((nI 5488) + ((nI 3) * v3)) + (nI 2)) (fun r84 => if r84 < v6 then x_wr 27009 M 18 (((nI 3001) * v3) + v4) v5 (fun M => k55 M v1 v3 (v4 + (nI 1))) else x_bn (f_X12_wayBy M v3 v4 v6) (fun r96 M => x_bn (f_X12_less M v5 r96) (fun r99 M => (f_X12_findWays_69 k48 k55 n) M v1 v3 v4 r99 (v6 + (nI 1)))))) := rfl
def f_X12_findWays_55 (k48 : x_M → Int32 → Int32 → Option (Unit × x_M)) : Nat → x_M → Int32 → Int32 → Int32 → Option (Unit × x_M)
  | 0, _, _, _, _ => none
  | n + 1, M, v1, v3, v4 => if v1 < v4 then k48 M v1 (v3 + (-1)) else f_X12_findWays_69 k48 (f_X12_findWays_55 k48 n) x_FU M v1 v3 v4 (nI 1000000000) (nI 0)
theorem f_X12_findWays_55_0 (k48 : x_M → Int32 → Int32 → Option (Unit × x_M)) (M : x_M) (v1 : Int32) (v3 : Int32) (v4 : Int32) : f_X12_findWays_55 k48 0 M v1 v3 v4 = none := rfl
theorem f_X12_findWays_55_s (k48 : x_M → Int32 → Int32 → Option (Unit × x_M)) (n : Nat) (M : x_M) (v1 : Int32) (v3 : Int32) (v4 : Int32) : f_X12_findWays_55 k48 (n + 1) M v1 v3 v4 = (if v1 < v4 then k48 M v1 (v3 + (-1)) else f_X12_findWays_69 k48 (f_X12_findWays_55 k48 n) x_FU M v1 v3 v4 (nI 1000000000) (nI 0)) := rfl
def f_X12_findWays_48 : Nat → x_M → Int32 → Int32 → Option (Unit × x_M)
  | 0, _, _, _ => none
  | n + 1, M, v1, v3 => if v3 < 0 then some ((), M) else f_X12_findWays_55 (f_X12_findWays_48 n) x_FU M v1 v3 (nI 0)
theorem f_X12_findWays_48_0 (M : x_M) (v1 : Int32) (v3 : Int32) : f_X12_findWays_48 0 M v1 v3 = none := rfl
theorem f_X12_findWays_48_s (n : Nat) (M : x_M) (v1 : Int32) (v3 : Int32) : f_X12_findWays_48 (n + 1) M v1 v3 = (if v3 < 0 then some ((), M) else f_X12_findWays_55 (f_X12_findWays_48 n) x_FU M v1 v3 (nI 0)) := rfl
def f_X12_findWays_10 : Nat → x_M → Int32 → Int32 → Int32 → Option (Unit × x_M)
  | 0, _, _, _, _ => none
  | n + 1, M, v1, v2, v3 => if v1 < v3 then f_X12_findWays_48 x_FU M v1 (v2 - (nI 1)) else if v3 = 0 then f_X12_findWays_37 (f_X12_findWays_10 n) M v1 v2 v3 (((nI 3001) * v2) + v3) (nI 0) else f_X12_findWays_37 (f_X12_findWays_10 n) M v1 v2 v3 (((nI 3001) * v2) + v3) (nI 1000000000)
theorem f_X12_findWays_10_0 (M : x_M) (v1 : Int32) (v2 : Int32) (v3 : Int32) : f_X12_findWays_10 0 M v1 v2 v3 = none := rfl
theorem f_X12_findWays_10_s (n : Nat) (M : x_M) (v1 : Int32) (v2 : Int32) (v3 : Int32) : f_X12_findWays_10 (n + 1) M v1 v2 v3 = (if v1 < v3 then f_X12_findWays_48 x_FU M v1 (v2 - (nI 1)) else if v3 = 0 then f_X12_findWays_37 (f_X12_findWays_10 n) M v1 v2 v3 (((nI 3001) * v2) + v3) (nI 0) else f_X12_findWays_37 (f_X12_findWays_10 n) M v1 v2 v3 (((nI 3001) * v2) + v3) (nI 1000000000)) := rfl
def f_X12_findWays (M : x_M) (a1 : Int32) : Option (Unit × x_M) := x_rd 5512 (M 1) (nI 9) (fun r6 => f_X12_findWays_10 x_FU M a1 r6 (nI 0))
abbrev rm_X12_findWays : Room := { frames := 2, cells := 0, slots := 0, locals := 46 }
set_option maxHeartbeats 4000000 in
set_option maxRecDepth 100000 in
theorem c_X12_findWays {l : Launch} {D : va_G} {cy : Nat → ClassId} {q ad : Nat → Nat} {s0 : State} (hq : x_Q q 24 s0.heap.size) {M : x_M} {a1 : Int32} {z : Unit × x_M} (h : f_X12_findWays M a1 = some z) : x_Cv l D cy q ad x_spM 24 s0 yX12_findWays (x_uw yX12_findWays cX12_findWays 7 none) rm_X12_findWays [.ref (q 0), .int a1] M z.2 := by
  have hN : 24 ≤ 24 := Nat.le_refl _
  refine x_metv hq (by decide) (Nat.le_of_ble_eq_true rfl) ?_
  intro p e s m args below meth c ls Q C hret hl hw
  have hx := C.1.1
  have hb := C.1.2.1
  have ho := C.1.2.2.2.1
  have hL := C.1.2.2.2.2
  have hl : lv_has ls 7 [(0, .ref (q 0)), (1, .int a1)] := hl
  have w10 : ∀ (n : Nat) (M : x_M) (v1 : Int32) (v2 : Int32) (v3 : Int32) (H : Heap) (locs : List Loc) (ls : Array Slot), x_B D cy q ad x_spM 24 s H locs M → lv_has ls 7 [(0, .ref (q 0)), (1, .int v1), (2, .int v2), (3, .int v3)] → f_X12_findWays_10 n M v1 v2 v3 = some z → W p l e rm_X12_findWays s m args below meth c H locs 0 0 Q (F0 m 10 ls []) := by
    intro n
    induction n with
    | zero =>
      intro M v1 v2 v3 H locs ls hw hl h
      rw [f_X12_findWays_10_0] at h
      cases h
    | succ n10 ih10 =>
      have w37 : ∀ (M : x_M) (v1 : Int32) (v2 : Int32) (v3 : Int32) (t1 : Int32) (t2 : Int32) (H : Heap) (locs : List Loc) (ls : Array Slot), x_B D cy q ad x_spM 24 s H locs M → lv_has ls 7 [(0, .ref (q 0)), (1, .int v1), (2, .int v2), (3, .int v3)] → f_X12_findWays_37 (f_X12_findWays_10 n10) M v1 v2 v3 t1 t2 = some z → W p l e rm_X12_findWays s m args below meth c H locs 0 0 Q (F0 m 37 ls [.int t2, .int t1, .ref (q 18)]) := by
        intro M v1 v2 v3 t1 t2 H locs ls hw hl h
        unfold f_X12_findWays_37 at h
        refine xh_iast C hw 18 27009 h sM_18 (x_lt hN rfl) dX12_findWays_37 (fun H locs M hw h => ?_)
        refine lv_iinc (lv' := [(3, .int _), (0, .ref (q 0)), (1, .int _), (2, .int _)]) hx hb dX12_findWays_38 hl (k := 3) rfl (x_inc (show Int32.ofInt 1 = (nI 1) by decide) _) (by decide) rfl (fun ls hl => ?_)
        refine lv_goto (tgt := 10) hx hb dX12_findWays_41 (by decide) ?_
        exact ih10 _ _ _ _ _ _ _ hw (lv_sub hl [1, 2, 3, 0] rfl) h
      have w48 : ∀ (n : Nat) (M : x_M) (v1 : Int32) (v3 : Int32) (H : Heap) (locs : List Loc) (ls : Array Slot), x_B D cy q ad x_spM 24 s H locs M → lv_has ls 7 [(0, .ref (q 0)), (1, .int v1), (3, .int v3)] → f_X12_findWays_48 n M v1 v3 = some z → W p l e rm_X12_findWays s m args below meth c H locs 0 0 Q (F0 m 48 ls []) := by
        intro n
        induction n with
        | zero =>
          intro M v1 v3 H locs ls hw hl h
          rw [f_X12_findWays_48_0] at h
          cases h
        | succ n48 ih48 =>
          have w55 : ∀ (n : Nat) (M : x_M) (v1 : Int32) (v3 : Int32) (v4 : Int32) (H : Heap) (locs : List Loc) (ls : Array Slot), x_B D cy q ad x_spM 24 s H locs M → lv_has ls 7 [(0, .ref (q 0)), (1, .int v1), (3, .int v3), (4, .int v4)] → f_X12_findWays_55 (f_X12_findWays_48 n48) n M v1 v3 v4 = some z → W p l e rm_X12_findWays s m args below meth c H locs 0 0 Q (F0 m 55 ls []) := by
            intro n
            induction n with
            | zero =>
              intro M v1 v3 v4 H locs ls hw hl h
              rw [f_X12_findWays_55_0] at h
              cases h
            | succ n55 ih55 =>
              have w69 : ∀ (n : Nat) (M : x_M) (v1 : Int32) (v3 : Int32) (v4 : Int32) (v5 : Int32) (v6 : Int32) (H : Heap) (locs : List Loc) (ls : Array Slot), x_B D cy q ad x_spM 24 s H locs M → lv_has ls 7 [(0, .ref (q 0)), (1, .int v1), (3, .int v3), (4, .int v4), (5, .int v5), (6, .int v6)] → f_X12_findWays_69 (f_X12_findWays_48 n48) (f_X12_findWays_55 (f_X12_findWays_48 n48) n55) n M v1 v3 v4 v5 v6 = some z → W p l e rm_X12_findWays s m args below meth c H locs 0 0 Q (F0 m 69 ls []) := by
                intro n
                induction n with
                | zero =>
                  intro M v1 v3 v4 v5 v6 H locs ls hw hl h
                  rw [f_X12_findWays_69_0] at h
                  cases h
                | succ n69 ih69 =>
                  intro M v1 v3 v4 v5 v6 H locs ls hw hl h
                  rw [f_X12_findWays_69_s] at h
                  refine lv_iload hx hb dX12_findWays_69 (lv_at hl 5 rfl) ?_
                  refine lv_aload_n hx hb dX12_findWays_71 rfl (lv_at hl 0 rfl) ?_
                  refine xh_getr C hw 0 0 sM_0 (x_lt hN rfl) rfl rfl rfl lk_RX12_7 dX12_findWays_72 ?_
                  refine lv_sipush (v := (nI 5488)) hx hb dX12_findWays_75 (by decide) ?_
                  refine lv_iconst (v := (nI 3)) hx hb dX12_findWays_78 (by decide) ?_
                  refine lv_iload_n hx hb dX12_findWays_79 rfl (lv_at hl 2 rfl) ?_
                  refine lv_imul hx hb dX12_findWays_80 ?_
                  refine lv_iadd hx hb dX12_findWays_81 ?_
                  refine lv_iconst (v := (nI 2)) hx hb dX12_findWays_82 (by decide) ?_
                  refine lv_iadd hx hb dX12_findWays_83 ?_
                  refine xh_iald C hw 1 5512 h sM_1 (x_lt hN rfl) dX12_findWays_84 (fun r84 h => ?_)
                  refine x_icmp_gt (tgt := 110) hx hb h dX12_findWays_85 (by decide) (fun h => ?_) (fun h => ?_)
                  · refine lv_aload_n hx hb dX12_findWays_110 rfl (lv_at hl 0 rfl) ?_
                    refine xh_getr C hw 0 32 sM_0 (x_lt hN rfl) rfl rfl rfl lk_RX12_62 dX12_findWays_111 ?_
                    refine lv_sipush (v := (nI 3001)) hx hb dX12_findWays_114 (by decide) ?_
                    refine lv_iload_n hx hb dX12_findWays_117 rfl (lv_at hl 2 rfl) ?_
                    refine lv_imul hx hb dX12_findWays_118 ?_
                    refine lv_iload hx hb dX12_findWays_119 (lv_at hl 3 rfl) ?_
                    refine lv_iadd hx hb dX12_findWays_121 ?_
                    refine lv_iload hx hb dX12_findWays_122 (lv_at hl 4 rfl) ?_
                    refine xh_iast C hw 18 27009 h sM_18 (x_lt hN rfl) dX12_findWays_124 (fun H locs M hw h => ?_)
                    refine lv_iinc (lv' := [(4, .int _), (0, .ref (q 0)), (1, .int _), (3, .int _), (5, .int _), (6, .int _)]) hx hb dX12_findWays_125 hl (k := 3) rfl (x_inc (show Int32.ofInt 1 = (nI 1) by decide) _) (by decide) rfl (fun ls hl => ?_)
                    refine lv_goto (tgt := 55) hx hb dX12_findWays_128 (by decide) ?_
                    exact ih55 _ _ _ _ _ _ _ hw (lv_sub hl [1, 2, 3, 0] rfl) h
                  · refine lv_iload hx hb dX12_findWays_88 (lv_at hl 4 rfl) ?_
                    refine lv_aload_n hx hb dX12_findWays_90 rfl (lv_at hl 0 rfl) ?_
                    refine lv_iload_n hx hb dX12_findWays_91 rfl (lv_at hl 2 rfl) ?_
                    refine lv_iload hx hb dX12_findWays_92 (lv_at hl 3 rfl) ?_
                    refine lv_iload hx hb dX12_findWays_94 (lv_at hl 5 rfl) ?_
                    refine xh_cVi C hw (rest := [_]) h (fun _ hz => c_X12_wayBy hq hz) ml_RX12_270 mv_X12_wayBy sM_0 (x_lt hN rfl) rfl ⟨rfl, rfl, by decide, by decide⟩ rfl hl.1 rfl (Nat.le_of_ble_eq_true rfl) dX12_findWays_96 (fun H locs r96 M hw h => ?_)
                    refine xh_cSi C hw (rest := []) h (fun _ hz => c_X12_less hq hz) ml_RX12_96 st_X12_less ⟨rfl, rfl, by decide, by decide⟩ rfl hl.1 rfl (Nat.le_of_ble_eq_true rfl) dX12_findWays_99 (fun H locs r99 M hw h => ?_)
                    refine lv_istore (lv' := [(5, .int _), (0, .ref (q 0)), (1, .int _), (3, .int _), (4, .int _), (6, .int _)]) hx hb dX12_findWays_102 hl (by decide) rfl (fun ls hl => ?_)
                    refine lv_iinc (lv' := [(6, .int _), (5, .int _), (0, .ref (q 0)), (1, .int _), (3, .int _), (4, .int _)]) hx hb dX12_findWays_104 hl (k := 5) rfl (x_inc (show Int32.ofInt 1 = (nI 1) by decide) _) (by decide) rfl (fun ls hl => ?_)
                    refine lv_goto (tgt := 69) hx hb dX12_findWays_107 (by decide) ?_
                    exact ih69 _ _ _ _ _ _ _ _ _ hw (lv_sub hl [2, 3, 4, 5, 1, 0] rfl) h
              intro M v1 v3 v4 H locs ls hw hl h
              rw [f_X12_findWays_55_s] at h
              refine lv_iload hx hb dX12_findWays_55 (lv_at hl 3 rfl) ?_
              refine lv_iload_n hx hb dX12_findWays_57 rfl (lv_at hl 1 rfl) ?_
              refine x_icmp_gt (tgt := 131) hx hb h dX12_findWays_58 (by decide) (fun h => ?_) (fun h => ?_)
              · refine lv_iinc (lv' := [(3, .int _), (0, .ref (q 0)), (1, .int _), (4, .int _)]) hx hb dX12_findWays_131 hl (k := 2) rfl (x_inc (show Int32.ofInt (-1) = (-1) by decide) _) (by decide) rfl (fun ls hl => ?_)
                refine lv_goto (tgt := 48) hx hb dX12_findWays_134 (by decide) ?_
                exact ih48 _ _ _ _ _ _ hw (lv_sub hl [1, 2, 0] rfl) h
              · refine lv_ldcw hx hb ho (hL _ kc_RX12_269) dX12_findWays_61 ?_
                refine lv_istore (lv' := [(5, .int _), (0, .ref (q 0)), (1, .int _), (3, .int _), (4, .int _)]) hx hb dX12_findWays_64 hl (by decide) rfl (fun ls hl => ?_)
                refine lv_iconst (v := (nI 0)) hx hb dX12_findWays_66 (by decide) ?_
                refine lv_istore (lv' := [(6, .int _), (5, .int _), (0, .ref (q 0)), (1, .int _), (3, .int _), (4, .int _)]) hx hb dX12_findWays_67 hl (by decide) rfl (fun ls hl => ?_)
                exact w69 _ _ _ _ _ _ _ _ _ _ hw (lv_sub hl [2, 3, 4, 5, 1, 0] rfl) h
          intro M v1 v3 H locs ls hw hl h
          rw [f_X12_findWays_48_s] at h
          refine lv_iload_n hx hb dX12_findWays_48 rfl (lv_at hl 2 rfl) ?_
          refine x_if_lt (tgt := 137) hx hb h dX12_findWays_49 (by decide) (fun h => ?_) (fun h => ?_)
          · exact hret dX12_findWays_137 hw h
          · refine lv_iconst (v := (nI 0)) hx hb dX12_findWays_52 (by decide) ?_
            refine lv_istore (lv' := [(4, .int _), (0, .ref (q 0)), (1, .int _), (3, .int _)]) hx hb dX12_findWays_53 hl (by decide) rfl (fun ls hl => ?_)
            exact w55 _ _ _ _ _ _ _ _ hw (lv_sub hl [1, 2, 3, 0] rfl) h
      intro M v1 v2 v3 H locs ls hw hl h
      rw [f_X12_findWays_10_s] at h
      refine lv_iload_n hx hb dX12_findWays_10 rfl (lv_at hl 3 rfl) ?_
      refine lv_iload_n hx hb dX12_findWays_11 rfl (lv_at hl 1 rfl) ?_
      refine x_icmp_gt (tgt := 44) hx hb h dX12_findWays_12 (by decide) (fun h => ?_) (fun h => ?_)
      · refine lv_iload_n hx hb dX12_findWays_44 rfl (lv_at hl 2 rfl) ?_
        refine lv_iconst (v := (nI 1)) hx hb dX12_findWays_45 (by decide) ?_
        refine lv_isub hx hb dX12_findWays_46 ?_
        refine lv_istore_n (lv' := [(3, .int _), (0, .ref (q 0)), (1, .int _), (2, .int _)]) hx hb dX12_findWays_47 rfl hl (by decide) rfl (fun ls hl => ?_)
        exact w48 _ _ _ _ _ _ _ hw (lv_sub hl [1, 2, 0] rfl) h
      · refine lv_aload_n hx hb dX12_findWays_15 rfl (lv_at hl 0 rfl) ?_
        refine xh_getr C hw 0 32 sM_0 (x_lt hN rfl) rfl rfl rfl lk_RX12_62 dX12_findWays_16 ?_
        refine lv_sipush (v := (nI 3001)) hx hb dX12_findWays_19 (by decide) ?_
        refine lv_iload_n hx hb dX12_findWays_22 rfl (lv_at hl 2 rfl) ?_
        refine lv_imul hx hb dX12_findWays_23 ?_
        refine lv_iload_n hx hb dX12_findWays_24 rfl (lv_at hl 3 rfl) ?_
        refine lv_iadd hx hb dX12_findWays_25 ?_
        refine lv_iload_n hx hb dX12_findWays_26 rfl (lv_at hl 3 rfl) ?_
        refine x_if_ne (tgt := 34) hx hb h dX12_findWays_27 (by decide) (fun h => ?_) (fun h => ?_)
        · refine lv_iconst (v := (nI 0)) hx hb dX12_findWays_30 (by decide) ?_
          refine lv_goto (tgt := 37) hx hb dX12_findWays_31 (by decide) ?_
          exact w37 _ _ _ _ _ _ _ _ _ hw (lv_sub hl [0, 1, 2, 3] rfl) h
        · refine lv_ldcw hx hb ho (hL _ kc_RX12_269) dX12_findWays_34 ?_
          exact w37 _ _ _ _ _ _ _ _ _ hw (lv_sub hl [0, 1, 2, 3] rfl) h
  unfold f_X12_findWays at h
  refine lv_aload_n hx hb dX12_findWays_0 rfl (lv_at hl 0 rfl) ?_
  refine xh_getr C hw 0 0 sM_0 (x_lt hN rfl) rfl rfl rfl lk_RX12_7 dX12_findWays_1 ?_
  refine lv_bipush (v := (nI 9)) hx hb dX12_findWays_4 (by decide) ?_
  refine xh_iald C hw 1 5512 h sM_1 (x_lt hN rfl) dX12_findWays_6 (fun r6 h => ?_)
  refine lv_istore_n (lv' := [(2, .int _), (0, .ref (q 0)), (1, .int _)]) hx hb dX12_findWays_7 rfl hl (by decide) rfl (fun ls hl => ?_)
  refine lv_iconst (v := (nI 0)) hx hb dX12_findWays_8 (by decide) ?_
  refine lv_istore_n (lv' := [(3, .int _), (2, .int _), (0, .ref (q 0)), (1, .int _)]) hx hb dX12_findWays_9 rfl hl (by decide) rfl (fun ls hl => ?_)
  exact w10 _ _ _ _ _ _ _ _ hw (lv_sub hl [2, 3, 1, 0] rfl) h
def f_X12_findWay_53 (k17 : x_M → Int32 → Int32 → Int32 → Option (Int32 × x_M)) : Nat → x_M → Int32 → Int32 → Int32 → Int32 → Option (Int32 × x_M)
  | 0, _, _, _, _, _ => none
  | n + 1, M, v2, v3, v4, v5 => x_bn (f_X12_wayBy M v4 v3 v5) (fun r59 M => x_rd 27009 (M 18) (((nI 3001) * v4) + v3) (fun r74 => if r59 = r74 then x_wr 8 M 19 v4 v5 (fun M => x_rd 5512 (M 1) (((nI 5488) + ((nI 3) * v4)) + (nI 1)) (fun r111 => x_bn (f_X12_more M (nI 0) (v3 - (v5 * r111))) (fun r114 M => k17 M v2 r114 (v4 + (nI 1))))) else (f_X12_findWay_53 k17 n) M v2 v3 v4 (v5 + (-1))))
theorem f_X12_findWay_53_0 (k17 : x_M → Int32 → Int32 → Int32 → Option (Int32 × x_M)) (M : x_M) (v2 : Int32) (v3 : Int32) (v4 : Int32) (v5 : Int32) : f_X12_findWay_53 k17 0 M v2 v3 v4 v5 = none := rfl
theorem f_X12_findWay_53_s (k17 : x_M → Int32 → Int32 → Int32 → Option (Int32 × x_M)) (n : Nat) (M : x_M) (v2 : Int32) (v3 : Int32) (v4 : Int32) (v5 : Int32) : f_X12_findWay_53 k17 (n + 1) M v2 v3 v4 v5 = (x_bn (f_X12_wayBy M v4 v3 v5) (fun r59 M => x_rd 27009 (M 18) (((nI 3001) * v4) + v3) (fun r74 => if r59 = r74 then x_wr 8 M 19 v4 v5 (fun M => x_rd 5512 (M 1) (((nI 5488) + ((nI 3) * v4)) + (nI 1)) (fun r111 => x_bn (f_X12_more M (nI 0) (v3 - (v5 * r111))) (fun r114 M => k17 M v2 r114 (v4 + (nI 1))))) else (f_X12_findWay_53 k17 n) M v2 v3 v4 (v5 + (-1))))) := rfl
def f_X12_findWay_124 (M : x_M) (v2 : Int32) : Option (Int32 × x_M) := some (v2, M)
def f_X12_findWay_17 : Nat → x_M → Int32 → Int32 → Int32 → Option (Int32 × x_M)
  | 0, _, _, _, _ => none
  | n + 1, M, v2, v3, v4 => x_rd 5512 (M 1) (nI 9) (fun r25 => if r25 ≤ v4 then f_X12_findWay_124 M v2 else if v2 = (nI 1000000000) then f_X12_findWay_124 M v2 else x_rd 5512 (M 1) (((nI 5488) + ((nI 3) * v4)) + (nI 2)) (fun r50 => f_X12_findWay_53 (f_X12_findWay_17 n) x_FU M v2 v3 v4 r50))
theorem f_X12_findWay_17_0 (M : x_M) (v2 : Int32) (v3 : Int32) (v4 : Int32) : f_X12_findWay_17 0 M v2 v3 v4 = none := rfl
theorem f_X12_findWay_17_s (n : Nat) (M : x_M) (v2 : Int32) (v3 : Int32) (v4 : Int32) : f_X12_findWay_17 (n + 1) M v2 v3 v4 = (x_rd 5512 (M 1) (nI 9) (fun r25 => if r25 ≤ v4 then f_X12_findWay_124 M v2 else if v2 = (nI 1000000000) then f_X12_findWay_124 M v2 else x_rd 5512 (M 1) (((nI 5488) + ((nI 3) * v4)) + (nI 2)) (fun r50 => f_X12_findWay_53 (f_X12_findWay_17 n) x_FU M v2 v3 v4 r50))) := rfl
def f_X12_findWay (M : x_M) (a1 : Int32) : Option (Int32 × x_M) := x_bn (f_X12_findWays M a1) (fun _ M => x_rd 27009 (M 18) a1 (fun r10 => f_X12_findWay_17 x_FU M r10 a1 (nI 0)))
abbrev rm_X12_findWay : Room := { frames := 3, cells := 0, slots := 0, locals := 72 }
set_option maxHeartbeats 4000000 in
set_option maxRecDepth 100000 in
theorem c_X12_findWay {l : Launch} {D : va_G} {cy : Nat → ClassId} {q ad : Nat → Nat} {s0 : State} (hq : x_Q q 24 s0.heap.size) {M : x_M} {a1 : Int32} {z : Int32 × x_M} (h : f_X12_findWay M a1 = some z) : x_Ci l D cy q ad x_spM 24 s0 yX12_findWay (x_uw yX12_findWay cX12_findWay 6 (some .int)) rm_X12_findWay [.ref (q 0), .int a1] M z.1 z.2 := by
  have hN : 24 ≤ 24 := Nat.le_refl _
  refine x_meti hq (by decide) (Nat.le_of_ble_eq_true rfl) ?_
  intro p e s m args below meth c ls Q C hret hl hw
  have hx := C.1.1
  have hb := C.1.2.1
  have ho := C.1.2.2.2.1
  have hL := C.1.2.2.2.2
  have hl : lv_has ls 6 [(0, .ref (q 0)), (1, .int a1)] := hl
  have w17 : ∀ (n : Nat) (M : x_M) (v2 : Int32) (v3 : Int32) (v4 : Int32) (H : Heap) (locs : List Loc) (ls : Array Slot), x_B D cy q ad x_spM 24 s H locs M → lv_has ls 6 [(0, .ref (q 0)), (2, .int v2), (3, .int v3), (4, .int v4)] → f_X12_findWay_17 n M v2 v3 v4 = some z → W p l e rm_X12_findWay s m args below meth c H locs 0 0 Q (F0 m 17 ls []) := by
    intro n
    induction n with
    | zero =>
      intro M v2 v3 v4 H locs ls hw hl h
      rw [f_X12_findWay_17_0] at h
      cases h
    | succ n17 ih17 =>
      have w53 : ∀ (n : Nat) (M : x_M) (v2 : Int32) (v3 : Int32) (v4 : Int32) (v5 : Int32) (H : Heap) (locs : List Loc) (ls : Array Slot), x_B D cy q ad x_spM 24 s H locs M → lv_has ls 6 [(0, .ref (q 0)), (2, .int v2), (3, .int v3), (4, .int v4), (5, .int v5)] → f_X12_findWay_53 (f_X12_findWay_17 n17) n M v2 v3 v4 v5 = some z → W p l e rm_X12_findWay s m args below meth c H locs 0 0 Q (F0 m 53 ls []) := by
        intro n
        induction n with
        | zero =>
          intro M v2 v3 v4 v5 H locs ls hw hl h
          rw [f_X12_findWay_53_0] at h
          cases h
        | succ n53 ih53 =>
          intro M v2 v3 v4 v5 H locs ls hw hl h
          rw [f_X12_findWay_53_s] at h
          refine lv_aload_n hx hb dX12_findWay_53 rfl (lv_at hl 0 rfl) ?_
          refine lv_iload hx hb dX12_findWay_54 (lv_at hl 3 rfl) ?_
          refine lv_iload_n hx hb dX12_findWay_56 rfl (lv_at hl 2 rfl) ?_
          refine lv_iload hx hb dX12_findWay_57 (lv_at hl 4 rfl) ?_
          refine xh_cVi C hw (rest := []) h (fun _ hz => c_X12_wayBy hq hz) ml_RX12_270 mv_X12_wayBy sM_0 (x_lt hN rfl) rfl ⟨rfl, rfl, by decide, by decide⟩ rfl hl.1 rfl (Nat.le_of_ble_eq_true rfl) dX12_findWay_59 (fun H locs r59 M hw h => ?_)
          refine lv_aload_n hx hb dX12_findWay_62 rfl (lv_at hl 0 rfl) ?_
          refine xh_getr C hw 0 32 sM_0 (x_lt hN rfl) rfl rfl rfl lk_RX12_62 dX12_findWay_63 ?_
          refine lv_sipush (v := (nI 3001)) hx hb dX12_findWay_66 (by decide) ?_
          refine lv_iload hx hb dX12_findWay_69 (lv_at hl 3 rfl) ?_
          refine lv_imul hx hb dX12_findWay_71 ?_
          refine lv_iload_n hx hb dX12_findWay_72 rfl (lv_at hl 2 rfl) ?_
          refine lv_iadd hx hb dX12_findWay_73 ?_
          refine xh_iald C hw 18 27009 h sM_18 (x_lt hN rfl) dX12_findWay_74 (fun r74 h => ?_)
          refine x_icmp_eq (tgt := 84) hx hb h dX12_findWay_75 (by decide) (fun h => ?_) (fun h => ?_)
          · refine lv_aload_n hx hb dX12_findWay_84 rfl (lv_at hl 0 rfl) ?_
            refine xh_getr C hw 0 33 sM_0 (x_lt hN rfl) rfl rfl rfl lk_RX12_65 dX12_findWay_85 ?_
            refine lv_iload hx hb dX12_findWay_88 (lv_at hl 3 rfl) ?_
            refine lv_iload hx hb dX12_findWay_90 (lv_at hl 4 rfl) ?_
            refine xh_iast C hw 19 8 h sM_19 (x_lt hN rfl) dX12_findWay_92 (fun H locs M hw h => ?_)
            refine lv_iconst (v := (nI 0)) hx hb dX12_findWay_93 (by decide) ?_
            refine lv_iload_n hx hb dX12_findWay_94 rfl (lv_at hl 2 rfl) ?_
            refine lv_iload hx hb dX12_findWay_95 (lv_at hl 4 rfl) ?_
            refine lv_aload_n hx hb dX12_findWay_97 rfl (lv_at hl 0 rfl) ?_
            refine xh_getr C hw 0 0 sM_0 (x_lt hN rfl) rfl rfl rfl lk_RX12_7 dX12_findWay_98 ?_
            refine lv_sipush (v := (nI 5488)) hx hb dX12_findWay_101 (by decide) ?_
            refine lv_iconst (v := (nI 3)) hx hb dX12_findWay_104 (by decide) ?_
            refine lv_iload hx hb dX12_findWay_105 (lv_at hl 3 rfl) ?_
            refine lv_imul hx hb dX12_findWay_107 ?_
            refine lv_iadd hx hb dX12_findWay_108 ?_
            refine lv_iconst (v := (nI 1)) hx hb dX12_findWay_109 (by decide) ?_
            refine lv_iadd hx hb dX12_findWay_110 ?_
            refine xh_iald C hw 1 5512 h sM_1 (x_lt hN rfl) dX12_findWay_111 (fun r111 h => ?_)
            refine lv_imul hx hb dX12_findWay_112 ?_
            refine lv_isub hx hb dX12_findWay_113 ?_
            refine xh_cSi C hw (rest := []) h (fun _ hz => c_X12_more hq hz) ml_RX12_209 st_X12_more ⟨rfl, rfl, by decide, by decide⟩ rfl hl.1 rfl (Nat.le_of_ble_eq_true rfl) dX12_findWay_114 (fun H locs r114 M hw h => ?_)
            refine lv_istore_n (lv' := [(3, .int _), (0, .ref (q 0)), (2, .int _), (4, .int _), (5, .int _)]) hx hb dX12_findWay_117 rfl hl (by decide) rfl (fun ls hl => ?_)
            refine lv_iinc (lv' := [(4, .int _), (3, .int _), (0, .ref (q 0)), (2, .int _), (5, .int _)]) hx hb dX12_findWay_118 hl (k := 3) rfl (x_inc (show Int32.ofInt 1 = (nI 1) by decide) _) (by decide) rfl (fun ls hl => ?_)
            refine lv_goto (tgt := 17) hx hb dX12_findWay_121 (by decide) ?_
            exact ih17 _ _ _ _ _ _ _ hw (lv_sub hl [2, 3, 1, 0] rfl) h
          · refine lv_iinc (lv' := [(5, .int _), (0, .ref (q 0)), (2, .int _), (3, .int _), (4, .int _)]) hx hb dX12_findWay_78 hl (k := 4) rfl (x_inc (show Int32.ofInt (-1) = (-1) by decide) _) (by decide) rfl (fun ls hl => ?_)
            refine lv_goto (tgt := 53) hx hb dX12_findWay_81 (by decide) ?_
            exact ih53 _ _ _ _ _ _ _ _ hw (lv_sub hl [1, 2, 3, 4, 0] rfl) h
      have w124 : ∀ (M : x_M) (v2 : Int32) (H : Heap) (locs : List Loc) (ls : Array Slot), x_B D cy q ad x_spM 24 s H locs M → lv_has ls 6 [(2, .int v2)] → f_X12_findWay_124 M v2 = some z → W p l e rm_X12_findWay s m args below meth c H locs 0 0 Q (F0 m 124 ls []) := by
        intro M v2 H locs ls hw hl h
        unfold f_X12_findWay_124 at h
        refine lv_iload_n hx hb dX12_findWay_124 rfl (lv_at hl 0 rfl) ?_
        exact hret dX12_findWay_125 rfl hw h
      intro M v2 v3 v4 H locs ls hw hl h
      rw [f_X12_findWay_17_s] at h
      refine lv_iload hx hb dX12_findWay_17 (lv_at hl 3 rfl) ?_
      refine lv_aload_n hx hb dX12_findWay_19 rfl (lv_at hl 0 rfl) ?_
      refine xh_getr C hw 0 0 sM_0 (x_lt hN rfl) rfl rfl rfl lk_RX12_7 dX12_findWay_20 ?_
      refine lv_bipush (v := (nI 9)) hx hb dX12_findWay_23 (by decide) ?_
      refine xh_iald C hw 1 5512 h sM_1 (x_lt hN rfl) dX12_findWay_25 (fun r25 h => ?_)
      refine x_icmp_ge (tgt := 124) hx hb h dX12_findWay_26 (by decide) (fun h => ?_) (fun h => ?_)
      · exact w124 _ _ _ _ _ hw (lv_sub hl [1] rfl) h
      · refine lv_iload_n hx hb dX12_findWay_29 rfl (lv_at hl 1 rfl) ?_
        refine lv_ldcw hx hb ho (hL _ kc_RX12_269) dX12_findWay_30 ?_
        refine x_icmp_eq (tgt := 124) hx hb h dX12_findWay_33 (by decide) (fun h => ?_) (fun h => ?_)
        · exact w124 _ _ _ _ _ hw (lv_sub hl [1] rfl) h
        · refine lv_aload_n hx hb dX12_findWay_36 rfl (lv_at hl 0 rfl) ?_
          refine xh_getr C hw 0 0 sM_0 (x_lt hN rfl) rfl rfl rfl lk_RX12_7 dX12_findWay_37 ?_
          refine lv_sipush (v := (nI 5488)) hx hb dX12_findWay_40 (by decide) ?_
          refine lv_iconst (v := (nI 3)) hx hb dX12_findWay_43 (by decide) ?_
          refine lv_iload hx hb dX12_findWay_44 (lv_at hl 3 rfl) ?_
          refine lv_imul hx hb dX12_findWay_46 ?_
          refine lv_iadd hx hb dX12_findWay_47 ?_
          refine lv_iconst (v := (nI 2)) hx hb dX12_findWay_48 (by decide) ?_
          refine lv_iadd hx hb dX12_findWay_49 ?_
          refine xh_iald C hw 1 5512 h sM_1 (x_lt hN rfl) dX12_findWay_50 (fun r50 h => ?_)
          refine lv_istore (lv' := [(5, .int _), (0, .ref (q 0)), (2, .int _), (3, .int _), (4, .int _)]) hx hb dX12_findWay_51 hl (by decide) rfl (fun ls hl => ?_)
          exact w53 _ _ _ _ _ _ _ _ _ hw (lv_sub hl [1, 2, 3, 4, 0] rfl) h
  unfold f_X12_findWay at h
  refine lv_aload_n hx hb dX12_findWay_0 rfl (lv_at hl 0 rfl) ?_
  refine lv_iload_n hx hb dX12_findWay_1 rfl (lv_at hl 1 rfl) ?_
  refine xh_cVv C hw (rest := []) h (fun _ hz => c_X12_findWays hq hz) ml_RX12_273 mv_X12_findWays sM_0 (x_lt hN rfl) rfl ⟨rfl, rfl, by decide, by decide⟩ rfl hl.1 rfl (Nat.le_of_ble_eq_true rfl) dX12_findWay_2 (fun H locs _ M hw h => ?_)
  refine lv_aload_n hx hb dX12_findWay_5 rfl (lv_at hl 0 rfl) ?_
  refine xh_getr C hw 0 32 sM_0 (x_lt hN rfl) rfl rfl rfl lk_RX12_62 dX12_findWay_6 ?_
  refine lv_iload_n hx hb dX12_findWay_9 rfl (lv_at hl 1 rfl) ?_
  refine xh_iald C hw 18 27009 h sM_18 (x_lt hN rfl) dX12_findWay_10 (fun r10 h => ?_)
  refine lv_istore_n (lv' := [(2, .int _), (0, .ref (q 0)), (1, .int _)]) hx hb dX12_findWay_11 rfl hl (by decide) rfl (fun ls hl => ?_)
  refine lv_iload_n hx hb dX12_findWay_12 rfl (lv_at hl 2 rfl) ?_
  refine lv_istore_n (lv' := [(3, .int _), (2, .int _), (0, .ref (q 0)), (1, .int _)]) hx hb dX12_findWay_13 rfl hl (by decide) rfl (fun ls hl => ?_)
  refine lv_iconst (v := (nI 0)) hx hb dX12_findWay_14 (by decide) ?_
  refine lv_istore (lv' := [(4, .int _), (3, .int _), (2, .int _), (0, .ref (q 0)), (1, .int _)]) hx hb dX12_findWay_15 hl (by decide) rfl (fun ls hl => ?_)
  exact w17 _ _ _ _ _ _ _ _ hw (lv_sub hl [3, 2, 1, 0] rfl) h
