/-! AreaSetterModel.partEnd(III)I -/
def wX12_partEnd (M : sy_M) (a1 : Int32) (a2 : Int32) (a3 : Int32) (Q : Int32 → sy_M → Prop) : Prop := ((¬ (a2 + (1 : Int32)) = a3 → ∃ n2 : Nat, n2 < 9 ∧ (a2 + (1 : Int32)) = nI n2 ∧ Q (M 22 n2) M) ∧ ((a2 + (1 : Int32)) = a3 → Q a1 M))
section
variable {p : Program} {l : Launch} {e : Env} {s : State} {m : MethodId} {args : Array Value} {below : List Frame} {meth : Method} {c : Code} {Y : sy_Y}
end
set_option maxHeartbeats 4000000 in
set_option maxRecDepth 100000 in
theorem mX12_partEnd (l : Launch) (Y : sy_Y) (sz : Nat) (M : sy_M) (a1 : Int32) (a2 : Int32) (a3 : Int32) (Q : Int32 → sy_M → Prop) (hq : wX12_partEnd M a1 a2 a3 Q) : Met l yX12_partEnd vsX12_partEnd ({ frames := 0, cells := 0, slots := 0, locals := 0 } : Room) (va_Pc [.ref (Y.2.1 0), .int a1, .int a2, .int a3] (sy_pre Y NZ EZ tfZ sz M)) (sy_QI Y NZ EZ sz Q) 0 0 (sy_A NZ Y.2.1 sz) := by
  refine sy_metI (by decide) rfl (Nat.le_of_ble_eq_true rfl) ?_
  intro p e s m args below meth c C ls hl hh
  have hx := C.1.1
  have hb := C.1.2.1
  have hl : lv_has ls 4 [(0, .ref (Y.2.1 0)), (1, .int a1), (2, .int a2), (3, .int a3)] := hl
  unfold wX12_partEnd at hq
  refine lv_iload_n hx hb dX12_partEnd_0 rfl (lv_at hl 2 rfl) ?_
  refine lv_iconst (v := (1 : Int32)) hx hb dX12_partEnd_1 (by decide) ?_
  refine lv_iadd hx hb dX12_partEnd_2 ?_
  refine lv_iload_n hx hb dX12_partEnd_3 rfl (lv_at hl 3 rfl) ?_
  refine lv_icmp_ne (tgt := 11) hx hb dX12_partEnd_4 (by decide) (fun c1 => ?_) (fun c1 => ?_)
  · have hq := hq.1 c1
    refine lv_aload_n hx hb dX12_partEnd_11 rfl (lv_at hl 0 rfl) ?_
    refine sy_get C hh (fun w h => mc (uZ_fX12 w h)) 0 (by decide) (oZ_0 Y) rfl 37 (by decide) (index := 88) (mc uZ_33) (v := .ref (Y.2.1 22)) rfl dX12_partEnd_12 ?_
    refine lv_iload_n hx hb dX12_partEnd_15 rfl (lv_at hl 2 rfl) ?_
    refine lv_iconst (v := (1 : Int32)) hx hb dX12_partEnd_16 (by decide) ?_
    refine lv_iadd hx hb dX12_partEnd_17 ?_
    obtain ⟨n2, hn2, en2, hq⟩ := hq
    refine sy_iald C hh 22 (by decide) (aZ_22 Y) tZ_22 hn2 en2 (by decide) dX12_partEnd_18 ?_
    exact sy_iret C hh dX12_partEnd_19 hq
  · have hq := hq.2 c1
    refine lv_iload_n hx hb dX12_partEnd_7 rfl (lv_at hl 1 rfl) ?_
    refine lv_goto (tgt := 19) hx hb dX12_partEnd_8 (by decide) ?_
    exact sy_iret C hh dX12_partEnd_19 hq

/-! AreaSetterModel.laysNothing(II)V -/
def wX12_laysNothing_2 (Q : sy_M → Prop) : Nat → sy_M → Int32 → Int32 → Int32 → Prop
  | 0, _, _, _, _ => False
  | n + 1, M, x1, x2, x3 => (((M 0 30) ≤ x3 → Q M) ∧ (¬ (M 0 30) ≤ x3 → ∃ n2 : Nat, n2 < 9 ∧ x3 = nI n2 ∧ wX12_laysNothing_2 Q n (mu (mu (mu (mu M 18 n2 x1) 19 n2 x2) 20 n2 (0 : Int32)) 21 n2 (0 : Int32)) x1 x2 (x3 + (1 : Int32))))
def wX12_laysNothing (M : sy_M) (a1 : Int32) (a2 : Int32) (Q : sy_M → Prop) : Prop := ∃ n3 : Nat, wX12_laysNothing_2  Q n3 M a1 a2 (0 : Int32)
section
variable {p : Program} {l : Launch} {e : Env} {s : State} {m : MethodId} {args : Array Value} {below : List Frame} {meth : Method} {c : Code} {Y : sy_Y}
set_option maxHeartbeats 4000000 in
set_option maxRecDepth 100000 in
theorem kX12_laysNothing_2 (C : sy_C p m c cX12_laysNothing 4 s args vsX12_laysNothing RX12 meth none Y NZ tfZ) {Q : sy_M → Prop} :
    ∀ (n : Nat) (M : sy_M) (x1 : Int32) (x2 : Int32) (x3 : Int32) (H : Heap) (locs : List Loc) (ls : Array Slot), wX12_laysNothing_2 Q n M x1 x2 x3 → sy_H Y NZ EZ s H locs M → lv_has ls 4 [(0, .ref (Y.2.1 0)), (1, .int x1), (2, .int x2), (3, .int x3)] → W p l e ({ frames := 0, cells := 0, slots := 0, locals := 0 } : Room) s m args below meth c H locs 0 0 (sy_ZV below args s Y NZ EZ Q) (F0 m 2 ls []) := by
  have hx := C.1.1
  have hb := C.1.2.1
  intro n
  induction n with
  | zero =>
    intro M x1 x2 x3 H locs ls hq hh hl
    unfold wX12_laysNothing_2 at hq
    exact hq.elim
  | succ n ih =>
    intro M x1 x2 x3 H locs ls hq hh hl
    unfold wX12_laysNothing_2 at hq
    refine lv_iload_n hx hb dX12_laysNothing_2 rfl (lv_at hl 3 rfl) ?_
    refine lv_aload_n hx hb dX12_laysNothing_3 rfl (lv_at hl 0 rfl) ?_
    refine sy_get C hh (fun w h => mc (uZ_fX12 w h)) 0 (by decide) (oZ_0 Y) rfl 30 (by decide) (index := 261) (mc uZ_195) (v := .int (M 0 30)) rfl dX12_laysNothing_4 ?_
    refine lv_icmp_ge (tgt := 44) hx hb dX12_laysNothing_7 (by decide) (fun c1 => ?_) (fun c1 => ?_)
    · have hq := hq.1 c1
      exact sy_vret C hh dX12_laysNothing_44 hq
    · have hq := hq.2 c1
      refine lv_aload_n hx hb dX12_laysNothing_10 rfl (lv_at hl 0 rfl) ?_
      refine sy_get C hh (fun w h => mc (uZ_fX12 w h)) 0 (by decide) (oZ_0 Y) rfl 33 (by decide) (index := 76) (mc uZ_29) (v := .ref (Y.2.1 18)) rfl dX12_laysNothing_11 ?_
      refine lv_iload_n hx hb dX12_laysNothing_14 rfl (lv_at hl 3 rfl) ?_
      refine lv_iload_n hx hb dX12_laysNothing_15 rfl (lv_at hl 1 rfl) ?_
      obtain ⟨n2, hn2, en2, hq⟩ := hq
      refine sy_iast C hh 18 (by decide) (aZ_18 Y) tZ_18 hn2 en2 (by decide) dX12_laysNothing_16 (fun H locs hh => ?_)
      refine lv_aload_n hx hb dX12_laysNothing_17 rfl (lv_at hl 0 rfl) ?_
      refine sy_get C hh (fun w h => mc (uZ_fX12 w h)) 0 (by decide) (oZ_0 Y) rfl 34 (by decide) (index := 79) (mc uZ_30) (v := .ref (Y.2.1 19)) rfl dX12_laysNothing_18 ?_
      refine lv_iload_n hx hb dX12_laysNothing_21 rfl (lv_at hl 3 rfl) ?_
      refine lv_iload_n hx hb dX12_laysNothing_22 rfl (lv_at hl 2 rfl) ?_
      refine sy_iast C hh 19 (by decide) (aZ_19 Y) tZ_19 hn2 en2 (by decide) dX12_laysNothing_23 (fun H locs hh => ?_)
      refine lv_aload_n hx hb dX12_laysNothing_24 rfl (lv_at hl 0 rfl) ?_
      refine sy_get C hh (fun w h => mc (uZ_fX12 w h)) 0 (by decide) (oZ_0 Y) rfl 35 (by decide) (index := 82) (mc uZ_31) (v := .ref (Y.2.1 20)) rfl dX12_laysNothing_25 ?_
      refine lv_iload_n hx hb dX12_laysNothing_28 rfl (lv_at hl 3 rfl) ?_
      refine lv_iconst (v := (0 : Int32)) hx hb dX12_laysNothing_29 (by decide) ?_
      refine sy_iast C hh 20 (by decide) (aZ_20 Y) tZ_20 hn2 en2 (by decide) dX12_laysNothing_30 (fun H locs hh => ?_)
      refine lv_aload_n hx hb dX12_laysNothing_31 rfl (lv_at hl 0 rfl) ?_
      refine sy_get C hh (fun w h => mc (uZ_fX12 w h)) 0 (by decide) (oZ_0 Y) rfl 36 (by decide) (index := 85) (mc uZ_32) (v := .ref (Y.2.1 21)) rfl dX12_laysNothing_32 ?_
      refine lv_iload_n hx hb dX12_laysNothing_35 rfl (lv_at hl 3 rfl) ?_
      refine lv_iconst (v := (0 : Int32)) hx hb dX12_laysNothing_36 (by decide) ?_
      refine sy_iast C hh 21 (by decide) (aZ_21 Y) tZ_21 hn2 en2 (by decide) dX12_laysNothing_37 (fun H locs hh => ?_)
      refine lv_iinc (v := (x3 + (1 : Int32))) (lv' := [(3, .int (x3 + (1 : Int32))), (0, .ref (Y.2.1 0)), (1, .int x1), (2, .int x2)]) hx hb dX12_laysNothing_38 hl (k := 3) rfl (sy_inc (by decide)) (by decide) rfl (fun ls hl => ?_)
      refine lv_goto (tgt := 2) hx hb dX12_laysNothing_41 (by decide) ?_
      exact ih (mu (mu (mu (mu M 18 n2 x1) 19 n2 x2) 20 n2 (0 : Int32)) 21 n2 (0 : Int32)) x1 x2 (x3 + (1 : Int32)) _ _ _ hq hh (lv_sub hl [1, 2, 3, 0] rfl)

end
set_option maxHeartbeats 4000000 in
set_option maxRecDepth 100000 in
theorem mX12_laysNothing (l : Launch) (Y : sy_Y) (sz : Nat) (M : sy_M) (a1 : Int32) (a2 : Int32) (Q : sy_M → Prop) (hq : wX12_laysNothing M a1 a2 Q) : Met l yX12_laysNothing vsX12_laysNothing ({ frames := 0, cells := 0, slots := 0, locals := 0 } : Room) (va_Pc [.ref (Y.2.1 0), .int a1, .int a2] (sy_pre Y NZ EZ tfZ sz M)) (sy_QV Y NZ EZ sz Q) 0 0 (sy_A NZ Y.2.1 sz) := by
  refine sy_metV (by decide) rfl (Nat.le_of_ble_eq_true rfl) ?_
  intro p e s m args below meth c C ls hl hh
  have hx := C.1.1
  have hb := C.1.2.1
  have hl : lv_has ls 4 [(0, .ref (Y.2.1 0)), (1, .int a1), (2, .int a2)] := hl
  unfold wX12_laysNothing at hq
  refine lv_iconst (v := (0 : Int32)) hx hb dX12_laysNothing_0 (by decide) ?_
  refine lv_istore_n (lv' := [(3, .int (0 : Int32)), (0, .ref (Y.2.1 0)), (1, .int a1), (2, .int a2)]) hx hb dX12_laysNothing_1 rfl hl (by decide) rfl (fun ls hl => ?_)
  obtain ⟨n3, hq⟩ := hq
  refine kX12_laysNothing_2 C  n3 M a1 a2 (0 : Int32) _ _ _ hq hh (lv_sub hl [1, 2, 3, 0] rfl)

/-! AreaSetterModel.laysSlice(IIII)V -/
def wX12_laysSlice_138 (K_40 : sy_M → Int32 → Int32 → Int32 → Int32 → Int32 → Int32 → Int32 → Prop) (Q : sy_M → Prop) (M : sy_M) (x1 : Int32) (x2 : Int32) (x3 : Int32) (x4 : Int32) (x5 : Int32) (x6 : Int32) (x7 : Int32) (x8 : Int32) (s1 : Int32) (s2 : Int32) : Prop := ∃ n14 : Nat, n14 < 9 ∧ s1 = nI n14 ∧ ((x5 = 0 → ∃ n16 : Nat, n16 < 9 ∧ x7 = nI n16 ∧ K_40 (mu (mu M 20 n14 s2) 21 n16 x8) x1 x2 x3 x4 x5 x6 (x7 + (1 : Int32))) ∧ (¬ x5 = 0 → ∃ n17 : Nat, n17 < 9 ∧ x7 = nI n17 ∧ K_40 (mu (mu M 20 n14 s2) 21 n17 x4) x1 x2 x3 x4 x5 x6 (x7 + (1 : Int32))))
def wX12_laysSlice_120 (K_40 : sy_M → Int32 → Int32 → Int32 → Int32 → Int32 → Int32 → Int32 → Prop) (Q : sy_M → Prop) (M : sy_M) (x1 : Int32) (x2 : Int32) (x3 : Int32) (x4 : Int32) (x5 : Int32) (x6 : Int32) (x7 : Int32) (x8 : Int32) (s1 : Int32) (s2 : Int32) : Prop := ∃ n12 : Nat, n12 < 9 ∧ s1 = nI n12 ∧ ((x5 = 0 → wX12_laysSlice_138 K_40 Q (mu M 19 n12 s2) x1 x2 x3 x4 x5 x6 x7 x8 x7 x3) ∧ (¬ x5 = 0 → wX12_laysSlice_138 K_40 Q (mu M 19 n12 s2) x1 x2 x3 x4 x5 x6 x7 x8 x7 x8))
def wX12_laysSlice_95 (K_40 : sy_M → Int32 → Int32 → Int32 → Int32 → Int32 → Int32 → Int32 → Prop) (Q : sy_M → Prop) (M : sy_M) (x1 : Int32) (x2 : Int32) (x3 : Int32) (x4 : Int32) (x5 : Int32) (x6 : Int32) (x7 : Int32) (x8 : Int32) (s1 : Int32) (s2 : Int32) : Prop := ∃ n9 : Nat, n9 < 9 ∧ s1 = nI n9 ∧ ((x5 = 0 → ∃ n11 : Nat, n11 < 9 ∧ x7 = nI n11 ∧ wX12_laysSlice_120 K_40 Q (mu M 18 n9 s2) x1 x2 x3 x4 x5 x6 x7 x8 x7 (x2 + (M 22 n11))) ∧ (¬ x5 = 0 → wX12_laysSlice_120 K_40 Q (mu M 18 n9 s2) x1 x2 x3 x4 x5 x6 x7 x8 x7 x2))
def wX12_laysSlice_40 (Q : sy_M → Prop) : Nat → sy_M → Int32 → Int32 → Int32 → Int32 → Int32 → Int32 → Int32 → Prop
  | 0, _, _, _, _, _, _, _, _ => False
  | n + 1, M, x1, x2, x3, x4, x5, x6, x7 => (((M 0 30) ≤ x7 → Q M) ∧ (¬ (M 0 30) ≤ x7 → wX12_partEnd M x6 x7 (M 0 30) (fun r6 M5 => ∃ n7 : Nat, n7 < 9 ∧ x7 = nI n7 ∧ ((x5 = 0 → wX12_laysSlice_95 (fun (M18 : sy_M) (x1_19 : Int32) (x2_20 : Int32) (x3_21 : Int32) (x4_22 : Int32) (x5_23 : Int32) (x6_24 : Int32) (x7_25 : Int32) => wX12_laysSlice_40 Q n M18 x1_19 x2_20 x3_21 x4_22 x5_23 x6_24 x7_25) Q M5 x1 x2 x3 x4 x5 x6 x7 (r6 - (M5 22 n7)) x7 x1) ∧ (¬ x5 = 0 → wX12_laysSlice_95 (fun (M26 : sy_M) (x1_27 : Int32) (x2_28 : Int32) (x3_29 : Int32) (x4_30 : Int32) (x5_31 : Int32) (x6_32 : Int32) (x7_33 : Int32) => wX12_laysSlice_40 Q n M26 x1_27 x2_28 x3_29 x4_30 x5_31 x6_32 x7_33) Q M5 x1 x2 x3 x4 x5 x6 x7 (r6 - (M5 22 n7)) x7 (x1 + (M5 22 n7)))))))
def wX12_laysSlice_24 (Q : sy_M → Prop) (M : sy_M) (x1 : Int32) (x2 : Int32) (x3 : Int32) (x4 : Int32) (x5 : Int32) (s0 : Int32) : Prop := wX12_parts M s0 (0 : Int32) (M 0 30) (fun M3 => ∃ n34 : Nat, wX12_laysSlice_40  Q n34 M3 x1 x2 x3 x4 x5 s0 (0 : Int32))
def wX12_laysSlice_11 (Q : sy_M → Prop) (M : sy_M) (x1 : Int32) (x2 : Int32) (x3 : Int32) (x4 : Int32) (s0 : Int32) : Prop := ((s0 = 0 → wX12_laysSlice_24  Q M x1 x2 x3 x4 s0 x4) ∧ (¬ s0 = 0 → wX12_laysSlice_24  Q M x1 x2 x3 x4 s0 x3))
def wX12_laysSlice (M : sy_M) (a1 : Int32) (a2 : Int32) (a3 : Int32) (a4 : Int32) (Q : sy_M → Prop) : Prop := ((a3 < a4 → wX12_laysSlice_11  Q M a1 a2 a3 a4 (0 : Int32)) ∧ (¬ a3 < a4 → wX12_laysSlice_11  Q M a1 a2 a3 a4 (1 : Int32)))
section
variable {p : Program} {l : Launch} {e : Env} {s : State} {m : MethodId} {args : Array Value} {below : List Frame} {meth : Method} {c : Code} {Y : sy_Y}
set_option maxHeartbeats 4000000 in
set_option maxRecDepth 100000 in
theorem kX12_laysSlice_138 (C : sy_C p m c cX12_laysSlice 9 s args vsX12_laysSlice RX12 meth none Y NZ tfZ) {Q : sy_M → Prop} {K_40 : sy_M → Int32 → Int32 → Int32 → Int32 → Int32 → Int32 → Int32 → Prop} (hK_40 : ∀ (M : sy_M) (x1 : Int32) (x2 : Int32) (x3 : Int32) (x4 : Int32) (x5 : Int32) (x6 : Int32) (x7 : Int32) (H : Heap) (locs : List Loc) (ls : Array Slot), K_40 M x1 x2 x3 x4 x5 x6 x7 → sy_H Y NZ EZ s H locs M → lv_has ls 9 [(0, .ref (Y.2.1 0)), (1, .int x1), (2, .int x2), (3, .int x3), (4, .int x4), (5, .int x5), (6, .int x6), (7, .int x7)] → W p l e ({ frames := 2, cells := 0, slots := 0, locals := 47 } : Room) s m args below meth c H locs 0 0 (sy_ZV below args s Y NZ EZ Q) (F0 m 40 ls [])) :
    ∀ (M : sy_M) (x1 : Int32) (x2 : Int32) (x3 : Int32) (x4 : Int32) (x5 : Int32) (x6 : Int32) (x7 : Int32) (x8 : Int32) (s1 : Int32) (s2 : Int32) (H : Heap) (locs : List Loc) (ls : Array Slot), wX12_laysSlice_138 K_40 Q M x1 x2 x3 x4 x5 x6 x7 x8 s1 s2 → sy_H Y NZ EZ s H locs M → lv_has ls 9 [(0, .ref (Y.2.1 0)), (1, .int x1), (2, .int x2), (3, .int x3), (4, .int x4), (5, .int x5), (6, .int x6), (7, .int x7), (8, .int x8)] → W p l e ({ frames := 2, cells := 0, slots := 0, locals := 47 } : Room) s m args below meth c H locs 0 0 (sy_ZV below args s Y NZ EZ Q) (F0 m 138 ls [.int s2, .int s1, .ref (Y.2.1 20)]) := by
  have hx := C.1.1
  have hb := C.1.2.1
  intro M x1 x2 x3 x4 x5 x6 x7 x8 s1 s2 H locs ls hq hh hl
  unfold wX12_laysSlice_138 at hq
  obtain ⟨n14, hn14, en14, hq⟩ := hq
  refine sy_iast C hh 20 (by decide) (aZ_20 Y) tZ_20 hn14 en14 (by decide) dX12_laysSlice_138 (fun H locs hh => ?_)
  refine lv_aload_n hx hb dX12_laysSlice_139 rfl (lv_at hl 0 rfl) ?_
  refine sy_get C hh (fun w h => mc (uZ_fX12 w h)) 0 (by decide) (oZ_0 Y) rfl 36 (by decide) (index := 85) (mc uZ_32) (v := .ref (Y.2.1 21)) rfl dX12_laysSlice_140 ?_
  refine lv_iload hx hb dX12_laysSlice_143 (lv_at hl 7 rfl) ?_
  refine lv_iload hx hb dX12_laysSlice_145 (lv_at hl 5 rfl) ?_
  refine lv_if_eq (tgt := 155) hx hb dX12_laysSlice_147 (by decide) (fun c15 => ?_) (fun c15 => ?_)
  · have hq := hq.1 c15
    refine lv_iload hx hb dX12_laysSlice_155 (lv_at hl 8 rfl) ?_
    obtain ⟨n16, hn16, en16, hq⟩ := hq
    refine sy_iast C hh 21 (by decide) (aZ_21 Y) tZ_21 hn16 en16 (by decide) dX12_laysSlice_157 (fun H locs hh => ?_)
    refine lv_iinc (v := (x7 + (1 : Int32))) (lv' := [(7, .int (x7 + (1 : Int32))), (0, .ref (Y.2.1 0)), (1, .int x1), (2, .int x2), (3, .int x3), (4, .int x4), (5, .int x5), (6, .int x6), (8, .int x8)]) hx hb dX12_laysSlice_158 hl (k := 7) rfl (sy_inc (by decide)) (by decide) rfl (fun ls hl => ?_)
    refine lv_goto (tgt := 40) hx hb dX12_laysSlice_161 (by decide) ?_
    exact hK_40 (mu (mu M 20 n14 s2) 21 n16 x8) x1 x2 x3 x4 x5 x6 (x7 + (1 : Int32)) _ _ _ hq hh (lv_sub hl [1, 2, 3, 4, 5, 6, 7, 0] rfl)
  · have hq := hq.2 c15
    refine lv_iload hx hb dX12_laysSlice_150 (lv_at hl 4 rfl) ?_
    refine lv_goto (tgt := 157) hx hb dX12_laysSlice_152 (by decide) ?_
    obtain ⟨n17, hn17, en17, hq⟩ := hq
    refine sy_iast C hh 21 (by decide) (aZ_21 Y) tZ_21 hn17 en17 (by decide) dX12_laysSlice_157 (fun H locs hh => ?_)
    refine lv_iinc (v := (x7 + (1 : Int32))) (lv' := [(7, .int (x7 + (1 : Int32))), (0, .ref (Y.2.1 0)), (1, .int x1), (2, .int x2), (3, .int x3), (4, .int x4), (5, .int x5), (6, .int x6), (8, .int x8)]) hx hb dX12_laysSlice_158 hl (k := 7) rfl (sy_inc (by decide)) (by decide) rfl (fun ls hl => ?_)
    refine lv_goto (tgt := 40) hx hb dX12_laysSlice_161 (by decide) ?_
    exact hK_40 (mu (mu M 20 n14 s2) 21 n17 x4) x1 x2 x3 x4 x5 x6 (x7 + (1 : Int32)) _ _ _ hq hh (lv_sub hl [1, 2, 3, 4, 5, 6, 7, 0] rfl)

set_option maxHeartbeats 4000000 in
set_option maxRecDepth 100000 in
theorem kX12_laysSlice_120 (C : sy_C p m c cX12_laysSlice 9 s args vsX12_laysSlice RX12 meth none Y NZ tfZ) {Q : sy_M → Prop} {K_40 : sy_M → Int32 → Int32 → Int32 → Int32 → Int32 → Int32 → Int32 → Prop} (hK_40 : ∀ (M : sy_M) (x1 : Int32) (x2 : Int32) (x3 : Int32) (x4 : Int32) (x5 : Int32) (x6 : Int32) (x7 : Int32) (H : Heap) (locs : List Loc) (ls : Array Slot), K_40 M x1 x2 x3 x4 x5 x6 x7 → sy_H Y NZ EZ s H locs M → lv_has ls 9 [(0, .ref (Y.2.1 0)), (1, .int x1), (2, .int x2), (3, .int x3), (4, .int x4), (5, .int x5), (6, .int x6), (7, .int x7)] → W p l e ({ frames := 2, cells := 0, slots := 0, locals := 47 } : Room) s m args below meth c H locs 0 0 (sy_ZV below args s Y NZ EZ Q) (F0 m 40 ls [])) :
    ∀ (M : sy_M) (x1 : Int32) (x2 : Int32) (x3 : Int32) (x4 : Int32) (x5 : Int32) (x6 : Int32) (x7 : Int32) (x8 : Int32) (s1 : Int32) (s2 : Int32) (H : Heap) (locs : List Loc) (ls : Array Slot), wX12_laysSlice_120 K_40 Q M x1 x2 x3 x4 x5 x6 x7 x8 s1 s2 → sy_H Y NZ EZ s H locs M → lv_has ls 9 [(0, .ref (Y.2.1 0)), (1, .int x1), (2, .int x2), (3, .int x3), (4, .int x4), (5, .int x5), (6, .int x6), (7, .int x7), (8, .int x8)] → W p l e ({ frames := 2, cells := 0, slots := 0, locals := 47 } : Room) s m args below meth c H locs 0 0 (sy_ZV below args s Y NZ EZ Q) (F0 m 120 ls [.int s2, .int s1, .ref (Y.2.1 19)]) := by
  have hx := C.1.1
  have hb := C.1.2.1
  intro M x1 x2 x3 x4 x5 x6 x7 x8 s1 s2 H locs ls hq hh hl
  unfold wX12_laysSlice_120 at hq
  obtain ⟨n12, hn12, en12, hq⟩ := hq
  refine sy_iast C hh 19 (by decide) (aZ_19 Y) tZ_19 hn12 en12 (by decide) dX12_laysSlice_120 (fun H locs hh => ?_)
  refine lv_aload_n hx hb dX12_laysSlice_121 rfl (lv_at hl 0 rfl) ?_
  refine sy_get C hh (fun w h => mc (uZ_fX12 w h)) 0 (by decide) (oZ_0 Y) rfl 35 (by decide) (index := 82) (mc uZ_31) (v := .ref (Y.2.1 20)) rfl dX12_laysSlice_122 ?_
  refine lv_iload hx hb dX12_laysSlice_125 (lv_at hl 7 rfl) ?_
  refine lv_iload hx hb dX12_laysSlice_127 (lv_at hl 5 rfl) ?_
  refine lv_if_eq (tgt := 137) hx hb dX12_laysSlice_129 (by decide) (fun c13 => ?_) (fun c13 => ?_)
  · have hq := hq.1 c13
    refine lv_iload_n hx hb dX12_laysSlice_137 rfl (lv_at hl 3 rfl) ?_
    refine kX12_laysSlice_138 C hK_40 (mu M 19 n12 s2) x1 x2 x3 x4 x5 x6 x7 x8 x7 x3 _ _ _ hq hh (lv_sub hl [0, 1, 2, 3, 4, 5, 6, 7, 8] rfl)
  · have hq := hq.2 c13
    refine lv_iload hx hb dX12_laysSlice_132 (lv_at hl 8 rfl) ?_
    refine lv_goto (tgt := 138) hx hb dX12_laysSlice_134 (by decide) ?_
    refine kX12_laysSlice_138 C hK_40 (mu M 19 n12 s2) x1 x2 x3 x4 x5 x6 x7 x8 x7 x8 _ _ _ hq hh (lv_sub hl [0, 1, 2, 3, 4, 5, 6, 7, 8] rfl)

set_option maxHeartbeats 4000000 in
set_option maxRecDepth 100000 in
theorem kX12_laysSlice_95 (C : sy_C p m c cX12_laysSlice 9 s args vsX12_laysSlice RX12 meth none Y NZ tfZ) {Q : sy_M → Prop} {K_40 : sy_M → Int32 → Int32 → Int32 → Int32 → Int32 → Int32 → Int32 → Prop} (hK_40 : ∀ (M : sy_M) (x1 : Int32) (x2 : Int32) (x3 : Int32) (x4 : Int32) (x5 : Int32) (x6 : Int32) (x7 : Int32) (H : Heap) (locs : List Loc) (ls : Array Slot), K_40 M x1 x2 x3 x4 x5 x6 x7 → sy_H Y NZ EZ s H locs M → lv_has ls 9 [(0, .ref (Y.2.1 0)), (1, .int x1), (2, .int x2), (3, .int x3), (4, .int x4), (5, .int x5), (6, .int x6), (7, .int x7)] → W p l e ({ frames := 2, cells := 0, slots := 0, locals := 47 } : Room) s m args below meth c H locs 0 0 (sy_ZV below args s Y NZ EZ Q) (F0 m 40 ls [])) :
    ∀ (M : sy_M) (x1 : Int32) (x2 : Int32) (x3 : Int32) (x4 : Int32) (x5 : Int32) (x6 : Int32) (x7 : Int32) (x8 : Int32) (s1 : Int32) (s2 : Int32) (H : Heap) (locs : List Loc) (ls : Array Slot), wX12_laysSlice_95 K_40 Q M x1 x2 x3 x4 x5 x6 x7 x8 s1 s2 → sy_H Y NZ EZ s H locs M → lv_has ls 9 [(0, .ref (Y.2.1 0)), (1, .int x1), (2, .int x2), (3, .int x3), (4, .int x4), (5, .int x5), (6, .int x6), (7, .int x7), (8, .int x8)] → W p l e ({ frames := 2, cells := 0, slots := 0, locals := 47 } : Room) s m args below meth c H locs 0 0 (sy_ZV below args s Y NZ EZ Q) (F0 m 95 ls [.int s2, .int s1, .ref (Y.2.1 18)]) := by
  have hx := C.1.1
  have hb := C.1.2.1
  intro M x1 x2 x3 x4 x5 x6 x7 x8 s1 s2 H locs ls hq hh hl
  unfold wX12_laysSlice_95 at hq
  obtain ⟨n9, hn9, en9, hq⟩ := hq
  refine sy_iast C hh 18 (by decide) (aZ_18 Y) tZ_18 hn9 en9 (by decide) dX12_laysSlice_95 (fun H locs hh => ?_)
  refine lv_aload_n hx hb dX12_laysSlice_96 rfl (lv_at hl 0 rfl) ?_
  refine sy_get C hh (fun w h => mc (uZ_fX12 w h)) 0 (by decide) (oZ_0 Y) rfl 34 (by decide) (index := 79) (mc uZ_30) (v := .ref (Y.2.1 19)) rfl dX12_laysSlice_97 ?_
  refine lv_iload hx hb dX12_laysSlice_100 (lv_at hl 7 rfl) ?_
  refine lv_iload hx hb dX12_laysSlice_102 (lv_at hl 5 rfl) ?_
  refine lv_if_eq (tgt := 111) hx hb dX12_laysSlice_104 (by decide) (fun c10 => ?_) (fun c10 => ?_)
  · have hq := hq.1 c10
    refine lv_iload_n hx hb dX12_laysSlice_111 rfl (lv_at hl 2 rfl) ?_
    refine lv_aload_n hx hb dX12_laysSlice_112 rfl (lv_at hl 0 rfl) ?_
    refine sy_get C hh (fun w h => mc (uZ_fX12 w h)) 0 (by decide) (oZ_0 Y) rfl 37 (by decide) (index := 88) (mc uZ_33) (v := .ref (Y.2.1 22)) rfl dX12_laysSlice_113 ?_
    refine lv_iload hx hb dX12_laysSlice_116 (lv_at hl 7 rfl) ?_
    obtain ⟨n11, hn11, en11, hq⟩ := hq
    refine sy_iald C hh 22 (by decide) (aZ_22 Y) tZ_22 hn11 en11 (by decide) dX12_laysSlice_118 ?_
    refine lv_iadd hx hb dX12_laysSlice_119 ?_
    refine kX12_laysSlice_120 C hK_40 (mu M 18 n9 s2) x1 x2 x3 x4 x5 x6 x7 x8 x7 (x2 + (M 22 n11)) _ _ _ hq hh (lv_sub hl [0, 1, 2, 3, 4, 5, 6, 7, 8] rfl)
  · have hq := hq.2 c10
    refine lv_iload_n hx hb dX12_laysSlice_107 rfl (lv_at hl 2 rfl) ?_
    refine lv_goto (tgt := 120) hx hb dX12_laysSlice_108 (by decide) ?_
    refine kX12_laysSlice_120 C hK_40 (mu M 18 n9 s2) x1 x2 x3 x4 x5 x6 x7 x8 x7 x2 _ _ _ hq hh (lv_sub hl [0, 1, 2, 3, 4, 5, 6, 7, 8] rfl)

set_option maxHeartbeats 4000000 in
set_option maxRecDepth 100000 in
theorem kX12_laysSlice_40 (C : sy_C p m c cX12_laysSlice 9 s args vsX12_laysSlice RX12 meth none Y NZ tfZ) {Q : sy_M → Prop} :
    ∀ (n : Nat) (M : sy_M) (x1 : Int32) (x2 : Int32) (x3 : Int32) (x4 : Int32) (x5 : Int32) (x6 : Int32) (x7 : Int32) (H : Heap) (locs : List Loc) (ls : Array Slot), wX12_laysSlice_40 Q n M x1 x2 x3 x4 x5 x6 x7 → sy_H Y NZ EZ s H locs M → lv_has ls 9 [(0, .ref (Y.2.1 0)), (1, .int x1), (2, .int x2), (3, .int x3), (4, .int x4), (5, .int x5), (6, .int x6), (7, .int x7)] → W p l e ({ frames := 2, cells := 0, slots := 0, locals := 47 } : Room) s m args below meth c H locs 0 0 (sy_ZV below args s Y NZ EZ Q) (F0 m 40 ls []) := by
  have hx := C.1.1
  have hb := C.1.2.1
  intro n
  induction n with
  | zero =>
    intro M x1 x2 x3 x4 x5 x6 x7 H locs ls hq hh hl
    unfold wX12_laysSlice_40 at hq
    exact hq.elim
  | succ n ih =>
    intro M x1 x2 x3 x4 x5 x6 x7 H locs ls hq hh hl
    unfold wX12_laysSlice_40 at hq
    refine lv_iload hx hb dX12_laysSlice_40 (lv_at hl 7 rfl) ?_
    refine lv_aload_n hx hb dX12_laysSlice_42 rfl (lv_at hl 0 rfl) ?_
    refine sy_get C hh (fun w h => mc (uZ_fX12 w h)) 0 (by decide) (oZ_0 Y) rfl 30 (by decide) (index := 261) (mc uZ_195) (v := .int (M 0 30)) rfl dX12_laysSlice_43 ?_
    refine lv_icmp_ge (tgt := 164) hx hb dX12_laysSlice_46 (by decide) (fun c4 => ?_) (fun c4 => ?_)
    · have hq := hq.1 c4
      exact sy_vret C hh dX12_laysSlice_164 hq
    · have hq := hq.2 c4
      refine lv_aload_n hx hb dX12_laysSlice_49 rfl (lv_at hl 0 rfl) ?_
      refine lv_iload hx hb dX12_laysSlice_50 (lv_at hl 6 rfl) ?_
      refine lv_iload hx hb dX12_laysSlice_52 (lv_at hl 7 rfl) ?_
      refine lv_aload_n hx hb dX12_laysSlice_54 rfl (lv_at hl 0 rfl) ?_
      refine sy_get C hh (fun w h => mc (uZ_fX12 w h)) 0 (by decide) (oZ_0 Y) rfl 30 (by decide) (index := 261) (mc uZ_195) (v := .int (M 0 30)) rfl dX12_laysSlice_55 ?_
      refine sy_cIV C hh (As := [.int x6, .int x7, .int (M 0 30)]) (rest := []) 0 (by decide) (oZ_0 Y) rfl (mX12_partEnd l Y _ M x6 x7 (M 0 30) _ hq) (cwV 3 C.1.2.2.2.2 (sy_goodV uZ_good uZ_213 uZ_214 uZ_215 uZ_55 uZ_207 _) rfl rfl rfl hdX12_partEnd ⟨Nat.le_of_ble_eq_true rfl, Nat.le_of_ble_eq_true rfl⟩) rfl hl.1 rfl (Nat.le_of_ble_eq_true rfl) dX12_laysSlice_58 (fun r6 M5 H locs hq hh => ?_)
      refine lv_aload_n hx hb dX12_laysSlice_61 rfl (lv_at hl 0 rfl) ?_
      refine sy_get C hh (fun w h => mc (uZ_fX12 w h)) 0 (by decide) (oZ_0 Y) rfl 37 (by decide) (index := 88) (mc uZ_33) (v := .ref (Y.2.1 22)) rfl dX12_laysSlice_62 ?_
      refine lv_iload hx hb dX12_laysSlice_65 (lv_at hl 7 rfl) ?_
      obtain ⟨n7, hn7, en7, hq⟩ := hq
      refine sy_iald C hh 22 (by decide) (aZ_22 Y) tZ_22 hn7 en7 (by decide) dX12_laysSlice_67 ?_
      refine lv_isub hx hb dX12_laysSlice_68 ?_
      refine lv_istore (lv' := [(8, .int (r6 - (M5 22 n7))), (0, .ref (Y.2.1 0)), (1, .int x1), (2, .int x2), (3, .int x3), (4, .int x4), (5, .int x5), (6, .int x6), (7, .int x7)]) hx hb dX12_laysSlice_69 hl (by decide) rfl (fun ls hl => ?_)
      refine lv_aload_n hx hb dX12_laysSlice_71 rfl (lv_at hl 1 rfl) ?_
      refine sy_get C hh (fun w h => mc (uZ_fX12 w h)) 0 (by decide) (oZ_0 Y) rfl 33 (by decide) (index := 76) (mc uZ_29) (v := .ref (Y.2.1 18)) rfl dX12_laysSlice_72 ?_
      refine lv_iload hx hb dX12_laysSlice_75 (lv_at hl 8 rfl) ?_
      refine lv_iload hx hb dX12_laysSlice_77 (lv_at hl 6 rfl) ?_
      refine lv_if_eq (tgt := 94) hx hb dX12_laysSlice_79 (by decide) (fun c8 => ?_) (fun c8 => ?_)
      · have hq := hq.1 c8
        refine lv_iload_n hx hb dX12_laysSlice_94 rfl (lv_at hl 2 rfl) ?_
        refine kX12_laysSlice_95 C (fun M18 x1_19 x2_20 x3_21 x4_22 x5_23 x6_24 x7_25 H locs ls hq hh hl => ?_) M5 x1 x2 x3 x4 x5 x6 x7 (r6 - (M5 22 n7)) x7 x1 _ _ _ hq hh (lv_sub hl [1, 2, 3, 4, 5, 6, 7, 8, 0] rfl)
        · exact ih M18 x1_19 x2_20 x3_21 x4_22 x5_23 x6_24 x7_25 _ _ _ hq hh (lv_sub hl [0, 1, 2, 3, 4, 5, 6, 7] rfl)
      · have hq := hq.2 c8
        refine lv_iload_n hx hb dX12_laysSlice_82 rfl (lv_at hl 2 rfl) ?_
        refine lv_aload_n hx hb dX12_laysSlice_83 rfl (lv_at hl 1 rfl) ?_
        refine sy_get C hh (fun w h => mc (uZ_fX12 w h)) 0 (by decide) (oZ_0 Y) rfl 37 (by decide) (index := 88) (mc uZ_33) (v := .ref (Y.2.1 22)) rfl dX12_laysSlice_84 ?_
        refine lv_iload hx hb dX12_laysSlice_87 (lv_at hl 8 rfl) ?_
        refine sy_iald C hh 22 (by decide) (aZ_22 Y) tZ_22 hn7 en7 (by decide) dX12_laysSlice_89 ?_
        refine lv_iadd hx hb dX12_laysSlice_90 ?_
        refine lv_goto (tgt := 95) hx hb dX12_laysSlice_91 (by decide) ?_
        refine kX12_laysSlice_95 C (fun M26 x1_27 x2_28 x3_29 x4_30 x5_31 x6_32 x7_33 H locs ls hq hh hl => ?_) M5 x1 x2 x3 x4 x5 x6 x7 (r6 - (M5 22 n7)) x7 (x1 + (M5 22 n7)) _ _ _ hq hh (lv_sub hl [1, 2, 3, 4, 5, 6, 7, 8, 0] rfl)
        · exact ih M26 x1_27 x2_28 x3_29 x4_30 x5_31 x6_32 x7_33 _ _ _ hq hh (lv_sub hl [0, 1, 2, 3, 4, 5, 6, 7] rfl)

set_option maxHeartbeats 4000000 in
set_option maxRecDepth 100000 in
theorem kX12_laysSlice_24 (C : sy_C p m c cX12_laysSlice 9 s args vsX12_laysSlice RX12 meth none Y NZ tfZ) {Q : sy_M → Prop} :
    ∀ (M : sy_M) (x1 : Int32) (x2 : Int32) (x3 : Int32) (x4 : Int32) (x5 : Int32) (s0 : Int32) (H : Heap) (locs : List Loc) (ls : Array Slot), wX12_laysSlice_24 Q M x1 x2 x3 x4 x5 s0 → sy_H Y NZ EZ s H locs M → lv_has ls 9 [(0, .ref (Y.2.1 0)), (1, .int x1), (2, .int x2), (3, .int x3), (4, .int x4), (5, .int x5)] → W p l e ({ frames := 2, cells := 0, slots := 0, locals := 47 } : Room) s m args below meth c H locs 0 0 (sy_ZV below args s Y NZ EZ Q) (F0 m 24 ls [.int s0]) := by
  have hx := C.1.1
  have hb := C.1.2.1
  intro M x1 x2 x3 x4 x5 s0 H locs ls hq hh hl
  unfold wX12_laysSlice_24 at hq
  refine lv_istore (lv' := [(6, .int s0), (0, .ref (Y.2.1 0)), (1, .int x1), (2, .int x2), (3, .int x3), (4, .int x4), (5, .int x5)]) hx hb dX12_laysSlice_24 hl (by decide) rfl (fun ls hl => ?_)
  refine lv_aload_n hx hb dX12_laysSlice_26 rfl (lv_at hl 1 rfl) ?_
  refine lv_iload hx hb dX12_laysSlice_27 (lv_at hl 0 rfl) ?_
  refine lv_iconst (v := (0 : Int32)) hx hb dX12_laysSlice_29 (by decide) ?_
  refine lv_aload_n hx hb dX12_laysSlice_30 rfl (lv_at hl 1 rfl) ?_
  refine sy_get C hh (fun w h => mc (uZ_fX12 w h)) 0 (by decide) (oZ_0 Y) rfl 30 (by decide) (index := 261) (mc uZ_195) (v := .int (M 0 30)) rfl dX12_laysSlice_31 ?_
  refine sy_cVV C hh (As := [.int s0, .int (0 : Int32), .int (M 0 30)]) (rest := []) 0 (by decide) (oZ_0 Y) rfl (mX12_parts l Y _ M s0 (0 : Int32) (M 0 30) _ hq) (cwV 3 C.1.2.2.2.2 (sy_goodV uZ_good uZ_210 uZ_211 uZ_212 uZ_55 uZ_203 _) rfl rfl rfl hdX12_parts ⟨Nat.le_of_ble_eq_true rfl, Nat.le_of_ble_eq_true rfl⟩) rfl hl.1 rfl (Nat.le_of_ble_eq_true rfl) dX12_laysSlice_34 (fun M3 H locs hq hh => ?_)
  refine lv_iconst (v := (0 : Int32)) hx hb dX12_laysSlice_37 (by decide) ?_
  refine lv_istore (lv' := [(7, .int (0 : Int32)), (6, .int s0), (0, .ref (Y.2.1 0)), (1, .int x1), (2, .int x2), (3, .int x3), (4, .int x4), (5, .int x5)]) hx hb dX12_laysSlice_38 hl (by decide) rfl (fun ls hl => ?_)
  obtain ⟨n34, hq⟩ := hq
  refine kX12_laysSlice_40 C  n34 M3 x1 x2 x3 x4 x5 s0 (0 : Int32) _ _ _ hq hh (lv_sub hl [2, 3, 4, 5, 6, 7, 1, 0] rfl)

set_option maxHeartbeats 4000000 in
set_option maxRecDepth 100000 in
theorem kX12_laysSlice_11 (C : sy_C p m c cX12_laysSlice 9 s args vsX12_laysSlice RX12 meth none Y NZ tfZ) {Q : sy_M → Prop} :
    ∀ (M : sy_M) (x1 : Int32) (x2 : Int32) (x3 : Int32) (x4 : Int32) (s0 : Int32) (H : Heap) (locs : List Loc) (ls : Array Slot), wX12_laysSlice_11 Q M x1 x2 x3 x4 s0 → sy_H Y NZ EZ s H locs M → lv_has ls 9 [(0, .ref (Y.2.1 0)), (1, .int x1), (2, .int x2), (3, .int x3), (4, .int x4)] → W p l e ({ frames := 2, cells := 0, slots := 0, locals := 47 } : Room) s m args below meth c H locs 0 0 (sy_ZV below args s Y NZ EZ Q) (F0 m 11 ls [.int s0]) := by
  have hx := C.1.1
  have hb := C.1.2.1
  intro M x1 x2 x3 x4 s0 H locs ls hq hh hl
  unfold wX12_laysSlice_11 at hq
  refine lv_istore (lv' := [(5, .int s0), (0, .ref (Y.2.1 0)), (1, .int x1), (2, .int x2), (3, .int x3), (4, .int x4)]) hx hb dX12_laysSlice_11 hl (by decide) rfl (fun ls hl => ?_)
  refine lv_iload hx hb dX12_laysSlice_13 (lv_at hl 0 rfl) ?_
  refine lv_if_eq (tgt := 22) hx hb dX12_laysSlice_15 (by decide) (fun c2 => ?_) (fun c2 => ?_)
  · have hq := hq.1 c2
    refine lv_iload hx hb dX12_laysSlice_22 (lv_at hl 5 rfl) ?_
    refine kX12_laysSlice_24 C  M x1 x2 x3 x4 s0 x4 _ _ _ hq hh (lv_sub hl [1, 2, 3, 4, 5, 0] rfl)
  · have hq := hq.2 c2
    refine lv_iload_n hx hb dX12_laysSlice_18 rfl (lv_at hl 4 rfl) ?_
    refine lv_goto (tgt := 24) hx hb dX12_laysSlice_19 (by decide) ?_
    refine kX12_laysSlice_24 C  M x1 x2 x3 x4 s0 x3 _ _ _ hq hh (lv_sub hl [1, 2, 3, 4, 5, 0] rfl)

end
set_option maxHeartbeats 4000000 in
set_option maxRecDepth 100000 in
theorem mX12_laysSlice (l : Launch) (Y : sy_Y) (sz : Nat) (M : sy_M) (a1 : Int32) (a2 : Int32) (a3 : Int32) (a4 : Int32) (Q : sy_M → Prop) (hq : wX12_laysSlice M a1 a2 a3 a4 Q) : Met l yX12_laysSlice vsX12_laysSlice ({ frames := 2, cells := 0, slots := 0, locals := 47 } : Room) (va_Pc [.ref (Y.2.1 0), .int a1, .int a2, .int a3, .int a4] (sy_pre Y NZ EZ tfZ sz M)) (sy_QV Y NZ EZ sz Q) 0 0 (sy_A NZ Y.2.1 sz) := by
  refine sy_metV (by decide) rfl (Nat.le_of_ble_eq_true rfl) ?_
  intro p e s m args below meth c C ls hl hh
  have hx := C.1.1
  have hb := C.1.2.1
  have hl : lv_has ls 9 [(0, .ref (Y.2.1 0)), (1, .int a1), (2, .int a2), (3, .int a3), (4, .int a4)] := hl
  unfold wX12_laysSlice at hq
  refine lv_iload_n hx hb dX12_laysSlice_0 rfl (lv_at hl 3 rfl) ?_
  refine lv_iload hx hb dX12_laysSlice_1 (lv_at hl 4 rfl) ?_
  refine lv_icmp_lt (tgt := 10) hx hb dX12_laysSlice_3 (by decide) (fun c1 => ?_) (fun c1 => ?_)
  · have hq := hq.1 c1
    refine lv_iconst (v := (0 : Int32)) hx hb dX12_laysSlice_10 (by decide) ?_
    refine kX12_laysSlice_11 C  M a1 a2 a3 a4 (0 : Int32) _ _ _ hq hh (lv_sub hl [0, 1, 2, 3, 4] rfl)
  · have hq := hq.2 c1
    refine lv_iconst (v := (1 : Int32)) hx hb dX12_laysSlice_6 (by decide) ?_
    refine lv_goto (tgt := 11) hx hb dX12_laysSlice_7 (by decide) ?_
    refine kX12_laysSlice_11 C  M a1 a2 a3 a4 (1 : Int32) _ _ _ hq hh (lv_sub hl [0, 1, 2, 3, 4] rfl)

/-! AreaSetterModel.laysRows(IIIII)V -/
def wX12_laysRows_14 (K_43 : sy_M → Int32 → Int32 → Int32 → Int32 → Int32 → Prop) (Q : sy_M → Prop) : Nat → sy_M → Int32 → Int32 → Int32 → Int32 → Int32 → Int32 → Prop
  | 0, _, _, _, _, _, _, _ => False
  | n + 1, M, x1, x2, x3, x4, x5, x6 => (((M 0 30) ≤ x6 → K_43 M x1 x2 x3 x4 x5) ∧ (¬ (M 0 30) ≤ x6 → ∃ n3 : Nat, n3 < 9 ∧ x6 = nI n3 ∧ n3 < 10 ∧ wX12_laysRows_14 K_43 Q n (mu M 24 n3 (M 22 n3)) x1 x2 x3 x4 x5 (x6 + (1 : Int32))))
def wX12_laysRows_72 (K_98 : sy_M → Int32 → Int32 → Int32 → Int32 → Int32 → Int32 → Prop) (Q : sy_M → Prop) : Nat → sy_M → Int32 → Int32 → Int32 → Int32 → Int32 → Int32 → Prop
  | 0, _, _, _, _, _, _, _ => False
  | n + 1, M, x1, x2, x3, x4, x6, x7 => (((M 0 30) ≤ x7 → K_98 M x1 x2 x3 x4 x6 x7) ∧ (¬ (M 0 30) ≤ x7 → ((¬ ((x1 >>> ((x7 - (1 : Int32)) &&& 31)) &&& (1 : Int32)) = 0 → K_98 M x1 x2 x3 x4 x6 x7) ∧ (((x1 >>> ((x7 - (1 : Int32)) &&& 31)) &&& (1 : Int32)) = 0 → wX12_laysRows_72 K_98 Q n M x1 x2 x3 x4 x6 (x7 + (1 : Int32))))))
def wX12_laysRows_112 (K_204 : sy_M → Int32 → Int32 → Int32 → Int32 → Int32 → Prop) (Q : sy_M → Prop) : Nat → sy_M → Int32 → Int32 → Int32 → Int32 → Int32 → Int32 → Int32 → Prop
  | 0, _, _, _, _, _, _, _, _ => False
  | n + 1, M, x1, x2, x3, x4, x6, x7, x8 => ((x7 ≤ x8 → K_204 M x1 x2 x3 x4 x7) ∧ (¬ x7 ≤ x8 → ∃ n24 : Nat, n24 < 9 ∧ x8 = nI n24 ∧ ∃ n25 : Nat, n25 < 10 ∧ x6 = nI n25 ∧ wX12_partEnd (mu (mu M 18 n24 (x2 + (M 22 n24))) 19 n24 (x3 + (M 24 n25))) x4 x8 x7 (fun r27 M26 => ∃ n28 : Nat, n28 < 10 ∧ x7 = nI n28 ∧ wX12_laysRows_112 K_204 Q n (mu (mu M26 20 n24 (r27 - (M26 22 n24))) 21 n24 ((M26 24 n28) - (M26 24 n25))) x1 x2 x3 x4 x6 x7 (x8 + (1 : Int32)))))
def wX12_laysRows_98 (K_57 : sy_M → Int32 → Int32 → Int32 → Int32 → Int32 → Prop) (Q : sy_M → Prop) (M : sy_M) (x1 : Int32) (x2 : Int32) (x3 : Int32) (x4 : Int32) (x6 : Int32) (x7 : Int32) : Prop := wX12_parts M x4 x6 x7 (fun M22 => ∃ n35 : Nat, wX12_laysRows_112 (fun (M29 : sy_M) (x1_30 : Int32) (x2_31 : Int32) (x3_32 : Int32) (x4_33 : Int32) (x7_34 : Int32) => K_57 M29 x1_30 x2_31 x3_32 x4_33 x7_34) Q n35 M22 x1 x2 x3 x4 x6 x7 x6)
def wX12_laysRows_57 (Q : sy_M → Prop) : Nat → sy_M → Int32 → Int32 → Int32 → Int32 → Int32 → Prop
  | 0, _, _, _, _, _, _ => False
  | n + 1, M, x1, x2, x3, x4, x6 => (((M 0 30) ≤ x6 → Q M) ∧ (¬ (M 0 30) ≤ x6 → ∃ n42 : Nat, wX12_laysRows_72 (fun (M15 : sy_M) (x1_16 : Int32) (x2_17 : Int32) (x3_18 : Int32) (x4_19 : Int32) (x6_20 : Int32) (x7_21 : Int32) => wX12_laysRows_98 (fun (M36 : sy_M) (x1_37 : Int32) (x2_38 : Int32) (x3_39 : Int32) (x4_40 : Int32) (x6_41 : Int32) => wX12_laysRows_57 Q n M36 x1_37 x2_38 x3_39 x4_40 x6_41) Q M15 x1_16 x2_17 x3_18 x4_19 x6_20 x7_21) Q n42 M x1 x2 x3 x4 x6 (x6 + (1 : Int32))))
def wX12_laysRows (M : sy_M) (a1 : Int32) (a2 : Int32) (a3 : Int32) (a4 : Int32) (a5 : Int32) (Q : sy_M → Prop) : Prop := wX12_parts M a5 (0 : Int32) (M 0 30) (fun M1 => ∃ n44 : Nat, wX12_laysRows_14 (fun (M5 : sy_M) (x1_6 : Int32) (x2_7 : Int32) (x3_8 : Int32) (x4_9 : Int32) (x5_10 : Int32) => ∃ n11 : Nat, n11 < 10 ∧ (M5 0 30) = nI n11 ∧ ∃ n43 : Nat, wX12_laysRows_57  Q n43 (mu M5 24 n11 x5_10) x1_6 x2_7 x3_8 x4_9 (0 : Int32)) Q n44 M1 a1 a2 a3 a4 a5 (0 : Int32))
section
variable {p : Program} {l : Launch} {e : Env} {s : State} {m : MethodId} {args : Array Value} {below : List Frame} {meth : Method} {c : Code} {Y : sy_Y}
set_option maxHeartbeats 4000000 in
set_option maxRecDepth 100000 in
theorem kX12_laysRows_14 (C : sy_C p m c cX12_laysRows 9 s args vsX12_laysRows RX12 meth none Y NZ tfZ) {Q : sy_M → Prop} {K_43 : sy_M → Int32 → Int32 → Int32 → Int32 → Int32 → Prop} (hK_43 : ∀ (M : sy_M) (x1 : Int32) (x2 : Int32) (x3 : Int32) (x4 : Int32) (x5 : Int32) (H : Heap) (locs : List Loc) (ls : Array Slot), K_43 M x1 x2 x3 x4 x5 → sy_H Y NZ EZ s H locs M → lv_has ls 9 [(0, .ref (Y.2.1 0)), (1, .int x1), (2, .int x2), (3, .int x3), (4, .int x4), (5, .int x5)] → W p l e ({ frames := 2, cells := 0, slots := 0, locals := 47 } : Room) s m args below meth c H locs 0 0 (sy_ZV below args s Y NZ EZ Q) (F0 m 43 ls [])) :
    ∀ (n : Nat) (M : sy_M) (x1 : Int32) (x2 : Int32) (x3 : Int32) (x4 : Int32) (x5 : Int32) (x6 : Int32) (H : Heap) (locs : List Loc) (ls : Array Slot), wX12_laysRows_14 K_43 Q n M x1 x2 x3 x4 x5 x6 → sy_H Y NZ EZ s H locs M → lv_has ls 9 [(0, .ref (Y.2.1 0)), (1, .int x1), (2, .int x2), (3, .int x3), (4, .int x4), (5, .int x5), (6, .int x6)] → W p l e ({ frames := 2, cells := 0, slots := 0, locals := 47 } : Room) s m args below meth c H locs 0 0 (sy_ZV below args s Y NZ EZ Q) (F0 m 14 ls []) := by
  have hx := C.1.1
  have hb := C.1.2.1
  intro n
  induction n with
  | zero =>
    intro M x1 x2 x3 x4 x5 x6 H locs ls hq hh hl
    unfold wX12_laysRows_14 at hq
    exact hq.elim
  | succ n ih =>
    intro M x1 x2 x3 x4 x5 x6 H locs ls hq hh hl
    unfold wX12_laysRows_14 at hq
    refine lv_iload hx hb dX12_laysRows_14 (lv_at hl 6 rfl) ?_
    refine lv_aload_n hx hb dX12_laysRows_16 rfl (lv_at hl 0 rfl) ?_
    refine sy_get C hh (fun w h => mc (uZ_fX12 w h)) 0 (by decide) (oZ_0 Y) rfl 30 (by decide) (index := 261) (mc uZ_195) (v := .int (M 0 30)) rfl dX12_laysRows_17 ?_
    refine lv_icmp_ge (tgt := 43) hx hb dX12_laysRows_20 (by decide) (fun c2 => ?_) (fun c2 => ?_)
    · have hq := hq.1 c2
      exact hK_43 M x1 x2 x3 x4 x5 _ _ _ hq hh (lv_sub hl [0, 1, 2, 3, 4, 5] rfl)
    · have hq := hq.2 c2
      refine lv_aload_n hx hb dX12_laysRows_23 rfl (lv_at hl 0 rfl) ?_
      refine sy_get C hh (fun w h => mc (uZ_fX12 w h)) 0 (by decide) (oZ_0 Y) rfl 39 (by decide) (index := 94) (mc uZ_35) (v := .ref (Y.2.1 24)) rfl dX12_laysRows_24 ?_
      refine lv_iload hx hb dX12_laysRows_27 (lv_at hl 6 rfl) ?_
      refine lv_aload_n hx hb dX12_laysRows_29 rfl (lv_at hl 0 rfl) ?_
      refine sy_get C hh (fun w h => mc (uZ_fX12 w h)) 0 (by decide) (oZ_0 Y) rfl 37 (by decide) (index := 88) (mc uZ_33) (v := .ref (Y.2.1 22)) rfl dX12_laysRows_30 ?_
      refine lv_iload hx hb dX12_laysRows_33 (lv_at hl 6 rfl) ?_
      obtain ⟨n3, hn3, en3, hq⟩ := hq
      refine sy_iald C hh 22 (by decide) (aZ_22 Y) tZ_22 hn3 en3 (by decide) dX12_laysRows_35 ?_
      obtain ⟨b4, hq⟩ := hq
      refine sy_iast C hh 24 (by decide) (aZ_24 Y) tZ_24 b4 en3 (by decide) dX12_laysRows_36 (fun H locs hh => ?_)
      refine lv_iinc (v := (x6 + (1 : Int32))) (lv' := [(6, .int (x6 + (1 : Int32))), (0, .ref (Y.2.1 0)), (1, .int x1), (2, .int x2), (3, .int x3), (4, .int x4), (5, .int x5)]) hx hb dX12_laysRows_37 hl (k := 6) rfl (sy_inc (by decide)) (by decide) rfl (fun ls hl => ?_)
      refine lv_goto (tgt := 14) hx hb dX12_laysRows_40 (by decide) ?_
      exact ih (mu M 24 n3 (M 22 n3)) x1 x2 x3 x4 x5 (x6 + (1 : Int32)) _ _ _ hq hh (lv_sub hl [1, 2, 3, 4, 5, 6, 0] rfl)

set_option maxHeartbeats 4000000 in
set_option maxRecDepth 100000 in
theorem kX12_laysRows_72 (C : sy_C p m c cX12_laysRows 9 s args vsX12_laysRows RX12 meth none Y NZ tfZ) {Q : sy_M → Prop} {K_98 : sy_M → Int32 → Int32 → Int32 → Int32 → Int32 → Int32 → Prop} (hK_98 : ∀ (M : sy_M) (x1 : Int32) (x2 : Int32) (x3 : Int32) (x4 : Int32) (x6 : Int32) (x7 : Int32) (H : Heap) (locs : List Loc) (ls : Array Slot), K_98 M x1 x2 x3 x4 x6 x7 → sy_H Y NZ EZ s H locs M → lv_has ls 9 [(0, .ref (Y.2.1 0)), (1, .int x1), (2, .int x2), (3, .int x3), (4, .int x4), (6, .int x6), (7, .int x7)] → W p l e ({ frames := 2, cells := 0, slots := 0, locals := 47 } : Room) s m args below meth c H locs 0 0 (sy_ZV below args s Y NZ EZ Q) (F0 m 98 ls [])) :
    ∀ (n : Nat) (M : sy_M) (x1 : Int32) (x2 : Int32) (x3 : Int32) (x4 : Int32) (x6 : Int32) (x7 : Int32) (H : Heap) (locs : List Loc) (ls : Array Slot), wX12_laysRows_72 K_98 Q n M x1 x2 x3 x4 x6 x7 → sy_H Y NZ EZ s H locs M → lv_has ls 9 [(0, .ref (Y.2.1 0)), (1, .int x1), (2, .int x2), (3, .int x3), (4, .int x4), (6, .int x6), (7, .int x7)] → W p l e ({ frames := 2, cells := 0, slots := 0, locals := 47 } : Room) s m args below meth c H locs 0 0 (sy_ZV below args s Y NZ EZ Q) (F0 m 72 ls []) := by
  have hx := C.1.1
  have hb := C.1.2.1
  intro n
  induction n with
  | zero =>
    intro M x1 x2 x3 x4 x6 x7 H locs ls hq hh hl
    unfold wX12_laysRows_72 at hq
    exact hq.elim
  | succ n ih =>
    intro M x1 x2 x3 x4 x6 x7 H locs ls hq hh hl
    unfold wX12_laysRows_72 at hq
    refine lv_iload hx hb dX12_laysRows_72 (lv_at hl 6 rfl) ?_
    refine lv_aload_n hx hb dX12_laysRows_74 rfl (lv_at hl 0 rfl) ?_
    refine sy_get C hh (fun w h => mc (uZ_fX12 w h)) 0 (by decide) (oZ_0 Y) rfl 30 (by decide) (index := 261) (mc uZ_195) (v := .int (M 0 30)) rfl dX12_laysRows_75 ?_
    refine lv_icmp_ge (tgt := 98) hx hb dX12_laysRows_78 (by decide) (fun c13 => ?_) (fun c13 => ?_)
    · have hq := hq.1 c13
      exact hK_98 M x1 x2 x3 x4 x6 x7 _ _ _ hq hh (lv_sub hl [0, 1, 2, 3, 4, 5, 6] rfl)
    · have hq := hq.2 c13
      refine lv_iload_n hx hb dX12_laysRows_81 rfl (lv_at hl 1 rfl) ?_
      refine lv_iload hx hb dX12_laysRows_82 (lv_at hl 6 rfl) ?_
      refine lv_iconst (v := (1 : Int32)) hx hb dX12_laysRows_84 (by decide) ?_
      refine lv_isub hx hb dX12_laysRows_85 ?_
      refine lv_ishr hx hb dX12_laysRows_86 ?_
      refine lv_iconst (v := (1 : Int32)) hx hb dX12_laysRows_87 (by decide) ?_
      refine lv_iand hx hb dX12_laysRows_88 ?_
      refine lv_if_ne (tgt := 98) hx hb dX12_laysRows_89 (by decide) (fun c14 => ?_) (fun c14 => ?_)
      · have hq := hq.1 c14
        exact hK_98 M x1 x2 x3 x4 x6 x7 _ _ _ hq hh (lv_sub hl [0, 1, 2, 3, 4, 5, 6] rfl)
      · have hq := hq.2 c14
        refine lv_iinc (v := (x7 + (1 : Int32))) (lv' := [(7, .int (x7 + (1 : Int32))), (0, .ref (Y.2.1 0)), (1, .int x1), (2, .int x2), (3, .int x3), (4, .int x4), (6, .int x6)]) hx hb dX12_laysRows_92 hl (k := 6) rfl (sy_inc (by decide)) (by decide) rfl (fun ls hl => ?_)
        refine lv_goto (tgt := 72) hx hb dX12_laysRows_95 (by decide) ?_
        exact ih M x1 x2 x3 x4 x6 (x7 + (1 : Int32)) _ _ _ hq hh (lv_sub hl [1, 2, 3, 4, 5, 6, 0] rfl)

set_option maxHeartbeats 4000000 in
set_option maxRecDepth 100000 in
theorem kX12_laysRows_112 (C : sy_C p m c cX12_laysRows 9 s args vsX12_laysRows RX12 meth none Y NZ tfZ) {Q : sy_M → Prop} {K_204 : sy_M → Int32 → Int32 → Int32 → Int32 → Int32 → Prop} (hK_204 : ∀ (M : sy_M) (x1 : Int32) (x2 : Int32) (x3 : Int32) (x4 : Int32) (x7 : Int32) (H : Heap) (locs : List Loc) (ls : Array Slot), K_204 M x1 x2 x3 x4 x7 → sy_H Y NZ EZ s H locs M → lv_has ls 9 [(0, .ref (Y.2.1 0)), (1, .int x1), (2, .int x2), (3, .int x3), (4, .int x4), (7, .int x7)] → W p l e ({ frames := 2, cells := 0, slots := 0, locals := 47 } : Room) s m args below meth c H locs 0 0 (sy_ZV below args s Y NZ EZ Q) (F0 m 204 ls [])) :
    ∀ (n : Nat) (M : sy_M) (x1 : Int32) (x2 : Int32) (x3 : Int32) (x4 : Int32) (x6 : Int32) (x7 : Int32) (x8 : Int32) (H : Heap) (locs : List Loc) (ls : Array Slot), wX12_laysRows_112 K_204 Q n M x1 x2 x3 x4 x6 x7 x8 → sy_H Y NZ EZ s H locs M → lv_has ls 9 [(0, .ref (Y.2.1 0)), (1, .int x1), (2, .int x2), (3, .int x3), (4, .int x4), (6, .int x6), (7, .int x7), (8, .int x8)] → W p l e ({ frames := 2, cells := 0, slots := 0, locals := 47 } : Room) s m args below meth c H locs 0 0 (sy_ZV below args s Y NZ EZ Q) (F0 m 112 ls []) := by
  have hx := C.1.1
  have hb := C.1.2.1
  intro n
  induction n with
  | zero =>
    intro M x1 x2 x3 x4 x6 x7 x8 H locs ls hq hh hl
    unfold wX12_laysRows_112 at hq
    exact hq.elim
  | succ n ih =>
    intro M x1 x2 x3 x4 x6 x7 x8 H locs ls hq hh hl
    unfold wX12_laysRows_112 at hq
    refine lv_iload hx hb dX12_laysRows_112 (lv_at hl 7 rfl) ?_
    refine lv_iload hx hb dX12_laysRows_114 (lv_at hl 6 rfl) ?_
    refine lv_icmp_ge (tgt := 204) hx hb dX12_laysRows_116 (by decide) (fun c23 => ?_) (fun c23 => ?_)
    · have hq := hq.1 c23
      exact hK_204 M x1 x2 x3 x4 x7 _ _ _ hq hh (lv_sub hl [0, 1, 2, 3, 4, 6] rfl)
    · have hq := hq.2 c23
      refine lv_aload_n hx hb dX12_laysRows_119 rfl (lv_at hl 0 rfl) ?_
      refine sy_get C hh (fun w h => mc (uZ_fX12 w h)) 0 (by decide) (oZ_0 Y) rfl 33 (by decide) (index := 76) (mc uZ_29) (v := .ref (Y.2.1 18)) rfl dX12_laysRows_120 ?_
      refine lv_iload hx hb dX12_laysRows_123 (lv_at hl 7 rfl) ?_
      refine lv_iload_n hx hb dX12_laysRows_125 rfl (lv_at hl 2 rfl) ?_
      refine lv_aload_n hx hb dX12_laysRows_126 rfl (lv_at hl 0 rfl) ?_
      refine sy_get C hh (fun w h => mc (uZ_fX12 w h)) 0 (by decide) (oZ_0 Y) rfl 37 (by decide) (index := 88) (mc uZ_33) (v := .ref (Y.2.1 22)) rfl dX12_laysRows_127 ?_
      refine lv_iload hx hb dX12_laysRows_130 (lv_at hl 7 rfl) ?_
      obtain ⟨n24, hn24, en24, hq⟩ := hq
      refine sy_iald C hh 22 (by decide) (aZ_22 Y) tZ_22 hn24 en24 (by decide) dX12_laysRows_132 ?_
      refine lv_iadd hx hb dX12_laysRows_133 ?_
      refine sy_iast C hh 18 (by decide) (aZ_18 Y) tZ_18 hn24 en24 (by decide) dX12_laysRows_134 (fun H locs hh => ?_)
      refine lv_aload_n hx hb dX12_laysRows_135 rfl (lv_at hl 0 rfl) ?_
      refine sy_get C hh (fun w h => mc (uZ_fX12 w h)) 0 (by decide) (oZ_0 Y) rfl 34 (by decide) (index := 79) (mc uZ_30) (v := .ref (Y.2.1 19)) rfl dX12_laysRows_136 ?_
      refine lv_iload hx hb dX12_laysRows_139 (lv_at hl 7 rfl) ?_
      refine lv_iload_n hx hb dX12_laysRows_141 rfl (lv_at hl 3 rfl) ?_
      refine lv_aload_n hx hb dX12_laysRows_142 rfl (lv_at hl 0 rfl) ?_
      refine sy_get C hh (fun w h => mc (uZ_fX12 w h)) 0 (by decide) (oZ_0 Y) rfl 39 (by decide) (index := 94) (mc uZ_35) (v := .ref (Y.2.1 24)) rfl dX12_laysRows_143 ?_
      refine lv_iload hx hb dX12_laysRows_146 (lv_at hl 5 rfl) ?_
      obtain ⟨n25, hn25, en25, hq⟩ := hq
      refine sy_iald C hh 24 (by decide) (aZ_24 Y) tZ_24 hn25 en25 (by decide) dX12_laysRows_148 ?_
      refine lv_iadd hx hb dX12_laysRows_149 ?_
      refine sy_iast C hh 19 (by decide) (aZ_19 Y) tZ_19 hn24 en24 (by decide) dX12_laysRows_150 (fun H locs hh => ?_)
      refine lv_aload_n hx hb dX12_laysRows_151 rfl (lv_at hl 0 rfl) ?_
      refine sy_get C hh (fun w h => mc (uZ_fX12 w h)) 0 (by decide) (oZ_0 Y) rfl 35 (by decide) (index := 82) (mc uZ_31) (v := .ref (Y.2.1 20)) rfl dX12_laysRows_152 ?_
      refine lv_iload hx hb dX12_laysRows_155 (lv_at hl 7 rfl) ?_
      refine lv_aload_n hx hb dX12_laysRows_157 rfl (lv_at hl 0 rfl) ?_
      refine lv_iload hx hb dX12_laysRows_158 (lv_at hl 4 rfl) ?_
      refine lv_iload hx hb dX12_laysRows_160 (lv_at hl 7 rfl) ?_
      refine lv_iload hx hb dX12_laysRows_162 (lv_at hl 6 rfl) ?_
      refine sy_cIV C hh (As := [.int x4, .int x8, .int x7]) (rest := [.int x8, .ref (Y.2.1 20)]) 0 (by decide) (oZ_0 Y) rfl (mX12_partEnd l Y _ (mu (mu M 18 n24 (x2 + (M 22 n24))) 19 n24 (x3 + (M 24 n25))) x4 x8 x7 _ hq) (cwV 3 C.1.2.2.2.2 (sy_goodV uZ_good uZ_213 uZ_214 uZ_215 uZ_55 uZ_207 _) rfl rfl rfl hdX12_partEnd ⟨Nat.le_of_ble_eq_true rfl, Nat.le_of_ble_eq_true rfl⟩) rfl hl.1 rfl (Nat.le_of_ble_eq_true rfl) dX12_laysRows_164 (fun r27 M26 H locs hq hh => ?_)
      refine lv_aload_n hx hb dX12_laysRows_167 rfl (lv_at hl 0 rfl) ?_
      refine sy_get C hh (fun w h => mc (uZ_fX12 w h)) 0 (by decide) (oZ_0 Y) rfl 37 (by decide) (index := 88) (mc uZ_33) (v := .ref (Y.2.1 22)) rfl dX12_laysRows_168 ?_
      refine lv_iload hx hb dX12_laysRows_171 (lv_at hl 7 rfl) ?_
      refine sy_iald C hh 22 (by decide) (aZ_22 Y) tZ_22 hn24 en24 (by decide) dX12_laysRows_173 ?_
      refine lv_isub hx hb dX12_laysRows_174 ?_
      refine sy_iast C hh 20 (by decide) (aZ_20 Y) tZ_20 hn24 en24 (by decide) dX12_laysRows_175 (fun H locs hh => ?_)
      refine lv_aload_n hx hb dX12_laysRows_176 rfl (lv_at hl 0 rfl) ?_
      refine sy_get C hh (fun w h => mc (uZ_fX12 w h)) 0 (by decide) (oZ_0 Y) rfl 36 (by decide) (index := 85) (mc uZ_32) (v := .ref (Y.2.1 21)) rfl dX12_laysRows_177 ?_
      refine lv_iload hx hb dX12_laysRows_180 (lv_at hl 7 rfl) ?_
      refine lv_aload_n hx hb dX12_laysRows_182 rfl (lv_at hl 0 rfl) ?_
      refine sy_get C hh (fun w h => mc (uZ_fX12 w h)) 0 (by decide) (oZ_0 Y) rfl 39 (by decide) (index := 94) (mc uZ_35) (v := .ref (Y.2.1 24)) rfl dX12_laysRows_183 ?_
      refine lv_iload hx hb dX12_laysRows_186 (lv_at hl 6 rfl) ?_
      obtain ⟨n28, hn28, en28, hq⟩ := hq
      refine sy_iald C hh 24 (by decide) (aZ_24 Y) tZ_24 hn28 en28 (by decide) dX12_laysRows_188 ?_
      refine lv_aload_n hx hb dX12_laysRows_189 rfl (lv_at hl 0 rfl) ?_
      refine sy_get C hh (fun w h => mc (uZ_fX12 w h)) 0 (by decide) (oZ_0 Y) rfl 39 (by decide) (index := 94) (mc uZ_35) (v := .ref (Y.2.1 24)) rfl dX12_laysRows_190 ?_
      refine lv_iload hx hb dX12_laysRows_193 (lv_at hl 5 rfl) ?_
      refine sy_iald C hh 24 (by decide) (aZ_24 Y) tZ_24 hn25 en25 (by decide) dX12_laysRows_195 ?_
      refine lv_isub hx hb dX12_laysRows_196 ?_
      refine sy_iast C hh 21 (by decide) (aZ_21 Y) tZ_21 hn24 en24 (by decide) dX12_laysRows_197 (fun H locs hh => ?_)
      refine lv_iinc (v := (x8 + (1 : Int32))) (lv' := [(8, .int (x8 + (1 : Int32))), (0, .ref (Y.2.1 0)), (1, .int x1), (2, .int x2), (3, .int x3), (4, .int x4), (6, .int x6), (7, .int x7)]) hx hb dX12_laysRows_198 hl (k := 7) rfl (sy_inc (by decide)) (by decide) rfl (fun ls hl => ?_)
      refine lv_goto (tgt := 112) hx hb dX12_laysRows_201 (by decide) ?_
      exact ih (mu (mu M26 20 n24 (r27 - (M26 22 n24))) 21 n24 ((M26 24 n28) - (M26 24 n25))) x1 x2 x3 x4 x6 x7 (x8 + (1 : Int32)) _ _ _ hq hh (lv_sub hl [1, 2, 3, 4, 5, 6, 7, 0] rfl)

set_option maxHeartbeats 4000000 in
set_option maxRecDepth 100000 in
theorem kX12_laysRows_98 (C : sy_C p m c cX12_laysRows 9 s args vsX12_laysRows RX12 meth none Y NZ tfZ) {Q : sy_M → Prop} {K_57 : sy_M → Int32 → Int32 → Int32 → Int32 → Int32 → Prop} (hK_57 : ∀ (M : sy_M) (x1 : Int32) (x2 : Int32) (x3 : Int32) (x4 : Int32) (x6 : Int32) (H : Heap) (locs : List Loc) (ls : Array Slot), K_57 M x1 x2 x3 x4 x6 → sy_H Y NZ EZ s H locs M → lv_has ls 9 [(0, .ref (Y.2.1 0)), (1, .int x1), (2, .int x2), (3, .int x3), (4, .int x4), (6, .int x6)] → W p l e ({ frames := 2, cells := 0, slots := 0, locals := 47 } : Room) s m args below meth c H locs 0 0 (sy_ZV below args s Y NZ EZ Q) (F0 m 57 ls [])) :
    ∀ (M : sy_M) (x1 : Int32) (x2 : Int32) (x3 : Int32) (x4 : Int32) (x6 : Int32) (x7 : Int32) (H : Heap) (locs : List Loc) (ls : Array Slot), wX12_laysRows_98 K_57 Q M x1 x2 x3 x4 x6 x7 → sy_H Y NZ EZ s H locs M → lv_has ls 9 [(0, .ref (Y.2.1 0)), (1, .int x1), (2, .int x2), (3, .int x3), (4, .int x4), (6, .int x6), (7, .int x7)] → W p l e ({ frames := 2, cells := 0, slots := 0, locals := 47 } : Room) s m args below meth c H locs 0 0 (sy_ZV below args s Y NZ EZ Q) (F0 m 98 ls []) := by
  have hx := C.1.1
  have hb := C.1.2.1
  intro M x1 x2 x3 x4 x6 x7 H locs ls hq hh hl
  unfold wX12_laysRows_98 at hq
  refine lv_aload_n hx hb dX12_laysRows_98 rfl (lv_at hl 0 rfl) ?_
  refine lv_iload hx hb dX12_laysRows_99 (lv_at hl 4 rfl) ?_
  refine lv_iload hx hb dX12_laysRows_101 (lv_at hl 5 rfl) ?_
  refine lv_iload hx hb dX12_laysRows_103 (lv_at hl 6 rfl) ?_
  refine sy_cVV C hh (As := [.int x4, .int x6, .int x7]) (rest := []) 0 (by decide) (oZ_0 Y) rfl (mX12_parts l Y _ M x4 x6 x7 _ hq) (cwV 3 C.1.2.2.2.2 (sy_goodV uZ_good uZ_210 uZ_211 uZ_212 uZ_55 uZ_203 _) rfl rfl rfl hdX12_parts ⟨Nat.le_of_ble_eq_true rfl, Nat.le_of_ble_eq_true rfl⟩) rfl hl.1 rfl (Nat.le_of_ble_eq_true rfl) dX12_laysRows_105 (fun M22 H locs hq hh => ?_)
  refine lv_iload hx hb dX12_laysRows_108 (lv_at hl 5 rfl) ?_
  refine lv_istore (lv' := [(8, .int x6), (0, .ref (Y.2.1 0)), (1, .int x1), (2, .int x2), (3, .int x3), (4, .int x4), (6, .int x6), (7, .int x7)]) hx hb dX12_laysRows_110 hl (by decide) rfl (fun ls hl => ?_)
  obtain ⟨n35, hq⟩ := hq
  refine kX12_laysRows_112 C (fun M29 x1_30 x2_31 x3_32 x4_33 x7_34 H locs ls hq hh hl => ?_) n35 M22 x1 x2 x3 x4 x6 x7 x6 _ _ _ hq hh (lv_sub hl [1, 2, 3, 4, 5, 6, 7, 0] rfl)
  · refine lv_iload hx hb dX12_laysRows_204 (lv_at hl 5 rfl) ?_
    refine lv_istore (lv' := [(6, .int x7_34), (0, .ref (Y.2.1 0)), (1, .int x1_30), (2, .int x2_31), (3, .int x3_32), (4, .int x4_33), (7, .int x7_34)]) hx hb dX12_laysRows_206 hl (by decide) rfl (fun ls hl => ?_)
    refine lv_goto (tgt := 57) hx hb dX12_laysRows_208 (by decide) ?_
    exact hK_57 M29 x1_30 x2_31 x3_32 x4_33 x7_34 _ _ _ hq hh (lv_sub hl [1, 2, 3, 4, 5, 0] rfl)

set_option maxHeartbeats 4000000 in
set_option maxRecDepth 100000 in
theorem kX12_laysRows_57 (C : sy_C p m c cX12_laysRows 9 s args vsX12_laysRows RX12 meth none Y NZ tfZ) {Q : sy_M → Prop} :
    ∀ (n : Nat) (M : sy_M) (x1 : Int32) (x2 : Int32) (x3 : Int32) (x4 : Int32) (x6 : Int32) (H : Heap) (locs : List Loc) (ls : Array Slot), wX12_laysRows_57 Q n M x1 x2 x3 x4 x6 → sy_H Y NZ EZ s H locs M → lv_has ls 9 [(0, .ref (Y.2.1 0)), (1, .int x1), (2, .int x2), (3, .int x3), (4, .int x4), (6, .int x6)] → W p l e ({ frames := 2, cells := 0, slots := 0, locals := 47 } : Room) s m args below meth c H locs 0 0 (sy_ZV below args s Y NZ EZ Q) (F0 m 57 ls []) := by
  have hx := C.1.1
  have hb := C.1.2.1
  intro n
  induction n with
  | zero =>
    intro M x1 x2 x3 x4 x6 H locs ls hq hh hl
    unfold wX12_laysRows_57 at hq
    exact hq.elim
  | succ n ih =>
    intro M x1 x2 x3 x4 x6 H locs ls hq hh hl
    unfold wX12_laysRows_57 at hq
    refine lv_iload hx hb dX12_laysRows_57 (lv_at hl 5 rfl) ?_
    refine lv_aload_n hx hb dX12_laysRows_59 rfl (lv_at hl 0 rfl) ?_
    refine sy_get C hh (fun w h => mc (uZ_fX12 w h)) 0 (by decide) (oZ_0 Y) rfl 30 (by decide) (index := 261) (mc uZ_195) (v := .int (M 0 30)) rfl dX12_laysRows_60 ?_
    refine lv_icmp_ge (tgt := 211) hx hb dX12_laysRows_63 (by decide) (fun c12 => ?_) (fun c12 => ?_)
    · have hq := hq.1 c12
      exact sy_vret C hh dX12_laysRows_211 hq
    · have hq := hq.2 c12
      refine lv_iload hx hb dX12_laysRows_66 (lv_at hl 5 rfl) ?_
      refine lv_iconst (v := (1 : Int32)) hx hb dX12_laysRows_68 (by decide) ?_
      refine lv_iadd hx hb dX12_laysRows_69 ?_
      refine lv_istore (lv' := [(7, .int (x6 + (1 : Int32))), (0, .ref (Y.2.1 0)), (1, .int x1), (2, .int x2), (3, .int x3), (4, .int x4), (6, .int x6)]) hx hb dX12_laysRows_70 hl (by decide) rfl (fun ls hl => ?_)
      obtain ⟨n42, hq⟩ := hq
      refine kX12_laysRows_72 C (fun M15 x1_16 x2_17 x3_18 x4_19 x6_20 x7_21 H locs ls hq hh hl => ?_) n42 M x1 x2 x3 x4 x6 (x6 + (1 : Int32)) _ _ _ hq hh (lv_sub hl [1, 2, 3, 4, 5, 6, 0] rfl)
      · refine kX12_laysRows_98 C (fun M36 x1_37 x2_38 x3_39 x4_40 x6_41 H locs ls hq hh hl => ?_) M15 x1_16 x2_17 x3_18 x4_19 x6_20 x7_21 _ _ _ hq hh (lv_sub hl [0, 1, 2, 3, 4, 5, 6] rfl)
        · exact ih M36 x1_37 x2_38 x3_39 x4_40 x6_41 _ _ _ hq hh (lv_sub hl [0, 1, 2, 3, 4, 5] rfl)

end
set_option maxHeartbeats 4000000 in
set_option maxRecDepth 100000 in
theorem mX12_laysRows (l : Launch) (Y : sy_Y) (sz : Nat) (M : sy_M) (a1 : Int32) (a2 : Int32) (a3 : Int32) (a4 : Int32) (a5 : Int32) (Q : sy_M → Prop) (hq : wX12_laysRows M a1 a2 a3 a4 a5 Q) : Met l yX12_laysRows vsX12_laysRows ({ frames := 2, cells := 0, slots := 0, locals := 47 } : Room) (va_Pc [.ref (Y.2.1 0), .int a1, .int a2, .int a3, .int a4, .int a5] (sy_pre Y NZ EZ tfZ sz M)) (sy_QV Y NZ EZ sz Q) 0 0 (sy_A NZ Y.2.1 sz) := by
  refine sy_metV (by decide) rfl (Nat.le_of_ble_eq_true rfl) ?_
  intro p e s m args below meth c C ls hl hh
  have hx := C.1.1
  have hb := C.1.2.1
  have hl : lv_has ls 9 [(0, .ref (Y.2.1 0)), (1, .int a1), (2, .int a2), (3, .int a3), (4, .int a4), (5, .int a5)] := hl
  unfold wX12_laysRows at hq
  refine lv_aload_n hx hb dX12_laysRows_0 rfl (lv_at hl 0 rfl) ?_
  refine lv_iload hx hb dX12_laysRows_1 (lv_at hl 5 rfl) ?_
  refine lv_iconst (v := (0 : Int32)) hx hb dX12_laysRows_3 (by decide) ?_
  refine lv_aload_n hx hb dX12_laysRows_4 rfl (lv_at hl 0 rfl) ?_
  refine sy_get C hh (fun w h => mc (uZ_fX12 w h)) 0 (by decide) (oZ_0 Y) rfl 30 (by decide) (index := 261) (mc uZ_195) (v := .int (M 0 30)) rfl dX12_laysRows_5 ?_
  refine sy_cVV C hh (As := [.int a5, .int (0 : Int32), .int (M 0 30)]) (rest := []) 0 (by decide) (oZ_0 Y) rfl (mX12_parts l Y _ M a5 (0 : Int32) (M 0 30) _ hq) (cwV 3 C.1.2.2.2.2 (sy_goodV uZ_good uZ_210 uZ_211 uZ_212 uZ_55 uZ_203 _) rfl rfl rfl hdX12_parts ⟨Nat.le_of_ble_eq_true rfl, Nat.le_of_ble_eq_true rfl⟩) rfl hl.1 rfl (Nat.le_of_ble_eq_true rfl) dX12_laysRows_8 (fun M1 H locs hq hh => ?_)
  refine lv_iconst (v := (0 : Int32)) hx hb dX12_laysRows_11 (by decide) ?_
  refine lv_istore (lv' := [(6, .int (0 : Int32)), (0, .ref (Y.2.1 0)), (1, .int a1), (2, .int a2), (3, .int a3), (4, .int a4), (5, .int a5)]) hx hb dX12_laysRows_12 hl (by decide) rfl (fun ls hl => ?_)
  obtain ⟨n44, hq⟩ := hq
  refine kX12_laysRows_14 C (fun M5 x1_6 x2_7 x3_8 x4_9 x5_10 H locs ls hq hh hl => ?_) n44 M1 a1 a2 a3 a4 a5 (0 : Int32) _ _ _ hq hh (lv_sub hl [1, 2, 3, 4, 5, 6, 0] rfl)
  · refine lv_aload_n hx hb dX12_laysRows_43 rfl (lv_at hl 0 rfl) ?_
    refine sy_get C hh (fun w h => mc (uZ_fX12 w h)) 0 (by decide) (oZ_0 Y) rfl 39 (by decide) (index := 94) (mc uZ_35) (v := .ref (Y.2.1 24)) rfl dX12_laysRows_44 ?_
    refine lv_aload_n hx hb dX12_laysRows_47 rfl (lv_at hl 0 rfl) ?_
    refine sy_get C hh (fun w h => mc (uZ_fX12 w h)) 0 (by decide) (oZ_0 Y) rfl 30 (by decide) (index := 261) (mc uZ_195) (v := .int (M5 0 30)) rfl dX12_laysRows_48 ?_
    refine lv_iload hx hb dX12_laysRows_51 (lv_at hl 5 rfl) ?_
    obtain ⟨n11, hn11, en11, hq⟩ := hq
    refine sy_iast C hh 24 (by decide) (aZ_24 Y) tZ_24 hn11 en11 (by decide) dX12_laysRows_53 (fun H locs hh => ?_)
    refine lv_iconst (v := (0 : Int32)) hx hb dX12_laysRows_54 (by decide) ?_
    refine lv_istore (lv' := [(6, .int (0 : Int32)), (0, .ref (Y.2.1 0)), (1, .int x1_6), (2, .int x2_7), (3, .int x3_8), (4, .int x4_9), (5, .int x5_10)]) hx hb dX12_laysRows_55 hl (by decide) rfl (fun ls hl => ?_)
    obtain ⟨n43, hq⟩ := hq
    refine kX12_laysRows_57 C  n43 (mu M5 24 n11 x5_10) x1_6 x2_7 x3_8 x4_9 (0 : Int32) _ _ _ hq hh (lv_sub hl [1, 2, 3, 4, 5, 0] rfl)

/-! java/lang/Integer.bitCount(I)I -/
def wJ6_bitCount_0f7a4 (M : sy_M) (a1 : Int32) (Q : Int32 → sy_M → Prop) : Prop := Q ((((((((a1 - (((a1.toUInt32 >>> ((1 : Int32).toUInt32 &&& Int32.toUInt32 31)).toInt32) &&& (nI 1431655765))) &&& (nI 858993459)) + ((((a1 - (((a1.toUInt32 >>> ((1 : Int32).toUInt32 &&& Int32.toUInt32 31)).toInt32) &&& (nI 1431655765))).toUInt32 >>> ((nI 2).toUInt32 &&& Int32.toUInt32 31)).toInt32) &&& (nI 858993459))) + (((((a1 - (((a1.toUInt32 >>> ((1 : Int32).toUInt32 &&& Int32.toUInt32 31)).toInt32) &&& (nI 1431655765))) &&& (nI 858993459)) + ((((a1 - (((a1.toUInt32 >>> ((1 : Int32).toUInt32 &&& Int32.toUInt32 31)).toInt32) &&& (nI 1431655765))).toUInt32 >>> ((nI 2).toUInt32 &&& Int32.toUInt32 31)).toInt32) &&& (nI 858993459))).toUInt32 >>> ((nI 4).toUInt32 &&& Int32.toUInt32 31)).toInt32)) &&& (nI 252645135)) + (((((((a1 - (((a1.toUInt32 >>> ((1 : Int32).toUInt32 &&& Int32.toUInt32 31)).toInt32) &&& (nI 1431655765))) &&& (nI 858993459)) + ((((a1 - (((a1.toUInt32 >>> ((1 : Int32).toUInt32 &&& Int32.toUInt32 31)).toInt32) &&& (nI 1431655765))).toUInt32 >>> ((nI 2).toUInt32 &&& Int32.toUInt32 31)).toInt32) &&& (nI 858993459))) + (((((a1 - (((a1.toUInt32 >>> ((1 : Int32).toUInt32 &&& Int32.toUInt32 31)).toInt32) &&& (nI 1431655765))) &&& (nI 858993459)) + ((((a1 - (((a1.toUInt32 >>> ((1 : Int32).toUInt32 &&& Int32.toUInt32 31)).toInt32) &&& (nI 1431655765))).toUInt32 >>> ((nI 2).toUInt32 &&& Int32.toUInt32 31)).toInt32) &&& (nI 858993459))).toUInt32 >>> ((nI 4).toUInt32 &&& Int32.toUInt32 31)).toInt32)) &&& (nI 252645135)).toUInt32 >>> ((nI 8).toUInt32 &&& Int32.toUInt32 31)).toInt32)) + ((((((((a1 - (((a1.toUInt32 >>> ((1 : Int32).toUInt32 &&& Int32.toUInt32 31)).toInt32) &&& (nI 1431655765))) &&& (nI 858993459)) + ((((a1 - (((a1.toUInt32 >>> ((1 : Int32).toUInt32 &&& Int32.toUInt32 31)).toInt32) &&& (nI 1431655765))).toUInt32 >>> ((nI 2).toUInt32 &&& Int32.toUInt32 31)).toInt32) &&& (nI 858993459))) + (((((a1 - (((a1.toUInt32 >>> ((1 : Int32).toUInt32 &&& Int32.toUInt32 31)).toInt32) &&& (nI 1431655765))) &&& (nI 858993459)) + ((((a1 - (((a1.toUInt32 >>> ((1 : Int32).toUInt32 &&& Int32.toUInt32 31)).toInt32) &&& (nI 1431655765))).toUInt32 >>> ((nI 2).toUInt32 &&& Int32.toUInt32 31)).toInt32) &&& (nI 858993459))).toUInt32 >>> ((nI 4).toUInt32 &&& Int32.toUInt32 31)).toInt32)) &&& (nI 252645135)) + (((((((a1 - (((a1.toUInt32 >>> ((1 : Int32).toUInt32 &&& Int32.toUInt32 31)).toInt32) &&& (nI 1431655765))) &&& (nI 858993459)) + ((((a1 - (((a1.toUInt32 >>> ((1 : Int32).toUInt32 &&& Int32.toUInt32 31)).toInt32) &&& (nI 1431655765))).toUInt32 >>> ((nI 2).toUInt32 &&& Int32.toUInt32 31)).toInt32) &&& (nI 858993459))) + (((((a1 - (((a1.toUInt32 >>> ((1 : Int32).toUInt32 &&& Int32.toUInt32 31)).toInt32) &&& (nI 1431655765))) &&& (nI 858993459)) + ((((a1 - (((a1.toUInt32 >>> ((1 : Int32).toUInt32 &&& Int32.toUInt32 31)).toInt32) &&& (nI 1431655765))).toUInt32 >>> ((nI 2).toUInt32 &&& Int32.toUInt32 31)).toInt32) &&& (nI 858993459))).toUInt32 >>> ((nI 4).toUInt32 &&& Int32.toUInt32 31)).toInt32)) &&& (nI 252645135)).toUInt32 >>> ((nI 8).toUInt32 &&& Int32.toUInt32 31)).toInt32)).toUInt32 >>> ((nI 16).toUInt32 &&& Int32.toUInt32 31)).toInt32)) &&& (nI 63)) M
section
variable {p : Program} {l : Launch} {e : Env} {s : State} {m : MethodId} {args : Array Value} {below : List Frame} {meth : Method} {c : Code} {Y : sy_Y}
end
set_option maxHeartbeats 4000000 in
set_option maxRecDepth 100000 in
theorem mJ6_bitCount_0f7a4 (l : Launch) (Y : sy_Y) (sz : Nat) (M : sy_M) (a1 : Int32) (Q : Int32 → sy_M → Prop) (hq : wJ6_bitCount_0f7a4 M a1 Q) : Met l yJ6_bitCount_0f7a4 vsJ6_bitCount_0f7a4 ({ frames := 0, cells := 0, slots := 0, locals := 0 } : Room) (va_Pc [.int a1] (sy_pre Y NZ EZ tfZ sz M)) (sy_QI Y NZ EZ sz Q) 0 0 (sy_A NZ Y.2.1 sz) := by
  refine sy_metI (by decide) rfl (Nat.le_of_ble_eq_true rfl) ?_
  intro p e s m args below meth c C ls hl hh
  have hx := C.1.1
  have hb := C.1.2.1
  have hl : lv_has ls 1 [(0, .int a1)] := hl
  unfold wJ6_bitCount_0f7a4 at hq
  refine lv_iload_n hx hb dJ6_bitCount_0f7a4_0 rfl (lv_at hl 0 rfl) ?_
  refine lv_iload_n hx hb dJ6_bitCount_0f7a4_1 rfl (lv_at hl 0 rfl) ?_
  refine lv_iconst (v := (1 : Int32)) hx hb dJ6_bitCount_0f7a4_2 (by decide) ?_
  refine lv_iushr (v := ((a1.toUInt32 >>> ((1 : Int32).toUInt32 &&& Int32.toUInt32 31)).toInt32)) hx hb dJ6_bitCount_0f7a4_3 rfl ?_
  refine lv_ldcw (v := (nI 1431655765)) hx hb C.1.2.2.2.1 (C.1.2.2.2.2 (.constant RJ6 265 (nI 1431655765)) (mc uZ_222)) dJ6_bitCount_0f7a4_4 ?_
  refine lv_iand hx hb dJ6_bitCount_0f7a4_7 ?_
  refine lv_isub hx hb dJ6_bitCount_0f7a4_8 ?_
  refine lv_istore_n (lv' := [(0, .int (a1 - (((a1.toUInt32 >>> ((1 : Int32).toUInt32 &&& Int32.toUInt32 31)).toInt32) &&& (nI 1431655765))))]) hx hb dJ6_bitCount_0f7a4_9 rfl hl (by decide) rfl (fun ls hl => ?_)
  refine lv_iload_n hx hb dJ6_bitCount_0f7a4_10 rfl (lv_at hl 0 rfl) ?_
  refine lv_ldcw (v := (nI 858993459)) hx hb C.1.2.2.2.1 (C.1.2.2.2.2 (.constant RJ6 266 (nI 858993459)) (mc uZ_223)) dJ6_bitCount_0f7a4_11 ?_
  refine lv_iand hx hb dJ6_bitCount_0f7a4_14 ?_
  refine lv_iload_n hx hb dJ6_bitCount_0f7a4_15 rfl (lv_at hl 0 rfl) ?_
  refine lv_iconst (v := (nI 2)) hx hb dJ6_bitCount_0f7a4_16 (by decide) ?_
  refine lv_iushr (v := (((a1 - (((a1.toUInt32 >>> ((1 : Int32).toUInt32 &&& Int32.toUInt32 31)).toInt32) &&& (nI 1431655765))).toUInt32 >>> ((nI 2).toUInt32 &&& Int32.toUInt32 31)).toInt32)) hx hb dJ6_bitCount_0f7a4_17 rfl ?_
  refine lv_ldcw (v := (nI 858993459)) hx hb C.1.2.2.2.1 (C.1.2.2.2.2 (.constant RJ6 266 (nI 858993459)) (mc uZ_223)) dJ6_bitCount_0f7a4_18 ?_
  refine lv_iand hx hb dJ6_bitCount_0f7a4_21 ?_
  refine lv_iadd hx hb dJ6_bitCount_0f7a4_22 ?_
  refine lv_istore_n (lv' := [(0, .int (((a1 - (((a1.toUInt32 >>> ((1 : Int32).toUInt32 &&& Int32.toUInt32 31)).toInt32) &&& (nI 1431655765))) &&& (nI 858993459)) + ((((a1 - (((a1.toUInt32 >>> ((1 : Int32).toUInt32 &&& Int32.toUInt32 31)).toInt32) &&& (nI 1431655765))).toUInt32 >>> ((nI 2).toUInt32 &&& Int32.toUInt32 31)).toInt32) &&& (nI 858993459))))]) hx hb dJ6_bitCount_0f7a4_23 rfl hl (by decide) rfl (fun ls hl => ?_)
  refine lv_iload_n hx hb dJ6_bitCount_0f7a4_24 rfl (lv_at hl 0 rfl) ?_
  refine lv_iload_n hx hb dJ6_bitCount_0f7a4_25 rfl (lv_at hl 0 rfl) ?_
  refine lv_iconst (v := (nI 4)) hx hb dJ6_bitCount_0f7a4_26 (by decide) ?_
  refine lv_iushr (v := (((((a1 - (((a1.toUInt32 >>> ((1 : Int32).toUInt32 &&& Int32.toUInt32 31)).toInt32) &&& (nI 1431655765))) &&& (nI 858993459)) + ((((a1 - (((a1.toUInt32 >>> ((1 : Int32).toUInt32 &&& Int32.toUInt32 31)).toInt32) &&& (nI 1431655765))).toUInt32 >>> ((nI 2).toUInt32 &&& Int32.toUInt32 31)).toInt32) &&& (nI 858993459))).toUInt32 >>> ((nI 4).toUInt32 &&& Int32.toUInt32 31)).toInt32)) hx hb dJ6_bitCount_0f7a4_27 rfl ?_
  refine lv_iadd hx hb dJ6_bitCount_0f7a4_28 ?_
  refine lv_ldcw (v := (nI 252645135)) hx hb C.1.2.2.2.1 (C.1.2.2.2.2 (.constant RJ6 267 (nI 252645135)) (mc uZ_224)) dJ6_bitCount_0f7a4_29 ?_
  refine lv_iand hx hb dJ6_bitCount_0f7a4_32 ?_
  refine lv_istore_n (lv' := [(0, .int (((((a1 - (((a1.toUInt32 >>> ((1 : Int32).toUInt32 &&& Int32.toUInt32 31)).toInt32) &&& (nI 1431655765))) &&& (nI 858993459)) + ((((a1 - (((a1.toUInt32 >>> ((1 : Int32).toUInt32 &&& Int32.toUInt32 31)).toInt32) &&& (nI 1431655765))).toUInt32 >>> ((nI 2).toUInt32 &&& Int32.toUInt32 31)).toInt32) &&& (nI 858993459))) + (((((a1 - (((a1.toUInt32 >>> ((1 : Int32).toUInt32 &&& Int32.toUInt32 31)).toInt32) &&& (nI 1431655765))) &&& (nI 858993459)) + ((((a1 - (((a1.toUInt32 >>> ((1 : Int32).toUInt32 &&& Int32.toUInt32 31)).toInt32) &&& (nI 1431655765))).toUInt32 >>> ((nI 2).toUInt32 &&& Int32.toUInt32 31)).toInt32) &&& (nI 858993459))).toUInt32 >>> ((nI 4).toUInt32 &&& Int32.toUInt32 31)).toInt32)) &&& (nI 252645135)))]) hx hb dJ6_bitCount_0f7a4_33 rfl hl (by decide) rfl (fun ls hl => ?_)
  refine lv_iload_n hx hb dJ6_bitCount_0f7a4_34 rfl (lv_at hl 0 rfl) ?_
  refine lv_iload_n hx hb dJ6_bitCount_0f7a4_35 rfl (lv_at hl 0 rfl) ?_
  refine lv_bipush (v := (nI 8)) hx hb dJ6_bitCount_0f7a4_36 (by decide) ?_
  refine lv_iushr (v := (((((((a1 - (((a1.toUInt32 >>> ((1 : Int32).toUInt32 &&& Int32.toUInt32 31)).toInt32) &&& (nI 1431655765))) &&& (nI 858993459)) + ((((a1 - (((a1.toUInt32 >>> ((1 : Int32).toUInt32 &&& Int32.toUInt32 31)).toInt32) &&& (nI 1431655765))).toUInt32 >>> ((nI 2).toUInt32 &&& Int32.toUInt32 31)).toInt32) &&& (nI 858993459))) + (((((a1 - (((a1.toUInt32 >>> ((1 : Int32).toUInt32 &&& Int32.toUInt32 31)).toInt32) &&& (nI 1431655765))) &&& (nI 858993459)) + ((((a1 - (((a1.toUInt32 >>> ((1 : Int32).toUInt32 &&& Int32.toUInt32 31)).toInt32) &&& (nI 1431655765))).toUInt32 >>> ((nI 2).toUInt32 &&& Int32.toUInt32 31)).toInt32) &&& (nI 858993459))).toUInt32 >>> ((nI 4).toUInt32 &&& Int32.toUInt32 31)).toInt32)) &&& (nI 252645135)).toUInt32 >>> ((nI 8).toUInt32 &&& Int32.toUInt32 31)).toInt32)) hx hb dJ6_bitCount_0f7a4_38 rfl ?_
  refine lv_iadd hx hb dJ6_bitCount_0f7a4_39 ?_
  refine lv_istore_n (lv' := [(0, .int ((((((a1 - (((a1.toUInt32 >>> ((1 : Int32).toUInt32 &&& Int32.toUInt32 31)).toInt32) &&& (nI 1431655765))) &&& (nI 858993459)) + ((((a1 - (((a1.toUInt32 >>> ((1 : Int32).toUInt32 &&& Int32.toUInt32 31)).toInt32) &&& (nI 1431655765))).toUInt32 >>> ((nI 2).toUInt32 &&& Int32.toUInt32 31)).toInt32) &&& (nI 858993459))) + (((((a1 - (((a1.toUInt32 >>> ((1 : Int32).toUInt32 &&& Int32.toUInt32 31)).toInt32) &&& (nI 1431655765))) &&& (nI 858993459)) + ((((a1 - (((a1.toUInt32 >>> ((1 : Int32).toUInt32 &&& Int32.toUInt32 31)).toInt32) &&& (nI 1431655765))).toUInt32 >>> ((nI 2).toUInt32 &&& Int32.toUInt32 31)).toInt32) &&& (nI 858993459))).toUInt32 >>> ((nI 4).toUInt32 &&& Int32.toUInt32 31)).toInt32)) &&& (nI 252645135)) + (((((((a1 - (((a1.toUInt32 >>> ((1 : Int32).toUInt32 &&& Int32.toUInt32 31)).toInt32) &&& (nI 1431655765))) &&& (nI 858993459)) + ((((a1 - (((a1.toUInt32 >>> ((1 : Int32).toUInt32 &&& Int32.toUInt32 31)).toInt32) &&& (nI 1431655765))).toUInt32 >>> ((nI 2).toUInt32 &&& Int32.toUInt32 31)).toInt32) &&& (nI 858993459))) + (((((a1 - (((a1.toUInt32 >>> ((1 : Int32).toUInt32 &&& Int32.toUInt32 31)).toInt32) &&& (nI 1431655765))) &&& (nI 858993459)) + ((((a1 - (((a1.toUInt32 >>> ((1 : Int32).toUInt32 &&& Int32.toUInt32 31)).toInt32) &&& (nI 1431655765))).toUInt32 >>> ((nI 2).toUInt32 &&& Int32.toUInt32 31)).toInt32) &&& (nI 858993459))).toUInt32 >>> ((nI 4).toUInt32 &&& Int32.toUInt32 31)).toInt32)) &&& (nI 252645135)).toUInt32 >>> ((nI 8).toUInt32 &&& Int32.toUInt32 31)).toInt32)))]) hx hb dJ6_bitCount_0f7a4_40 rfl hl (by decide) rfl (fun ls hl => ?_)
  refine lv_iload_n hx hb dJ6_bitCount_0f7a4_41 rfl (lv_at hl 0 rfl) ?_
  refine lv_iload_n hx hb dJ6_bitCount_0f7a4_42 rfl (lv_at hl 0 rfl) ?_
  refine lv_bipush (v := (nI 16)) hx hb dJ6_bitCount_0f7a4_43 (by decide) ?_
  refine lv_iushr (v := ((((((((a1 - (((a1.toUInt32 >>> ((1 : Int32).toUInt32 &&& Int32.toUInt32 31)).toInt32) &&& (nI 1431655765))) &&& (nI 858993459)) + ((((a1 - (((a1.toUInt32 >>> ((1 : Int32).toUInt32 &&& Int32.toUInt32 31)).toInt32) &&& (nI 1431655765))).toUInt32 >>> ((nI 2).toUInt32 &&& Int32.toUInt32 31)).toInt32) &&& (nI 858993459))) + (((((a1 - (((a1.toUInt32 >>> ((1 : Int32).toUInt32 &&& Int32.toUInt32 31)).toInt32) &&& (nI 1431655765))) &&& (nI 858993459)) + ((((a1 - (((a1.toUInt32 >>> ((1 : Int32).toUInt32 &&& Int32.toUInt32 31)).toInt32) &&& (nI 1431655765))).toUInt32 >>> ((nI 2).toUInt32 &&& Int32.toUInt32 31)).toInt32) &&& (nI 858993459))).toUInt32 >>> ((nI 4).toUInt32 &&& Int32.toUInt32 31)).toInt32)) &&& (nI 252645135)) + (((((((a1 - (((a1.toUInt32 >>> ((1 : Int32).toUInt32 &&& Int32.toUInt32 31)).toInt32) &&& (nI 1431655765))) &&& (nI 858993459)) + ((((a1 - (((a1.toUInt32 >>> ((1 : Int32).toUInt32 &&& Int32.toUInt32 31)).toInt32) &&& (nI 1431655765))).toUInt32 >>> ((nI 2).toUInt32 &&& Int32.toUInt32 31)).toInt32) &&& (nI 858993459))) + (((((a1 - (((a1.toUInt32 >>> ((1 : Int32).toUInt32 &&& Int32.toUInt32 31)).toInt32) &&& (nI 1431655765))) &&& (nI 858993459)) + ((((a1 - (((a1.toUInt32 >>> ((1 : Int32).toUInt32 &&& Int32.toUInt32 31)).toInt32) &&& (nI 1431655765))).toUInt32 >>> ((nI 2).toUInt32 &&& Int32.toUInt32 31)).toInt32) &&& (nI 858993459))).toUInt32 >>> ((nI 4).toUInt32 &&& Int32.toUInt32 31)).toInt32)) &&& (nI 252645135)).toUInt32 >>> ((nI 8).toUInt32 &&& Int32.toUInt32 31)).toInt32)).toUInt32 >>> ((nI 16).toUInt32 &&& Int32.toUInt32 31)).toInt32)) hx hb dJ6_bitCount_0f7a4_45 rfl ?_
  refine lv_iadd hx hb dJ6_bitCount_0f7a4_46 ?_
  refine lv_istore_n (lv' := [(0, .int (((((((a1 - (((a1.toUInt32 >>> ((1 : Int32).toUInt32 &&& Int32.toUInt32 31)).toInt32) &&& (nI 1431655765))) &&& (nI 858993459)) + ((((a1 - (((a1.toUInt32 >>> ((1 : Int32).toUInt32 &&& Int32.toUInt32 31)).toInt32) &&& (nI 1431655765))).toUInt32 >>> ((nI 2).toUInt32 &&& Int32.toUInt32 31)).toInt32) &&& (nI 858993459))) + (((((a1 - (((a1.toUInt32 >>> ((1 : Int32).toUInt32 &&& Int32.toUInt32 31)).toInt32) &&& (nI 1431655765))) &&& (nI 858993459)) + ((((a1 - (((a1.toUInt32 >>> ((1 : Int32).toUInt32 &&& Int32.toUInt32 31)).toInt32) &&& (nI 1431655765))).toUInt32 >>> ((nI 2).toUInt32 &&& Int32.toUInt32 31)).toInt32) &&& (nI 858993459))).toUInt32 >>> ((nI 4).toUInt32 &&& Int32.toUInt32 31)).toInt32)) &&& (nI 252645135)) + (((((((a1 - (((a1.toUInt32 >>> ((1 : Int32).toUInt32 &&& Int32.toUInt32 31)).toInt32) &&& (nI 1431655765))) &&& (nI 858993459)) + ((((a1 - (((a1.toUInt32 >>> ((1 : Int32).toUInt32 &&& Int32.toUInt32 31)).toInt32) &&& (nI 1431655765))).toUInt32 >>> ((nI 2).toUInt32 &&& Int32.toUInt32 31)).toInt32) &&& (nI 858993459))) + (((((a1 - (((a1.toUInt32 >>> ((1 : Int32).toUInt32 &&& Int32.toUInt32 31)).toInt32) &&& (nI 1431655765))) &&& (nI 858993459)) + ((((a1 - (((a1.toUInt32 >>> ((1 : Int32).toUInt32 &&& Int32.toUInt32 31)).toInt32) &&& (nI 1431655765))).toUInt32 >>> ((nI 2).toUInt32 &&& Int32.toUInt32 31)).toInt32) &&& (nI 858993459))).toUInt32 >>> ((nI 4).toUInt32 &&& Int32.toUInt32 31)).toInt32)) &&& (nI 252645135)).toUInt32 >>> ((nI 8).toUInt32 &&& Int32.toUInt32 31)).toInt32)) + ((((((((a1 - (((a1.toUInt32 >>> ((1 : Int32).toUInt32 &&& Int32.toUInt32 31)).toInt32) &&& (nI 1431655765))) &&& (nI 858993459)) + ((((a1 - (((a1.toUInt32 >>> ((1 : Int32).toUInt32 &&& Int32.toUInt32 31)).toInt32) &&& (nI 1431655765))).toUInt32 >>> ((nI 2).toUInt32 &&& Int32.toUInt32 31)).toInt32) &&& (nI 858993459))) + (((((a1 - (((a1.toUInt32 >>> ((1 : Int32).toUInt32 &&& Int32.toUInt32 31)).toInt32) &&& (nI 1431655765))) &&& (nI 858993459)) + ((((a1 - (((a1.toUInt32 >>> ((1 : Int32).toUInt32 &&& Int32.toUInt32 31)).toInt32) &&& (nI 1431655765))).toUInt32 >>> ((nI 2).toUInt32 &&& Int32.toUInt32 31)).toInt32) &&& (nI 858993459))).toUInt32 >>> ((nI 4).toUInt32 &&& Int32.toUInt32 31)).toInt32)) &&& (nI 252645135)) + (((((((a1 - (((a1.toUInt32 >>> ((1 : Int32).toUInt32 &&& Int32.toUInt32 31)).toInt32) &&& (nI 1431655765))) &&& (nI 858993459)) + ((((a1 - (((a1.toUInt32 >>> ((1 : Int32).toUInt32 &&& Int32.toUInt32 31)).toInt32) &&& (nI 1431655765))).toUInt32 >>> ((nI 2).toUInt32 &&& Int32.toUInt32 31)).toInt32) &&& (nI 858993459))) + (((((a1 - (((a1.toUInt32 >>> ((1 : Int32).toUInt32 &&& Int32.toUInt32 31)).toInt32) &&& (nI 1431655765))) &&& (nI 858993459)) + ((((a1 - (((a1.toUInt32 >>> ((1 : Int32).toUInt32 &&& Int32.toUInt32 31)).toInt32) &&& (nI 1431655765))).toUInt32 >>> ((nI 2).toUInt32 &&& Int32.toUInt32 31)).toInt32) &&& (nI 858993459))).toUInt32 >>> ((nI 4).toUInt32 &&& Int32.toUInt32 31)).toInt32)) &&& (nI 252645135)).toUInt32 >>> ((nI 8).toUInt32 &&& Int32.toUInt32 31)).toInt32)).toUInt32 >>> ((nI 16).toUInt32 &&& Int32.toUInt32 31)).toInt32)))]) hx hb dJ6_bitCount_0f7a4_47 rfl hl (by decide) rfl (fun ls hl => ?_)
  refine lv_iload_n hx hb dJ6_bitCount_0f7a4_48 rfl (lv_at hl 0 rfl) ?_
  refine lv_bipush (v := (nI 63)) hx hb dJ6_bitCount_0f7a4_49 (by decide) ?_
  refine lv_iand hx hb dJ6_bitCount_0f7a4_51 ?_
  exact sy_iret C hh dJ6_bitCount_0f7a4_52 hq

