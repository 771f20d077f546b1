/-! AreaSetterModel.isAhead(II)Z -/
def wX12_isAhead_27 (K_55 : sy_M → Int32 → Int32 → Prop) (Q : Int32 → sy_M → Prop) : Nat → sy_M → Int32 → Int32 → Int32 → Prop
  | 0, _, _, _, _ => False
  | n + 1, M, x1, x2, x4 => (((nI 8) ≤ x4 → K_55 M x2 x4) ∧ (¬ (nI 8) ≤ x4 → ((¬ ((x1 >>> (x4 &&& 31)) &&& (1 : Int32)) = ((x2 >>> (x4 &&& 31)) &&& (1 : Int32)) → K_55 M x2 x4) ∧ (((x1 >>> (x4 &&& 31)) &&& (1 : Int32)) = ((x2 >>> (x4 &&& 31)) &&& (1 : Int32)) → wX12_isAhead_27 K_55 Q n M x1 x2 (x4 + (1 : Int32))))))
def wX12_isAhead_55 (Q : Int32 → sy_M → Prop) (M : sy_M) (x2 : Int32) (x4 : Int32) : Prop := (((nI 8) ≤ x4 → Q (0 : Int32) M) ∧ (¬ (nI 8) ≤ x4 → ((¬ ((x2 >>> (x4 &&& 31)) &&& (1 : Int32)) = (1 : Int32) → Q (0 : Int32) M) ∧ (((x2 >>> (x4 &&& 31)) &&& (1 : Int32)) = (1 : Int32) → Q (1 : Int32) M))))
def wX12_isAhead (M : sy_M) (a1 : Int32) (a2 : Int32) (Q : Int32 → sy_M → Prop) : Prop := wJ6_bitCount_0f7a4 M a1 (fun r2 M1 => wJ6_bitCount_0f7a4 M1 a2 (fun r4 M3 => (((r2 - r4) = 0 → ∃ n13 : Nat, wX12_isAhead_27 (fun (M8 : sy_M) (x2_9 : Int32) (x4_10 : Int32) => wX12_isAhead_55  Q M8 x2_9 x4_10) Q n13 M3 a1 a2 (0 : Int32)) ∧ (¬ (r2 - r4) = 0 → ((0 ≤ (r2 - r4) → Q (0 : Int32) M3) ∧ (¬ 0 ≤ (r2 - r4) → Q (1 : Int32) M3))))))
section
variable {p : Program} {l : Launch} {e : Env} {s : State} {m : MethodId} {args : Array Value} {below : List Frame} {meth : Method} {c : Code} {Y : sy_Y}
set_option maxHeartbeats 4000000 in
set_option maxRecDepth 100000 in
theorem kX12_isAhead_27 (C : sy_C p m c cX12_isAhead 5 s args vsX12_isAhead RX12 meth (some .boolean) Y NZ tfZ) {Q : Int32 → sy_M → Prop} {K_55 : sy_M → Int32 → Int32 → Prop} (hK_55 : ∀ (M : sy_M) (x2 : Int32) (x4 : Int32) (H : Heap) (locs : List Loc) (ls : Array Slot), K_55 M x2 x4 → sy_H Y NZ EZ s H locs M → lv_has ls 5 [(2, .int x2), (4, .int x4)] → W p l e ({ frames := 1, cells := 0, slots := 0, locals := 20 } : Room) s m args below meth c H locs 0 0 (sy_ZI below args s Y NZ EZ Q) (F0 m 55 ls [])) :
    ∀ (n : Nat) (M : sy_M) (x1 : Int32) (x2 : Int32) (x4 : Int32) (H : Heap) (locs : List Loc) (ls : Array Slot), wX12_isAhead_27 K_55 Q n M x1 x2 x4 → sy_H Y NZ EZ s H locs M → lv_has ls 5 [(1, .int x1), (2, .int x2), (4, .int x4)] → W p l e ({ frames := 1, cells := 0, slots := 0, locals := 20 } : Room) s m args below meth c H locs 0 0 (sy_ZI below args s Y NZ EZ Q) (F0 m 27 ls []) := by
  have hx := C.1.1
  have hb := C.1.2.1
  intro n
  induction n with
  | zero =>
    intro M x1 x2 x4 H locs ls hq hh hl
    unfold wX12_isAhead_27 at hq
    exact hq.elim
  | succ n ih =>
    intro M x1 x2 x4 H locs ls hq hh hl
    unfold wX12_isAhead_27 at hq
    refine lv_iload hx hb dX12_isAhead_27 (lv_at hl 2 rfl) ?_
    refine lv_bipush (v := (nI 8)) hx hb dX12_isAhead_29 (by decide) ?_
    refine lv_icmp_ge (tgt := 55) hx hb dX12_isAhead_31 (by decide) (fun c6 => ?_) (fun c6 => ?_)
    · have hq := hq.1 c6
      exact hK_55 M x2 x4 _ _ _ hq hh (lv_sub hl [1, 2] rfl)
    · have hq := hq.2 c6
      refine lv_iload_n hx hb dX12_isAhead_34 rfl (lv_at hl 0 rfl) ?_
      refine lv_iload hx hb dX12_isAhead_35 (lv_at hl 2 rfl) ?_
      refine lv_ishr hx hb dX12_isAhead_37 ?_
      refine lv_iconst (v := (1 : Int32)) hx hb dX12_isAhead_38 (by decide) ?_
      refine lv_iand hx hb dX12_isAhead_39 ?_
      refine lv_iload_n hx hb dX12_isAhead_40 rfl (lv_at hl 1 rfl) ?_
      refine lv_iload hx hb dX12_isAhead_41 (lv_at hl 2 rfl) ?_
      refine lv_ishr hx hb dX12_isAhead_43 ?_
      refine lv_iconst (v := (1 : Int32)) hx hb dX12_isAhead_44 (by decide) ?_
      refine lv_iand hx hb dX12_isAhead_45 ?_
      refine lv_icmp_ne (tgt := 55) hx hb dX12_isAhead_46 (by decide) (fun c7 => ?_) (fun c7 => ?_)
      · have hq := hq.1 c7
        exact hK_55 M x2 x4 _ _ _ hq hh (lv_sub hl [1, 2] rfl)
      · have hq := hq.2 c7
        refine lv_iinc (v := (x4 + (1 : Int32))) (lv' := [(4, .int (x4 + (1 : Int32))), (1, .int x1), (2, .int x2)]) hx hb dX12_isAhead_49 hl (k := 2) rfl (sy_inc (by decide)) (by decide) rfl (fun ls hl => ?_)
        refine lv_goto (tgt := 27) hx hb dX12_isAhead_52 (by decide) ?_
        exact ih M x1 x2 (x4 + (1 : Int32)) _ _ _ hq hh (lv_sub hl [1, 2, 0] rfl)

set_option maxHeartbeats 4000000 in
set_option maxRecDepth 100000 in
theorem kX12_isAhead_55 (C : sy_C p m c cX12_isAhead 5 s args vsX12_isAhead RX12 meth (some .boolean) Y NZ tfZ) {Q : Int32 → sy_M → Prop} :
    ∀ (M : sy_M) (x2 : Int32) (x4 : Int32) (H : Heap) (locs : List Loc) (ls : Array Slot), wX12_isAhead_55 Q M x2 x4 → sy_H Y NZ EZ s H locs M → lv_has ls 5 [(2, .int x2), (4, .int x4)] → W p l e ({ frames := 1, cells := 0, slots := 0, locals := 20 } : Room) s m args below meth c H locs 0 0 (sy_ZI below args s Y NZ EZ Q) (F0 m 55 ls []) := by
  have hx := C.1.1
  have hb := C.1.2.1
  intro M x2 x4 H locs ls hq hh hl
  unfold wX12_isAhead_55 at hq
  refine lv_iload hx hb dX12_isAhead_55 (lv_at hl 1 rfl) ?_
  refine lv_bipush (v := (nI 8)) hx hb dX12_isAhead_57 (by decide) ?_
  refine lv_icmp_ge (tgt := 76) hx hb dX12_isAhead_59 (by decide) (fun c11 => ?_) (fun c11 => ?_)
  · have hq := hq.1 c11
    refine lv_iconst (v := (0 : Int32)) hx hb dX12_isAhead_76 (by decide) ?_
    exact sy_zret C hh dX12_isAhead_77 (by decide) hq
  · have hq := hq.2 c11
    refine lv_iload_n hx hb dX12_isAhead_62 rfl (lv_at hl 0 rfl) ?_
    refine lv_iload hx hb dX12_isAhead_63 (lv_at hl 1 rfl) ?_
    refine lv_ishr hx hb dX12_isAhead_65 ?_
    refine lv_iconst (v := (1 : Int32)) hx hb dX12_isAhead_66 (by decide) ?_
    refine lv_iand hx hb dX12_isAhead_67 ?_
    refine lv_iconst (v := (1 : Int32)) hx hb dX12_isAhead_68 (by decide) ?_
    refine lv_icmp_ne (tgt := 76) hx hb dX12_isAhead_69 (by decide) (fun c12 => ?_) (fun c12 => ?_)
    · have hq := hq.1 c12
      refine lv_iconst (v := (0 : Int32)) hx hb dX12_isAhead_76 (by decide) ?_
      exact sy_zret C hh dX12_isAhead_77 (by decide) hq
    · have hq := hq.2 c12
      refine lv_iconst (v := (1 : Int32)) hx hb dX12_isAhead_72 (by decide) ?_
      refine lv_goto (tgt := 77) hx hb dX12_isAhead_73 (by decide) ?_
      exact sy_zret C hh dX12_isAhead_77 (by decide) hq

end
set_option maxHeartbeats 4000000 in
set_option maxRecDepth 100000 in
theorem mX12_isAhead (l : Launch) (Y : sy_Y) (sz : Nat) (M : sy_M) (a1 : Int32) (a2 : Int32) (Q : Int32 → sy_M → Prop) (hq : wX12_isAhead M a1 a2 Q) : Met l yX12_isAhead vsX12_isAhead ({ frames := 1, cells := 0, slots := 0, locals := 20 } : Room) (va_Pc [.ref (Y.2.1 0), .int a1, .int a2] (sy_pre Y NZ EZ tfZ sz M)) (sy_QI Y NZ EZ sz Q) 0 0 (sy_A NZ Y.2.1 sz) := by
  refine sy_metI (by decide) rfl (Nat.le_of_ble_eq_true rfl) ?_
  intro p e s m args below meth c C ls hl hh
  have hx := C.1.1
  have hb := C.1.2.1
  have hl : lv_has ls 5 [(0, .ref (Y.2.1 0)), (1, .int a1), (2, .int a2)] := hl
  unfold wX12_isAhead at hq
  refine lv_iload_n hx hb dX12_isAhead_0 rfl (lv_at hl 1 rfl) ?_
  refine sy_cIS C hh (As := [.int a1]) (rest := []) (mJ6_bitCount_0f7a4 l Y _ M a1 _ hq) (va_cwS 1 C.1.2.2.2.2 (sy_goodS uZ_good uZ_218 uZ_219 uZ_220 uZ_221 _) rfl rfl rfl hdJ6_bitCount_0f7a4.2 ⟨Nat.le_of_ble_eq_true rfl, Nat.le_of_ble_eq_true rfl⟩) rfl hl.1 rfl (Nat.le_of_ble_eq_true rfl) dX12_isAhead_1 (fun r2 M1 H locs hq hh => ?_)
  refine lv_iload_n hx hb dX12_isAhead_4 rfl (lv_at hl 2 rfl) ?_
  refine sy_cIS C hh (As := [.int a2]) (rest := [.int r2]) (mJ6_bitCount_0f7a4 l Y _ M1 a2 _ hq) (va_cwS 1 C.1.2.2.2.2 (sy_goodS uZ_good uZ_218 uZ_219 uZ_220 uZ_221 _) rfl rfl rfl hdJ6_bitCount_0f7a4.2 ⟨Nat.le_of_ble_eq_true rfl, Nat.le_of_ble_eq_true rfl⟩) rfl hl.1 rfl (Nat.le_of_ble_eq_true rfl) dX12_isAhead_5 (fun r4 M3 H locs hq hh => ?_)
  refine lv_isub hx hb dX12_isAhead_8 ?_
  refine lv_istore_n (lv' := [(3, .int (r2 - r4)), (0, .ref (Y.2.1 0)), (1, .int a1), (2, .int a2)]) hx hb dX12_isAhead_9 rfl hl (by decide) rfl (fun ls hl => ?_)
  refine lv_iload_n hx hb dX12_isAhead_10 rfl (lv_at hl 0 rfl) ?_
  refine lv_if_eq (tgt := 24) hx hb dX12_isAhead_11 (by decide) (fun c5 => ?_) (fun c5 => ?_)
  · have hq := hq.1 c5
    refine lv_iconst (v := (0 : Int32)) hx hb dX12_isAhead_24 (by decide) ?_
    refine lv_istore (lv' := [(4, .int (0 : Int32)), (3, .int (r2 - r4)), (0, .ref (Y.2.1 0)), (1, .int a1), (2, .int a2)]) hx hb dX12_isAhead_25 hl (by decide) rfl (fun ls hl => ?_)
    obtain ⟨n13, hq⟩ := hq
    refine kX12_isAhead_27 C (fun M8 x2_9 x4_10 H locs ls hq hh hl => ?_) n13 M3 a1 a2 (0 : Int32) _ _ _ hq hh (lv_sub hl [3, 4, 0] rfl)
    · refine kX12_isAhead_55 C  M8 x2_9 x4_10 _ _ _ hq hh (lv_sub hl [0, 1] rfl)
  · have hq := hq.2 c5
    refine lv_iload_n hx hb dX12_isAhead_14 rfl (lv_at hl 0 rfl) ?_
    refine lv_if_ge (tgt := 22) hx hb dX12_isAhead_15 (by decide) (fun c14 => ?_) (fun c14 => ?_)
    · have hq := hq.1 c14
      refine lv_iconst (v := (0 : Int32)) hx hb dX12_isAhead_22 (by decide) ?_
      exact sy_zret C hh dX12_isAhead_23 (by decide) hq
    · have hq := hq.2 c14
      refine lv_iconst (v := (1 : Int32)) hx hb dX12_isAhead_18 (by decide) ?_
      refine lv_goto (tgt := 23) hx hb dX12_isAhead_19 (by decide) ?_
      exact sy_zret C hh dX12_isAhead_23 (by decide) hq

/-! AreaSetterModel.breaks(IIII)I -/
def wX12_breaks_70 (K_9 : sy_M → Int32 → Int32 → Int32 → Int32 → Int32 → Int32 → Int32 → Prop) (Q : Int32 → sy_M → Prop) (M : sy_M) (x1 : Int32) (x2 : Int32) (x3 : Int32) (x4 : Int32) (x7 : Int32) (x8 : Int32) : Prop := K_9 M x1 x2 x3 x4 x7 x8 (x7 + (1 : Int32))
def wX12_breaks_9 (Q : Int32 → sy_M → Prop) : Nat → sy_M → Int32 → Int32 → Int32 → Int32 → Int32 → Int32 → Int32 → Prop
  | 0, _, _, _, _, _, _, _, _ => False
  | n + 1, M, x1, x2, x3, x4, x5, x6, x7 => ((((1 : Int32) <<< (((M 0 30) - (1 : Int32)) &&& 31)) ≤ x7 → Q x5 M) ∧ (¬ ((1 : Int32) <<< (((M 0 30) - (1 : Int32)) &&& 31)) ≤ x7 → wX12_laysRows M x7 x1 x2 x3 x4 (fun M2 => wX12_worst M2 (fun r4 M3 => ((x5 = (-1 : Int32) → wX12_breaks_70 (fun (M6 : sy_M) (x1_7 : Int32) (x2_8 : Int32) (x3_9 : Int32) (x4_10 : Int32) (x5_11 : Int32) (x6_12 : Int32) (x7_13 : Int32) => wX12_breaks_9 Q n M6 x1_7 x2_8 x3_9 x4_10 x5_11 x6_12 x7_13) Q M3 x1 x2 x3 x4 x7 r4) ∧ (¬ x5 = (-1 : Int32) → ((r4 < x6 → wX12_breaks_70 (fun (M15 : sy_M) (x1_16 : Int32) (x2_17 : Int32) (x3_18 : Int32) (x4_19 : Int32) (x5_20 : Int32) (x6_21 : Int32) (x7_22 : Int32) => wX12_breaks_9 Q n M15 x1_16 x2_17 x3_18 x4_19 x5_20 x6_21 x7_22) Q M3 x1 x2 x3 x4 x7 r4) ∧ (¬ r4 < x6 → ((¬ r4 = x6 → wX12_breaks_9 Q n M3 x1 x2 x3 x4 x5 x6 (x7 + (1 : Int32))) ∧ (r4 = x6 → wX12_isAhead M3 x7 x5 (fun r25 M24 => ((r25 = 0 → wX12_breaks_9 Q n M24 x1 x2 x3 x4 x5 x6 (x7 + (1 : Int32))) ∧ (¬ r25 = 0 → wX12_breaks_70 (fun (M27 : sy_M) (x1_28 : Int32) (x2_29 : Int32) (x3_30 : Int32) (x4_31 : Int32) (x5_32 : Int32) (x6_33 : Int32) (x7_34 : Int32) => wX12_breaks_9 Q n M27 x1_28 x2_29 x3_30 x4_31 x5_32 x6_33 x7_34) Q M24 x1 x2 x3 x4 x7 r4)))))))))))))
def wX12_breaks (M : sy_M) (a1 : Int32) (a2 : Int32) (a3 : Int32) (a4 : Int32) (Q : Int32 → sy_M → Prop) : Prop := ∃ n35 : Nat, wX12_breaks_9  Q n35 M a1 a2 a3 a4 (-1 : Int32) (0 : Int32) (0 : Int32)
section
variable {p : Program} {l : Launch} {e : Env} {s : State} {m : MethodId} {args : Array Value} {below : List Frame} {meth : Method} {c : Code} {Y : sy_Y}
set_option maxHeartbeats 4000000 in
set_option maxRecDepth 100000 in
theorem kX12_breaks_70 (C : sy_C p m c cX12_breaks 9 s args vsX12_breaks RX12 meth (some .int) Y NZ tfZ) {Q : Int32 → sy_M → Prop} {K_9 : sy_M → Int32 → Int32 → Int32 → Int32 → Int32 → Int32 → Int32 → Prop} (hK_9 : ∀ (M : sy_M) (x1 : Int32) (x2 : Int32) (x3 : Int32) (x4 : Int32) (x5 : Int32) (x6 : Int32) (x7 : Int32) (H : Heap) (locs : List Loc) (ls : Array Slot), K_9 M x1 x2 x3 x4 x5 x6 x7 → sy_H Y NZ EZ s H locs M → lv_has ls 9 [(0, .ref (Y.2.1 0)), (1, .int x1), (2, .int x2), (3, .int x3), (4, .int x4), (5, .int x5), (6, .int x6), (7, .int x7)] → W p l e ({ frames := 3, cells := 0, slots := 0, locals := 75 } : Room) s m args below meth c H locs 0 0 (sy_ZI below args s Y NZ EZ Q) (F0 m 9 ls [])) :
    ∀ (M : sy_M) (x1 : Int32) (x2 : Int32) (x3 : Int32) (x4 : Int32) (x7 : Int32) (x8 : Int32) (H : Heap) (locs : List Loc) (ls : Array Slot), wX12_breaks_70 K_9 Q M x1 x2 x3 x4 x7 x8 → sy_H Y NZ EZ s H locs M → lv_has ls 9 [(0, .ref (Y.2.1 0)), (1, .int x1), (2, .int x2), (3, .int x3), (4, .int x4), (7, .int x7), (8, .int x8)] → W p l e ({ frames := 3, cells := 0, slots := 0, locals := 75 } : Room) s m args below meth c H locs 0 0 (sy_ZI below args s Y NZ EZ Q) (F0 m 70 ls []) := by
  have hx := C.1.1
  have hb := C.1.2.1
  intro M x1 x2 x3 x4 x7 x8 H locs ls hq hh hl
  unfold wX12_breaks_70 at hq
  refine lv_iload hx hb dX12_breaks_70 (lv_at hl 5 rfl) ?_
  refine lv_istore (lv' := [(5, .int x7), (0, .ref (Y.2.1 0)), (1, .int x1), (2, .int x2), (3, .int x3), (4, .int x4), (7, .int x7), (8, .int x8)]) hx hb dX12_breaks_72 hl (by decide) rfl (fun ls hl => ?_)
  refine lv_iload hx hb dX12_breaks_74 (lv_at hl 7 rfl) ?_
  refine lv_istore (lv' := [(6, .int x8), (5, .int x7), (0, .ref (Y.2.1 0)), (1, .int x1), (2, .int x2), (3, .int x3), (4, .int x4), (7, .int x7), (8, .int x8)]) hx hb dX12_breaks_76 hl (by decide) rfl (fun ls hl => ?_)
  refine lv_iinc (v := (x7 + (1 : Int32))) (lv' := [(7, .int (x7 + (1 : Int32))), (6, .int x8), (5, .int x7), (0, .ref (Y.2.1 0)), (1, .int x1), (2, .int x2), (3, .int x3), (4, .int x4), (8, .int x8)]) hx hb dX12_breaks_78 hl (k := 7) rfl (sy_inc (by decide)) (by decide) rfl (fun ls hl => ?_)
  refine lv_goto (tgt := 9) hx hb dX12_breaks_81 (by decide) ?_
  exact hK_9 M x1 x2 x3 x4 x7 x8 (x7 + (1 : Int32)) _ _ _ hq hh (lv_sub hl [3, 4, 5, 6, 7, 2, 1, 0] rfl)

set_option maxHeartbeats 4000000 in
set_option maxRecDepth 100000 in
theorem kX12_breaks_9 (C : sy_C p m c cX12_breaks 9 s args vsX12_breaks RX12 meth (some .int) Y NZ tfZ) {Q : Int32 → sy_M → Prop} :
    ∀ (n : Nat) (M : sy_M) (x1 : Int32) (x2 : Int32) (x3 : Int32) (x4 : Int32) (x5 : Int32) (x6 : Int32) (x7 : Int32) (H : Heap) (locs : List Loc) (ls : Array Slot), wX12_breaks_9 Q n M x1 x2 x3 x4 x5 x6 x7 → sy_H Y NZ EZ s H locs M → lv_has ls 9 [(0, .ref (Y.2.1 0)), (1, .int x1), (2, .int x2), (3, .int x3), (4, .int x4), (5, .int x5), (6, .int x6), (7, .int x7)] → W p l e ({ frames := 3, cells := 0, slots := 0, locals := 75 } : Room) s m args below meth c H locs 0 0 (sy_ZI below args s Y NZ EZ Q) (F0 m 9 ls []) := by
  have hx := C.1.1
  have hb := C.1.2.1
  intro n
  induction n with
  | zero =>
    intro M x1 x2 x3 x4 x5 x6 x7 H locs ls hq hh hl
    unfold wX12_breaks_9 at hq
    exact hq.elim
  | succ n ih =>
    intro M x1 x2 x3 x4 x5 x6 x7 H locs ls hq hh hl
    unfold wX12_breaks_9 at hq
    refine lv_iload hx hb dX12_breaks_9 (lv_at hl 7 rfl) ?_
    refine lv_iconst (v := (1 : Int32)) hx hb dX12_breaks_11 (by decide) ?_
    refine lv_aload_n hx hb dX12_breaks_12 rfl (lv_at hl 0 rfl) ?_
    refine sy_get C hh (fun w h => mc (uZ_fX12 w h)) 0 (by decide) (oZ_0 Y) rfl 30 (by decide) (index := 261) (mc uZ_195) (v := .int (M 0 30)) rfl dX12_breaks_13 ?_
    refine lv_iconst (v := (1 : Int32)) hx hb dX12_breaks_16 (by decide) ?_
    refine lv_isub hx hb dX12_breaks_17 ?_
    refine lv_ishl hx hb dX12_breaks_18 ?_
    refine lv_icmp_ge (tgt := 84) hx hb dX12_breaks_19 (by decide) (fun c1 => ?_) (fun c1 => ?_)
    · have hq := hq.1 c1
      refine lv_iload hx hb dX12_breaks_84 (lv_at hl 5 rfl) ?_
      exact sy_iret C hh dX12_breaks_86 hq
    · have hq := hq.2 c1
      refine lv_aload_n hx hb dX12_breaks_22 rfl (lv_at hl 0 rfl) ?_
      refine lv_iload hx hb dX12_breaks_23 (lv_at hl 7 rfl) ?_
      refine lv_iload_n hx hb dX12_breaks_25 rfl (lv_at hl 1 rfl) ?_
      refine lv_iload_n hx hb dX12_breaks_26 rfl (lv_at hl 2 rfl) ?_
      refine lv_iload_n hx hb dX12_breaks_27 rfl (lv_at hl 3 rfl) ?_
      refine lv_iload hx hb dX12_breaks_28 (lv_at hl 4 rfl) ?_
      refine sy_cVV C hh (As := [.int x7, .int x1, .int x2, .int x3, .int x4]) (rest := []) 0 (by decide) (oZ_0 Y) rfl (mX12_laysRows l Y _ M x7 x1 x2 x3 x4 _ hq) (cwV 5 C.1.2.2.2.2 (sy_goodV uZ_good uZ_225 uZ_226 uZ_227 uZ_55 uZ_216 _) rfl rfl rfl hdX12_laysRows ⟨Nat.le_of_ble_eq_true rfl, Nat.le_of_ble_eq_true rfl⟩) rfl hl.1 rfl (Nat.le_of_ble_eq_true rfl) dX12_breaks_30 (fun M2 H locs hq hh => ?_)
      refine lv_aload_n hx hb dX12_breaks_33 rfl (lv_at hl 0 rfl) ?_
      refine sy_cIV C hh (As := []) (rest := []) 0 (by decide) (oZ_0 Y) rfl (mX12_worst l Y _ M2  _ hq) (cwV 0 C.1.2.2.2.2 (sy_goodV uZ_good uZ_228 uZ_229 uZ_230 uZ_55 uZ_194 _) rfl rfl rfl hdX12_worst ⟨Nat.le_of_ble_eq_true rfl, Nat.le_of_ble_eq_true rfl⟩) rfl hl.1 rfl (Nat.le_of_ble_eq_true rfl) dX12_breaks_34 (fun r4 M3 H locs hq hh => ?_)
      refine lv_istore (lv' := [(8, .int r4), (0, .ref (Y.2.1 0)), (1, .int x1), (2, .int x2), (3, .int x3), (4, .int x4), (5, .int x5), (6, .int x6), (7, .int x7)]) hx hb dX12_breaks_37 hl (by decide) rfl (fun ls hl => ?_)
      refine lv_iload hx hb dX12_breaks_39 (lv_at hl 6 rfl) ?_
      refine lv_iconst (v := (-1 : Int32)) hx hb dX12_breaks_41 (by decide) ?_
      refine lv_icmp_eq (tgt := 70) hx hb dX12_breaks_42 (by decide) (fun c5 => ?_) (fun c5 => ?_)
      · have hq := hq.1 c5
        refine kX12_breaks_70 C (fun M6 x1_7 x2_8 x3_9 x4_10 x5_11 x6_12 x7_13 H locs ls hq hh hl => ?_) M3 x1 x2 x3 x4 x7 r4 _ _ _ hq hh (lv_sub hl [1, 2, 3, 4, 5, 8, 0] rfl)
        · exact ih M6 x1_7 x2_8 x3_9 x4_10 x5_11 x6_12 x7_13 _ _ _ hq hh (lv_sub hl [0, 1, 2, 3, 4, 5, 6, 7] rfl)
      · have hq := hq.2 c5
        refine lv_iload hx hb dX12_breaks_45 (lv_at hl 0 rfl) ?_
        refine lv_iload hx hb dX12_breaks_47 (lv_at hl 7 rfl) ?_
        refine lv_icmp_lt (tgt := 70) hx hb dX12_breaks_49 (by decide) (fun c14 => ?_) (fun c14 => ?_)
        · have hq := hq.1 c14
          refine kX12_breaks_70 C (fun M15 x1_16 x2_17 x3_18 x4_19 x5_20 x6_21 x7_22 H locs ls hq hh hl => ?_) M3 x1 x2 x3 x4 x7 r4 _ _ _ hq hh (lv_sub hl [1, 2, 3, 4, 5, 8, 0] rfl)
          · exact ih M15 x1_16 x2_17 x3_18 x4_19 x5_20 x6_21 x7_22 _ _ _ hq hh (lv_sub hl [0, 1, 2, 3, 4, 5, 6, 7] rfl)
        · have hq := hq.2 c14
          refine lv_iload hx hb dX12_breaks_52 (lv_at hl 0 rfl) ?_
          refine lv_iload hx hb dX12_breaks_54 (lv_at hl 7 rfl) ?_
          refine lv_icmp_ne (tgt := 78) hx hb dX12_breaks_56 (by decide) (fun c23 => ?_) (fun c23 => ?_)
          · have hq := hq.1 c23
            refine lv_iinc (v := (x7 + (1 : Int32))) (lv' := [(7, .int (x7 + (1 : Int32))), (8, .int r4), (0, .ref (Y.2.1 0)), (1, .int x1), (2, .int x2), (3, .int x3), (4, .int x4), (5, .int x5), (6, .int x6)]) hx hb dX12_breaks_78 hl (k := 8) rfl (sy_inc (by decide)) (by decide) rfl (fun ls hl => ?_)
            refine lv_goto (tgt := 9) hx hb dX12_breaks_81 (by decide) ?_
            exact ih M3 x1 x2 x3 x4 x5 x6 (x7 + (1 : Int32)) _ _ _ hq hh (lv_sub hl [2, 3, 4, 5, 6, 7, 8, 0] rfl)
          · have hq := hq.2 c23
            refine lv_aload_n hx hb dX12_breaks_59 rfl (lv_at hl 1 rfl) ?_
            refine lv_iload hx hb dX12_breaks_60 (lv_at hl 8 rfl) ?_
            refine lv_iload hx hb dX12_breaks_62 (lv_at hl 6 rfl) ?_
            refine sy_cIV C hh (As := [.int x7, .int x5]) (rest := []) 0 (by decide) (oZ_0 Y) rfl (mX12_isAhead l Y _ M3 x7 x5 _ hq) (cwV 2 C.1.2.2.2.2 (sy_goodV uZ_good uZ_231 uZ_232 uZ_233 uZ_55 uZ_217 _) rfl rfl rfl hdX12_isAhead ⟨Nat.le_of_ble_eq_true rfl, Nat.le_of_ble_eq_true rfl⟩) rfl hl.1 rfl (Nat.le_of_ble_eq_true rfl) dX12_breaks_64 (fun r25 M24 H locs hq hh => ?_)
            refine lv_if_eq (tgt := 78) hx hb dX12_breaks_67 (by decide) (fun c26 => ?_) (fun c26 => ?_)
            · have hq := hq.1 c26
              refine lv_iinc (v := (x7 + (1 : Int32))) (lv' := [(7, .int (x7 + (1 : Int32))), (8, .int r4), (0, .ref (Y.2.1 0)), (1, .int x1), (2, .int x2), (3, .int x3), (4, .int x4), (5, .int x5), (6, .int x6)]) hx hb dX12_breaks_78 hl (k := 8) rfl (sy_inc (by decide)) (by decide) rfl (fun ls hl => ?_)
              refine lv_goto (tgt := 9) hx hb dX12_breaks_81 (by decide) ?_
              exact ih M24 x1 x2 x3 x4 x5 x6 (x7 + (1 : Int32)) _ _ _ hq hh (lv_sub hl [2, 3, 4, 5, 6, 7, 8, 0] rfl)
            · have hq := hq.2 c26
              refine kX12_breaks_70 C (fun M27 x1_28 x2_29 x3_30 x4_31 x5_32 x6_33 x7_34 H locs ls hq hh hl => ?_) M24 x1 x2 x3 x4 x7 r4 _ _ _ hq hh (lv_sub hl [1, 2, 3, 4, 5, 8, 0] rfl)
              · exact ih M27 x1_28 x2_29 x3_30 x4_31 x5_32 x6_33 x7_34 _ _ _ hq hh (lv_sub hl [0, 1, 2, 3, 4, 5, 6, 7] rfl)

end
set_option maxHeartbeats 4000000 in
set_option maxRecDepth 100000 in
theorem mX12_breaks (l : Launch) (Y : sy_Y) (sz : Nat) (M : sy_M) (a1 : Int32) (a2 : Int32) (a3 : Int32) (a4 : Int32) (Q : Int32 → sy_M → Prop) (hq : wX12_breaks M a1 a2 a3 a4 Q) : Met l yX12_breaks vsX12_breaks ({ frames := 3, cells := 0, slots := 0, locals := 75 } : Room) (va_Pc [.ref (Y.2.1 0), .int a1, .int a2, .int a3, .int a4] (sy_pre Y NZ EZ tfZ sz M)) (sy_QI Y NZ EZ sz Q) 0 0 (sy_A NZ Y.2.1 sz) := by
  refine sy_metI (by decide) rfl (Nat.le_of_ble_eq_true rfl) ?_
  intro p e s m args below meth c C ls hl hh
  have hx := C.1.1
  have hb := C.1.2.1
  have hl : lv_has ls 9 [(0, .ref (Y.2.1 0)), (1, .int a1), (2, .int a2), (3, .int a3), (4, .int a4)] := hl
  unfold wX12_breaks at hq
  refine lv_iconst (v := (-1 : Int32)) hx hb dX12_breaks_0 (by decide) ?_
  refine lv_istore (lv' := [(5, .int (-1 : Int32)), (0, .ref (Y.2.1 0)), (1, .int a1), (2, .int a2), (3, .int a3), (4, .int a4)]) hx hb dX12_breaks_1 hl (by decide) rfl (fun ls hl => ?_)
  refine lv_iconst (v := (0 : Int32)) hx hb dX12_breaks_3 (by decide) ?_
  refine lv_istore (lv' := [(6, .int (0 : Int32)), (5, .int (-1 : Int32)), (0, .ref (Y.2.1 0)), (1, .int a1), (2, .int a2), (3, .int a3), (4, .int a4)]) hx hb dX12_breaks_4 hl (by decide) rfl (fun ls hl => ?_)
  refine lv_iconst (v := (0 : Int32)) hx hb dX12_breaks_6 (by decide) ?_
  refine lv_istore (lv' := [(7, .int (0 : Int32)), (6, .int (0 : Int32)), (5, .int (-1 : Int32)), (0, .ref (Y.2.1 0)), (1, .int a1), (2, .int a2), (3, .int a3), (4, .int a4)]) hx hb dX12_breaks_7 hl (by decide) rfl (fun ls hl => ?_)
  obtain ⟨n35, hq⟩ := hq
  refine kX12_breaks_9 C  n35 M a1 a2 a3 a4 (-1 : Int32) (0 : Int32) (0 : Int32) _ _ _ hq hh (lv_sub hl [3, 4, 5, 6, 7, 2, 1, 0] rfl)

/-! AreaSetterModel.firstPart(IIII)I -/
def wX12_firstPart (M : sy_M) (a1 : Int32) (a2 : Int32) (a3 : Int32) (a4 : Int32) (Q : Int32 → sy_M → Prop) : Prop := wX12_sum M a2 a4 (fun r2 M1 => ((¬ r2 = 0 → wX12_sum M1 a2 (a2 + a3) (fun r5 M4 => (¬ (r2.toInt64) = 0) ∧ Q ((((a1.toInt64) * (r5.toInt64)) / (r2.toInt64)).toInt32) M4)) ∧ (r2 = 0 → Q (0 : Int32) M1)))
section
variable {p : Program} {l : Launch} {e : Env} {s : State} {m : MethodId} {args : Array Value} {below : List Frame} {meth : Method} {c : Code} {Y : sy_Y}
end
set_option maxHeartbeats 4000000 in
set_option maxRecDepth 100000 in
theorem mX12_firstPart (l : Launch) (Y : sy_Y) (sz : Nat) (M : sy_M) (a1 : Int32) (a2 : Int32) (a3 : Int32) (a4 : Int32) (Q : Int32 → sy_M → Prop) (hq : wX12_firstPart M a1 a2 a3 a4 Q) : Met l yX12_firstPart vsX12_firstPart ({ frames := 1, cells := 0, slots := 0, locals := 22 } : Room) (va_Pc [.ref (Y.2.1 0), .int a1, .int a2, .int a3, .int a4] (sy_pre Y NZ EZ tfZ sz M)) (sy_QI Y NZ EZ sz Q) 0 0 (sy_A NZ Y.2.1 sz) := by
  refine sy_metI (by decide) rfl (Nat.le_of_ble_eq_true rfl) ?_
  intro p e s m args below meth c C ls hl hh
  have hx := C.1.1
  have hb := C.1.2.1
  have hl : lv_has ls 6 [(0, .ref (Y.2.1 0)), (1, .int a1), (2, .int a2), (3, .int a3), (4, .int a4)] := hl
  unfold wX12_firstPart at hq
  refine lv_aload_n hx hb dX12_firstPart_0 rfl (lv_at hl 0 rfl) ?_
  refine lv_iload_n hx hb dX12_firstPart_1 rfl (lv_at hl 2 rfl) ?_
  refine lv_iload hx hb dX12_firstPart_2 (lv_at hl 4 rfl) ?_
  refine sy_cIV C hh (As := [.int a2, .int a4]) (rest := []) 0 (by decide) (oZ_0 Y) rfl (mX12_sum l Y _ M a2 a4 _ hq) (cwV 2 C.1.2.2.2.2 (sy_goodV uZ_good uZ_204 uZ_205 uZ_206 uZ_55 uZ_202 _) rfl rfl rfl hdX12_sum ⟨Nat.le_of_ble_eq_true rfl, Nat.le_of_ble_eq_true rfl⟩) rfl hl.1 rfl (Nat.le_of_ble_eq_true rfl) dX12_firstPart_4 (fun r2 M1 H locs hq hh => ?_)
  refine lv_istore (lv' := [(5, .int r2), (0, .ref (Y.2.1 0)), (1, .int a1), (2, .int a2), (3, .int a3), (4, .int a4)]) hx hb dX12_firstPart_7 hl (by decide) rfl (fun ls hl => ?_)
  refine lv_iload hx hb dX12_firstPart_9 (lv_at hl 0 rfl) ?_
  refine lv_if_ne (tgt := 18) hx hb dX12_firstPart_11 (by decide) (fun c3 => ?_) (fun c3 => ?_)
  · have hq := hq.1 c3
    refine lv_iload_n hx hb dX12_firstPart_18 rfl (lv_at hl 2 rfl) ?_
    refine lv_i2l (v := (a1.toInt64)) hx hb dX12_firstPart_19 rfl ?_
    refine lv_aload_n hx hb dX12_firstPart_20 rfl (lv_at hl 1 rfl) ?_
    refine lv_iload_n hx hb dX12_firstPart_21 rfl (lv_at hl 3 rfl) ?_
    refine lv_iload_n hx hb dX12_firstPart_22 rfl (lv_at hl 3 rfl) ?_
    refine lv_iload_n hx hb dX12_firstPart_23 rfl (lv_at hl 4 rfl) ?_
    refine lv_iadd hx hb dX12_firstPart_24 ?_
    refine sy_cIV C hh (As := [.int a2, .int (a2 + a3)]) (rest := [.long (a1.toInt64)]) 0 (by decide) (oZ_0 Y) rfl (mX12_sum l Y _ M1 a2 (a2 + a3) _ hq) (cwV 2 C.1.2.2.2.2 (sy_goodV uZ_good uZ_204 uZ_205 uZ_206 uZ_55 uZ_202 _) rfl rfl rfl hdX12_sum ⟨Nat.le_of_ble_eq_true rfl, Nat.le_of_ble_eq_true rfl⟩) rfl hl.1 rfl (Nat.le_of_ble_eq_true rfl) dX12_firstPart_25 (fun r5 M4 H locs hq hh => ?_)
    refine lv_i2l (v := (r5.toInt64)) hx hb dX12_firstPart_28 rfl ?_
    refine lv_lmul hx hb dX12_firstPart_29 ?_
    refine lv_iload hx hb dX12_firstPart_30 (lv_at hl 0 rfl) ?_
    refine lv_i2l (v := (r2.toInt64)) hx hb dX12_firstPart_32 rfl ?_
    obtain ⟨e6, hq⟩ := hq
    refine lv_ldiv hx hb dX12_firstPart_33 e6 ?_
    refine lv_l2i (v := ((((a1.toInt64) * (r5.toInt64)) / (r2.toInt64)).toInt32)) hx hb dX12_firstPart_34 rfl ?_
    exact sy_iret C hh dX12_firstPart_35 hq
  · have hq := hq.2 c3
    refine lv_iconst (v := (0 : Int32)) hx hb dX12_firstPart_14 (by decide) ?_
    refine lv_goto (tgt := 35) hx hb dX12_firstPart_15 (by decide) ?_
    exact sy_iret C hh dX12_firstPart_35 hq

/-! AreaSetterModel.cutBy(IIIIII)I -/
def wX12_cutBy_90 (rec : sy_M → Int32 → Int32 → Int32 → Int32 → (Int32 → sy_M → Prop) → Prop) (Q : Int32 → sy_M → Prop) (M : sy_M) (x8 : Int32) (s1 : Int32) (s2 : Int32) (s3 : Int32) (s4 : Int32) : Prop := rec M s1 s2 s3 s4 (fun r11 M10 => Q (imax x8 r11) M10)
def wX12_cutBy_75 (rec : sy_M → Int32 → Int32 → Int32 → Int32 → (Int32 → sy_M → Prop) → Prop) (Q : Int32 → sy_M → Prop) (M : sy_M) (x4 : Int32) (x6 : Int32) (x7 : Int32) (x8 : Int32) (s1 : Int32) (s2 : Int32) (s3 : Int32) : Prop := ((¬ x4 = 0 → wX12_cutBy_90 rec  Q M x8 s1 s2 s3 (x6 - x7)) ∧ (x4 = 0 → wX12_cutBy_90 rec  Q M x8 s1 s2 s3 x6))
def wX12_cutBy_50 (rec : sy_M → Int32 → Int32 → Int32 → Int32 → (Int32 → sy_M → Prop) → Prop) (Q : Int32 → sy_M → Prop) (M : sy_M) (x1 : Int32) (x2 : Int32) (x3 : Int32) (x4 : Int32) (x5 : Int32) (x6 : Int32) (x7 : Int32) (s1 : Int32) (s2 : Int32) (s3 : Int32) (s4 : Int32) : Prop := rec M s1 s2 s3 s4 (fun r7 M6 => ((¬ x4 = 0 → wX12_cutBy_75 rec  Q M6 x4 x6 x7 r7 (x1 + x3) x2 x5) ∧ (x4 = 0 → wX12_cutBy_75 rec  Q M6 x4 x6 x7 r7 (x1 + x3) x2 (x5 - x7))))
def wX12_cutBy_38 (rec : sy_M → Int32 → Int32 → Int32 → Int32 → (Int32 → sy_M → Prop) → Prop) (Q : Int32 → sy_M → Prop) (M : sy_M) (x1 : Int32) (x2 : Int32) (x3 : Int32) (x4 : Int32) (x5 : Int32) (x6 : Int32) (x7 : Int32) (s1 : Int32) (s2 : Int32) (s3 : Int32) : Prop := ((¬ x4 = 0 → wX12_cutBy_50 rec  Q M x1 x2 x3 x4 x5 x6 x7 s1 s2 s3 x7) ∧ (x4 = 0 → wX12_cutBy_50 rec  Q M x1 x2 x3 x4 x5 x6 x7 s1 s2 s3 x6))
def wX12_cutBy_13 (rec : sy_M → Int32 → Int32 → Int32 → Int32 → (Int32 → sy_M → Prop) → Prop) (Q : Int32 → sy_M → Prop) (M : sy_M) (x1 : Int32) (x2 : Int32) (x3 : Int32) (x4 : Int32) (x5 : Int32) (x6 : Int32) (s1 : Int32) : Prop := wX12_firstPart M s1 x1 x3 x2 (fun r3 M2 => ((¬ x4 = 0 → wX12_cutBy_38 rec  Q M2 x1 x2 x3 x4 x5 x6 r3 x1 (x1 + x3) x5) ∧ (x4 = 0 → wX12_cutBy_38 rec  Q M2 x1 x2 x3 x4 x5 x6 r3 x1 (x1 + x3) r3)))
def wX12_cutBy (rec : sy_M → Int32 → Int32 → Int32 → Int32 → (Int32 → sy_M → Prop) → Prop) (M : sy_M) (a1 : Int32) (a2 : Int32) (a3 : Int32) (a4 : Int32) (a5 : Int32) (a6 : Int32) (Q : Int32 → sy_M → Prop) : Prop := ((¬ a4 = 0 → wX12_cutBy_13 rec  Q M a1 a2 a3 a4 a5 a6 a6) ∧ (a4 = 0 → wX12_cutBy_13 rec  Q M a1 a2 a3 a4 a5 a6 a5))
section
variable {p : Program} {l : Launch} {e : Env} {s : State} {m : MethodId} {args : Array Value} {below : List Frame} {meth : Method} {c : Code} {Y : sy_Y}
set_option maxHeartbeats 4000000 in
set_option maxRecDepth 100000 in
theorem kX12_cutBy_90 (C : sy_C p m c cX12_cutBy 10 s args vsX12_cutBy RX12 meth (some .int) Y NZ tfZ) {rec : sy_M → Int32 → Int32 → Int32 → Int32 → (Int32 → sy_M → Prop) → Prop} {d : Nat} (hrec : ∀ (sz : Nat) (M : sy_M) (a1 : Int32) (a2 : Int32) (a3 : Int32) (a4 : Int32) (Q : Int32 → sy_M → Prop), rec M a1 a2 a3 a4 Q → Met l yX12_cutWorst vsX12_cutWorst ({ frames := 2 * d + 5, cells := 0, slots := 0, locals := 56 * d + 176 } : Room) (va_Pc [.ref (Y.2.1 0), .int a1, .int a2, .int a3, .int a4] (sy_pre Y NZ EZ tfZ sz M)) (sy_QI Y NZ EZ sz Q) 0 0 (sy_A NZ Y.2.1 sz)) {Q : Int32 → sy_M → Prop} :
    ∀ (M : sy_M) (x8 : Int32) (s1 : Int32) (s2 : Int32) (s3 : Int32) (s4 : Int32) (H : Heap) (locs : List Loc) (ls : Array Slot), wX12_cutBy_90 rec Q M x8 s1 s2 s3 s4 → sy_H Y NZ EZ s H locs M → lv_has ls 10 [(8, .int x8)] → W p l e ({ frames := 2 * d + 6, cells := 0, slots := 0, locals := 56 * d + 203 } : Room) s m args below meth c H locs 0 0 (sy_ZI below args s Y NZ EZ Q) (F0 m 90 ls [.int s4, .int s3, .int s2, .int s1, .ref (Y.2.1 0)]) := by
  have hx := C.1.1
  have hb := C.1.2.1
  intro M x8 s1 s2 s3 s4 H locs ls hq hh hl
  unfold wX12_cutBy_90 at hq
  refine sy_cIV C hh (As := [.int s1, .int s2, .int s3, .int s4]) (rest := []) 0 (by decide) (oZ_0 Y) rfl (hrec _ M s1 s2 s3 s4 _ hq) (cwV 4 C.1.2.2.2.2 (sy_goodV uZ_good uZ_239 uZ_240 uZ_241 uZ_55 uZ_242 _) rfl rfl rfl hdX12_cutWorst ⟨by dsimp only; omega, by dsimp only; omega⟩) rfl hl.1 rfl (Nat.le_of_ble_eq_true rfl) dX12_cutBy_90 (fun r11 M10 H locs hq hh => ?_)
  refine lv_istore (lv' := [(9, .int r11), (8, .int x8)]) hx hb dX12_cutBy_93 hl (by decide) rfl (fun ls hl => ?_)
  refine lv_iload hx hb dX12_cutBy_95 (lv_at hl 1 rfl) ?_
  refine lv_iload hx hb dX12_cutBy_97 (lv_at hl 0 rfl) ?_
  refine sy_mmax C hl (index := 268) (mc uZ_196) (mc uZ_197) (mc uZ_198) (mc uZ_199) (by dsimp only; omega) (by simp [Value.category] <;> omega) dX12_cutBy_99 ?_
  exact sy_iret C hh dX12_cutBy_102 hq

set_option maxHeartbeats 4000000 in
set_option maxRecDepth 100000 in
theorem kX12_cutBy_75 (C : sy_C p m c cX12_cutBy 10 s args vsX12_cutBy RX12 meth (some .int) Y NZ tfZ) {rec : sy_M → Int32 → Int32 → Int32 → Int32 → (Int32 → sy_M → Prop) → Prop} {d : Nat} (hrec : ∀ (sz : Nat) (M : sy_M) (a1 : Int32) (a2 : Int32) (a3 : Int32) (a4 : Int32) (Q : Int32 → sy_M → Prop), rec M a1 a2 a3 a4 Q → Met l yX12_cutWorst vsX12_cutWorst ({ frames := 2 * d + 5, cells := 0, slots := 0, locals := 56 * d + 176 } : Room) (va_Pc [.ref (Y.2.1 0), .int a1, .int a2, .int a3, .int a4] (sy_pre Y NZ EZ tfZ sz M)) (sy_QI Y NZ EZ sz Q) 0 0 (sy_A NZ Y.2.1 sz)) {Q : Int32 → sy_M → Prop} :
    ∀ (M : sy_M) (x4 : Int32) (x6 : Int32) (x7 : Int32) (x8 : Int32) (s1 : Int32) (s2 : Int32) (s3 : Int32) (H : Heap) (locs : List Loc) (ls : Array Slot), wX12_cutBy_75 rec Q M x4 x6 x7 x8 s1 s2 s3 → sy_H Y NZ EZ s H locs M → lv_has ls 10 [(4, .int x4), (6, .int x6), (7, .int x7), (8, .int x8)] → W p l e ({ frames := 2 * d + 6, cells := 0, slots := 0, locals := 56 * d + 203 } : Room) s m args below meth c H locs 0 0 (sy_ZI below args s Y NZ EZ Q) (F0 m 75 ls [.int s3, .int s2, .int s1, .ref (Y.2.1 0)]) := by
  have hx := C.1.1
  have hb := C.1.2.1
  intro M x4 x6 x7 x8 s1 s2 s3 H locs ls hq hh hl
  unfold wX12_cutBy_75 at hq
  refine lv_iload hx hb dX12_cutBy_75 (lv_at hl 0 rfl) ?_
  refine lv_if_ne (tgt := 85) hx hb dX12_cutBy_77 (by decide) (fun c9 => ?_) (fun c9 => ?_)
  · have hq := hq.1 c9
    refine lv_iload hx hb dX12_cutBy_85 (lv_at hl 1 rfl) ?_
    refine lv_iload hx hb dX12_cutBy_87 (lv_at hl 2 rfl) ?_
    refine lv_isub hx hb dX12_cutBy_89 ?_
    refine kX12_cutBy_90 C hrec  M x8 s1 s2 s3 (x6 - x7) _ _ _ hq hh (lv_sub hl [3] rfl)
  · have hq := hq.2 c9
    refine lv_iload hx hb dX12_cutBy_80 (lv_at hl 1 rfl) ?_
    refine lv_goto (tgt := 90) hx hb dX12_cutBy_82 (by decide) ?_
    refine kX12_cutBy_90 C hrec  M x8 s1 s2 s3 x6 _ _ _ hq hh (lv_sub hl [3] rfl)

set_option maxHeartbeats 4000000 in
set_option maxRecDepth 100000 in
theorem kX12_cutBy_50 (C : sy_C p m c cX12_cutBy 10 s args vsX12_cutBy RX12 meth (some .int) Y NZ tfZ) {rec : sy_M → Int32 → Int32 → Int32 → Int32 → (Int32 → sy_M → Prop) → Prop} {d : Nat} (hrec : ∀ (sz : Nat) (M : sy_M) (a1 : Int32) (a2 : Int32) (a3 : Int32) (a4 : Int32) (Q : Int32 → sy_M → Prop), rec M a1 a2 a3 a4 Q → Met l yX12_cutWorst vsX12_cutWorst ({ frames := 2 * d + 5, cells := 0, slots := 0, locals := 56 * d + 176 } : Room) (va_Pc [.ref (Y.2.1 0), .int a1, .int a2, .int a3, .int a4] (sy_pre Y NZ EZ tfZ sz M)) (sy_QI Y NZ EZ sz Q) 0 0 (sy_A NZ Y.2.1 sz)) {Q : Int32 → sy_M → Prop} :
    ∀ (M : sy_M) (x1 : Int32) (x2 : Int32) (x3 : Int32) (x4 : Int32) (x5 : Int32) (x6 : Int32) (x7 : Int32) (s1 : Int32) (s2 : Int32) (s3 : Int32) (s4 : Int32) (H : Heap) (locs : List Loc) (ls : Array Slot), wX12_cutBy_50 rec Q M x1 x2 x3 x4 x5 x6 x7 s1 s2 s3 s4 → sy_H Y NZ EZ s H locs M → lv_has ls 10 [(0, .ref (Y.2.1 0)), (1, .int x1), (2, .int x2), (3, .int x3), (4, .int x4), (5, .int x5), (6, .int x6), (7, .int x7)] → W p l e ({ frames := 2 * d + 6, cells := 0, slots := 0, locals := 56 * d + 203 } : Room) s m args below meth c H locs 0 0 (sy_ZI below args s Y NZ EZ Q) (F0 m 50 ls [.int s4, .int s3, .int s2, .int s1, .ref (Y.2.1 0)]) := by
  have hx := C.1.1
  have hb := C.1.2.1
  intro M x1 x2 x3 x4 x5 x6 x7 s1 s2 s3 s4 H locs ls hq hh hl
  unfold wX12_cutBy_50 at hq
  refine sy_cIV C hh (As := [.int s1, .int s2, .int s3, .int s4]) (rest := []) 0 (by decide) (oZ_0 Y) rfl (hrec _ M s1 s2 s3 s4 _ hq) (cwV 4 C.1.2.2.2.2 (sy_goodV uZ_good uZ_239 uZ_240 uZ_241 uZ_55 uZ_242 _) rfl rfl rfl hdX12_cutWorst ⟨by dsimp only; omega, by dsimp only; omega⟩) rfl hl.1 rfl (Nat.le_of_ble_eq_true rfl) dX12_cutBy_50 (fun r7 M6 H locs hq hh => ?_)
  refine lv_istore (lv' := [(8, .int r7), (0, .ref (Y.2.1 0)), (1, .int x1), (2, .int x2), (3, .int x3), (4, .int x4), (5, .int x5), (6, .int x6), (7, .int x7)]) hx hb dX12_cutBy_53 hl (by decide) rfl (fun ls hl => ?_)
  refine lv_aload_n hx hb dX12_cutBy_55 rfl (lv_at hl 1 rfl) ?_
  refine lv_iload_n hx hb dX12_cutBy_56 rfl (lv_at hl 2 rfl) ?_
  refine lv_iload_n hx hb dX12_cutBy_57 rfl (lv_at hl 4 rfl) ?_
  refine lv_iadd hx hb dX12_cutBy_58 ?_
  refine lv_iload_n hx hb dX12_cutBy_59 rfl (lv_at hl 3 rfl) ?_
  refine lv_iload hx hb dX12_cutBy_60 (lv_at hl 5 rfl) ?_
  refine lv_if_ne (tgt := 73) hx hb dX12_cutBy_62 (by decide) (fun c8 => ?_) (fun c8 => ?_)
  · have hq := hq.1 c8
    refine lv_iload hx hb dX12_cutBy_73 (lv_at hl 6 rfl) ?_
    refine kX12_cutBy_75 C hrec  M6 x4 x6 x7 r7 (x1 + x3) x2 x5 _ _ _ hq hh (lv_sub hl [5, 7, 8, 0] rfl)
  · have hq := hq.2 c8
    refine lv_iload hx hb dX12_cutBy_65 (lv_at hl 6 rfl) ?_
    refine lv_iload hx hb dX12_cutBy_67 (lv_at hl 8 rfl) ?_
    refine lv_isub hx hb dX12_cutBy_69 ?_
    refine lv_goto (tgt := 75) hx hb dX12_cutBy_70 (by decide) ?_
    refine kX12_cutBy_75 C hrec  M6 x4 x6 x7 r7 (x1 + x3) x2 (x5 - x7) _ _ _ hq hh (lv_sub hl [5, 7, 8, 0] rfl)

set_option maxHeartbeats 4000000 in
set_option maxRecDepth 100000 in
theorem kX12_cutBy_38 (C : sy_C p m c cX12_cutBy 10 s args vsX12_cutBy RX12 meth (some .int) Y NZ tfZ) {rec : sy_M → Int32 → Int32 → Int32 → Int32 → (Int32 → sy_M → Prop) → Prop} {d : Nat} (hrec : ∀ (sz : Nat) (M : sy_M) (a1 : Int32) (a2 : Int32) (a3 : Int32) (a4 : Int32) (Q : Int32 → sy_M → Prop), rec M a1 a2 a3 a4 Q → Met l yX12_cutWorst vsX12_cutWorst ({ frames := 2 * d + 5, cells := 0, slots := 0, locals := 56 * d + 176 } : Room) (va_Pc [.ref (Y.2.1 0), .int a1, .int a2, .int a3, .int a4] (sy_pre Y NZ EZ tfZ sz M)) (sy_QI Y NZ EZ sz Q) 0 0 (sy_A NZ Y.2.1 sz)) {Q : Int32 → sy_M → Prop} :
    ∀ (M : sy_M) (x1 : Int32) (x2 : Int32) (x3 : Int32) (x4 : Int32) (x5 : Int32) (x6 : Int32) (x7 : Int32) (s1 : Int32) (s2 : Int32) (s3 : Int32) (H : Heap) (locs : List Loc) (ls : Array Slot), wX12_cutBy_38 rec Q M x1 x2 x3 x4 x5 x6 x7 s1 s2 s3 → sy_H Y NZ EZ s H locs M → lv_has ls 10 [(0, .ref (Y.2.1 0)), (1, .int x1), (2, .int x2), (3, .int x3), (4, .int x4), (5, .int x5), (6, .int x6), (7, .int x7)] → W p l e ({ frames := 2 * d + 6, cells := 0, slots := 0, locals := 56 * d + 203 } : Room) s m args below meth c H locs 0 0 (sy_ZI below args s Y NZ EZ Q) (F0 m 38 ls [.int s3, .int s2, .int s1, .ref (Y.2.1 0)]) := by
  have hx := C.1.1
  have hb := C.1.2.1
  intro M x1 x2 x3 x4 x5 x6 x7 s1 s2 s3 H locs ls hq hh hl
  unfold wX12_cutBy_38 at hq
  refine lv_iload hx hb dX12_cutBy_38 (lv_at hl 4 rfl) ?_
  refine lv_if_ne (tgt := 48) hx hb dX12_cutBy_40 (by decide) (fun c5 => ?_) (fun c5 => ?_)
  · have hq := hq.1 c5
    refine lv_iload hx hb dX12_cutBy_48 (lv_at hl 7 rfl) ?_
    refine kX12_cutBy_50 C hrec  M x1 x2 x3 x4 x5 x6 x7 s1 s2 s3 x7 _ _ _ hq hh (lv_sub hl [0, 1, 2, 3, 4, 5, 6, 7] rfl)
  · have hq := hq.2 c5
    refine lv_iload hx hb dX12_cutBy_43 (lv_at hl 6 rfl) ?_
    refine lv_goto (tgt := 50) hx hb dX12_cutBy_45 (by decide) ?_
    refine kX12_cutBy_50 C hrec  M x1 x2 x3 x4 x5 x6 x7 s1 s2 s3 x6 _ _ _ hq hh (lv_sub hl [0, 1, 2, 3, 4, 5, 6, 7] rfl)

set_option maxHeartbeats 4000000 in
set_option maxRecDepth 100000 in
theorem kX12_cutBy_13 (C : sy_C p m c cX12_cutBy 10 s args vsX12_cutBy RX12 meth (some .int) Y NZ tfZ) {rec : sy_M → Int32 → Int32 → Int32 → Int32 → (Int32 → sy_M → Prop) → Prop} {d : Nat} (hrec : ∀ (sz : Nat) (M : sy_M) (a1 : Int32) (a2 : Int32) (a3 : Int32) (a4 : Int32) (Q : Int32 → sy_M → Prop), rec M a1 a2 a3 a4 Q → Met l yX12_cutWorst vsX12_cutWorst ({ frames := 2 * d + 5, cells := 0, slots := 0, locals := 56 * d + 176 } : Room) (va_Pc [.ref (Y.2.1 0), .int a1, .int a2, .int a3, .int a4] (sy_pre Y NZ EZ tfZ sz M)) (sy_QI Y NZ EZ sz Q) 0 0 (sy_A NZ Y.2.1 sz)) {Q : Int32 → sy_M → Prop} :
    ∀ (M : sy_M) (x1 : Int32) (x2 : Int32) (x3 : Int32) (x4 : Int32) (x5 : Int32) (x6 : Int32) (s1 : Int32) (H : Heap) (locs : List Loc) (ls : Array Slot), wX12_cutBy_13 rec Q M x1 x2 x3 x4 x5 x6 s1 → sy_H Y NZ EZ s H locs M → lv_has ls 10 [(0, .ref (Y.2.1 0)), (1, .int x1), (2, .int x2), (3, .int x3), (4, .int x4), (5, .int x5), (6, .int x6)] → W p l e ({ frames := 2 * d + 6, cells := 0, slots := 0, locals := 56 * d + 203 } : Room) s m args below meth c H locs 0 0 (sy_ZI below args s Y NZ EZ Q) (F0 m 13 ls [.int s1, .ref (Y.2.1 0)]) := by
  have hx := C.1.1
  have hb := C.1.2.1
  intro M x1 x2 x3 x4 x5 x6 s1 H locs ls hq hh hl
  unfold wX12_cutBy_13 at hq
  refine lv_iload_n hx hb dX12_cutBy_13 rfl (lv_at hl 1 rfl) ?_
  refine lv_iload_n hx hb dX12_cutBy_14 rfl (lv_at hl 3 rfl) ?_
  refine lv_iload_n hx hb dX12_cutBy_15 rfl (lv_at hl 2 rfl) ?_
  refine sy_cIV C hh (As := [.int s1, .int x1, .int x3, .int x2]) (rest := []) 0 (by decide) (oZ_0 Y) rfl (mX12_firstPart l Y _ M s1 x1 x3 x2 _ hq) (cwV 4 C.1.2.2.2.2 (sy_goodV uZ_good uZ_236 uZ_237 uZ_238 uZ_55 uZ_235 _) rfl rfl rfl hdX12_firstPart ⟨by dsimp only; omega, by dsimp only; omega⟩) rfl hl.1 rfl (Nat.le_of_ble_eq_true rfl) dX12_cutBy_16 (fun r3 M2 H locs hq hh => ?_)
  refine lv_istore (lv' := [(7, .int r3), (0, .ref (Y.2.1 0)), (1, .int x1), (2, .int x2), (3, .int x3), (4, .int x4), (5, .int x5), (6, .int x6)]) hx hb dX12_cutBy_19 hl (by decide) rfl (fun ls hl => ?_)
  refine lv_aload_n hx hb dX12_cutBy_21 rfl (lv_at hl 1 rfl) ?_
  refine lv_iload_n hx hb dX12_cutBy_22 rfl (lv_at hl 2 rfl) ?_
  refine lv_iload_n hx hb dX12_cutBy_23 rfl (lv_at hl 2 rfl) ?_
  refine lv_iload_n hx hb dX12_cutBy_24 rfl (lv_at hl 4 rfl) ?_
  refine lv_iadd hx hb dX12_cutBy_25 ?_
  refine lv_iload hx hb dX12_cutBy_26 (lv_at hl 5 rfl) ?_
  refine lv_if_ne (tgt := 36) hx hb dX12_cutBy_28 (by decide) (fun c4 => ?_) (fun c4 => ?_)
  · have hq := hq.1 c4
    refine lv_iload hx hb dX12_cutBy_36 (lv_at hl 6 rfl) ?_
    refine kX12_cutBy_38 C hrec  M2 x1 x2 x3 x4 x5 x6 r3 x1 (x1 + x3) x5 _ _ _ hq hh (lv_sub hl [1, 2, 3, 4, 5, 6, 7, 0] rfl)
  · have hq := hq.2 c4
    refine lv_iload hx hb dX12_cutBy_31 (lv_at hl 0 rfl) ?_
    refine lv_goto (tgt := 38) hx hb dX12_cutBy_33 (by decide) ?_
    refine kX12_cutBy_38 C hrec  M2 x1 x2 x3 x4 x5 x6 r3 x1 (x1 + x3) r3 _ _ _ hq hh (lv_sub hl [1, 2, 3, 4, 5, 6, 7, 0] rfl)

end
set_option maxHeartbeats 4000000 in
set_option maxRecDepth 100000 in
theorem mX12_cutBy {l : Launch} {Y : sy_Y} {rec : sy_M → Int32 → Int32 → Int32 → Int32 → (Int32 → sy_M → Prop) → Prop} {d : Nat} (hrec : ∀ (sz : Nat) (M : sy_M) (a1 : Int32) (a2 : Int32) (a3 : Int32) (a4 : Int32) (Q : Int32 → sy_M → Prop), rec M a1 a2 a3 a4 Q → Met l yX12_cutWorst vsX12_cutWorst ({ frames := 2 * d + 5, cells := 0, slots := 0, locals := 56 * d + 176 } : Room) (va_Pc [.ref (Y.2.1 0), .int a1, .int a2, .int a3, .int a4] (sy_pre Y NZ EZ tfZ sz M)) (sy_QI Y NZ EZ sz Q) 0 0 (sy_A NZ Y.2.1 sz)) (sz : Nat) (M : sy_M) (a1 : Int32) (a2 : Int32) (a3 : Int32) (a4 : Int32) (a5 : Int32) (a6 : Int32) (Q : Int32 → sy_M → Prop) (hq : wX12_cutBy rec M a1 a2 a3 a4 a5 a6 Q) : Met l yX12_cutBy vsX12_cutBy ({ frames := 2 * d + 6, cells := 0, slots := 0, locals := 56 * d + 203 } : Room) (va_Pc [.ref (Y.2.1 0), .int a1, .int a2, .int a3, .int a4, .int a5, .int a6] (sy_pre Y NZ EZ tfZ sz M)) (sy_QI Y NZ EZ sz Q) 0 0 (sy_A NZ Y.2.1 sz) := by
  refine sy_metI (by decide) rfl (Nat.le_of_ble_eq_true rfl) ?_
  intro p e s m args below meth c C ls hl hh
  have hx := C.1.1
  have hb := C.1.2.1
  have hl : lv_has ls 10 [(0, .ref (Y.2.1 0)), (1, .int a1), (2, .int a2), (3, .int a3), (4, .int a4), (5, .int a5), (6, .int a6)] := hl
  unfold wX12_cutBy at hq
  refine lv_aload_n hx hb dX12_cutBy_0 rfl (lv_at hl 0 rfl) ?_
  refine lv_iload hx hb dX12_cutBy_1 (lv_at hl 4 rfl) ?_
  refine lv_if_ne (tgt := 11) hx hb dX12_cutBy_3 (by decide) (fun c1 => ?_) (fun c1 => ?_)
  · have hq := hq.1 c1
    refine lv_iload hx hb dX12_cutBy_11 (lv_at hl 6 rfl) ?_
    refine kX12_cutBy_13 C hrec  M a1 a2 a3 a4 a5 a6 a6 _ _ _ hq hh (lv_sub hl [0, 1, 2, 3, 4, 5, 6] rfl)
  · have hq := hq.2 c1
    refine lv_iload hx hb dX12_cutBy_6 (lv_at hl 5 rfl) ?_
    refine lv_goto (tgt := 13) hx hb dX12_cutBy_8 (by decide) ?_
    refine kX12_cutBy_13 C hrec  M a1 a2 a3 a4 a5 a6 a5 _ _ _ hq hh (lv_sub hl [0, 1, 2, 3, 4, 5, 6] rfl)

/-! AreaSetterModel.cutWorst(IIII)I -/
def wX12_cutWorst_39 (rec : sy_M → Int32 → Int32 → Int32 → Int32 → (Int32 → sy_M → Prop) → Prop) (K_71 : sy_M → Int32 → Int32 → Int32 → Int32 → Int32 → Int32 → Prop) (Q : Int32 → sy_M → Prop) : Nat → sy_M → Int32 → Int32 → Int32 → Int32 → Int32 → Int32 → Int32 → Prop
  | 0, _, _, _, _, _, _, _, _ => False
  | n + 1, M, x1, x2, x3, x4, x5, x6, x7 => (((nI 2) ≤ x7 → K_71 M x1 x2 x3 x4 x5 x6) ∧ (¬ (nI 2) ≤ x7 → wX12_cutBy rec M x1 x2 x6 x7 x3 x4 (fun r5 M4 => wX12_cutWorst_39 rec K_71 Q n M4 x1 x2 x3 x4 (imin x5 r5) x6 (x7 + (1 : Int32)))))
def wX12_cutWorst_28 (rec : sy_M → Int32 → Int32 → Int32 → Int32 → (Int32 → sy_M → Prop) → Prop) (Q : Int32 → sy_M → Prop) : Nat → sy_M → Int32 → Int32 → Int32 → Int32 → Int32 → Int32 → Prop
  | 0, _, _, _, _, _, _, _ => False
  | n + 1, M, x1, x2, x3, x4, x5, x6 => (((x2 - x1) ≤ x6 → Q x5 M) ∧ (¬ (x2 - x1) ≤ x6 → ∃ n13 : Nat, wX12_cutWorst_39 rec (fun (M6 : sy_M) (x1_7 : Int32) (x2_8 : Int32) (x3_9 : Int32) (x4_10 : Int32) (x5_11 : Int32) (x6_12 : Int32) => wX12_cutWorst_28 rec Q n M6 x1_7 x2_8 x3_9 x4_10 x5_11 (x6_12 + (1 : Int32))) Q n13 M x1 x2 x3 x4 x5 x6 (0 : Int32)))
def wX12_cutWorst_b (rec : sy_M → Int32 → Int32 → Int32 → Int32 → (Int32 → sy_M → Prop) → Prop) (M : sy_M) (a1 : Int32) (a2 : Int32) (a3 : Int32) (a4 : Int32) (Q : Int32 → sy_M → Prop) : Prop := ((¬ (a2 - a1) = (1 : Int32) → ∃ n14 : Nat, wX12_cutWorst_28 rec  Q n14 M a1 a2 a3 a4 (nI 2147483647) (1 : Int32)) ∧ ((a2 - a1) = (1 : Int32) → ∃ n15 : Nat, n15 < 9 ∧ a1 = nI n15 ∧ wX12_shape M (M 17 n15) a3 a4 (fun r17 M16 => Q r17 M16)))
def wX12_cutWorst : Nat → sy_M → Int32 → Int32 → Int32 → Int32 → (Int32 → sy_M → Prop) → Prop
  | 0, _, _, _, _, _, _ => False
  | d + 1, M, a1, a2, a3, a4, Q => wX12_cutWorst_b (wX12_cutWorst d) M a1 a2 a3 a4 Q
section
variable {p : Program} {l : Launch} {e : Env} {s : State} {m : MethodId} {args : Array Value} {below : List Frame} {meth : Method} {c : Code} {Y : sy_Y}
set_option maxHeartbeats 4000000 in
set_option maxRecDepth 100000 in
theorem kX12_cutWorst_39 (C : sy_C p m c cX12_cutWorst 8 s args vsX12_cutWorst RX12 meth (some .int) Y NZ tfZ) {rec : sy_M → Int32 → Int32 → Int32 → Int32 → (Int32 → sy_M → Prop) → Prop} {d : Nat} (hrec : ∀ (sz : Nat) (M : sy_M) (a1 : Int32) (a2 : Int32) (a3 : Int32) (a4 : Int32) (Q : Int32 → sy_M → Prop), rec M a1 a2 a3 a4 Q → Met l yX12_cutWorst vsX12_cutWorst ({ frames := 2 * d + 5, cells := 0, slots := 0, locals := 56 * d + 176 } : Room) (va_Pc [.ref (Y.2.1 0), .int a1, .int a2, .int a3, .int a4] (sy_pre Y NZ EZ tfZ sz M)) (sy_QI Y NZ EZ sz Q) 0 0 (sy_A NZ Y.2.1 sz)) {Q : Int32 → sy_M → Prop} {K_71 : sy_M → Int32 → Int32 → Int32 → Int32 → Int32 → Int32 → Prop} (hK_71 : ∀ (M : sy_M) (x1 : Int32) (x2 : Int32) (x3 : Int32) (x4 : Int32) (x5 : Int32) (x6 : Int32) (H : Heap) (locs : List Loc) (ls : Array Slot), K_71 M x1 x2 x3 x4 x5 x6 → sy_H Y NZ EZ s H locs M → lv_has ls 8 [(0, .ref (Y.2.1 0)), (1, .int x1), (2, .int x2), (3, .int x3), (4, .int x4), (5, .int x5), (6, .int x6)] → W p l e ({ frames := 2 * (d + 1) + 5, cells := 0, slots := 0, locals := 56 * (d + 1) + 176 } : Room) s m args below meth c H locs 0 0 (sy_ZI below args s Y NZ EZ Q) (F0 m 71 ls [])) :
    ∀ (n : Nat) (M : sy_M) (x1 : Int32) (x2 : Int32) (x3 : Int32) (x4 : Int32) (x5 : Int32) (x6 : Int32) (x7 : Int32) (H : Heap) (locs : List Loc) (ls : Array Slot), wX12_cutWorst_39 rec K_71 Q n M x1 x2 x3 x4 x5 x6 x7 → sy_H Y NZ EZ s H locs M → lv_has ls 8 [(0, .ref (Y.2.1 0)), (1, .int x1), (2, .int x2), (3, .int x3), (4, .int x4), (5, .int x5), (6, .int x6), (7, .int x7)] → W p l e ({ frames := 2 * (d + 1) + 5, cells := 0, slots := 0, locals := 56 * (d + 1) + 176 } : Room) s m args below meth c H locs 0 0 (sy_ZI below args s Y NZ EZ Q) (F0 m 39 ls []) := by
  have hx := C.1.1
  have hb := C.1.2.1
  intro n
  induction n with
  | zero =>
    intro M x1 x2 x3 x4 x5 x6 x7 H locs ls hq hh hl
    unfold wX12_cutWorst_39 at hq
    exact hq.elim
  | succ n ih =>
    intro M x1 x2 x3 x4 x5 x6 x7 H locs ls hq hh hl
    unfold wX12_cutWorst_39 at hq
    refine lv_iload hx hb dX12_cutWorst_39 (lv_at hl 7 rfl) ?_
    refine lv_iconst (v := (nI 2)) hx hb dX12_cutWorst_41 (by decide) ?_
    refine lv_icmp_ge (tgt := 71) hx hb dX12_cutWorst_42 (by decide) (fun c3 => ?_) (fun c3 => ?_)
    · have hq := hq.1 c3
      exact hK_71 M x1 x2 x3 x4 x5 x6 _ _ _ hq hh (lv_sub hl [0, 1, 2, 3, 4, 5, 6] rfl)
    · have hq := hq.2 c3
      refine lv_iload hx hb dX12_cutWorst_45 (lv_at hl 5 rfl) ?_
      refine lv_aload_n hx hb dX12_cutWorst_47 rfl (lv_at hl 0 rfl) ?_
      refine lv_iload_n hx hb dX12_cutWorst_48 rfl (lv_at hl 1 rfl) ?_
      refine lv_iload_n hx hb dX12_cutWorst_49 rfl (lv_at hl 2 rfl) ?_
      refine lv_iload hx hb dX12_cutWorst_50 (lv_at hl 6 rfl) ?_
      refine lv_iload hx hb dX12_cutWorst_52 (lv_at hl 7 rfl) ?_
      refine lv_iload_n hx hb dX12_cutWorst_54 rfl (lv_at hl 3 rfl) ?_
      refine lv_iload hx hb dX12_cutWorst_55 (lv_at hl 4 rfl) ?_
      refine sy_cIV C hh (As := [.int x1, .int x2, .int x6, .int x7, .int x3, .int x4]) (rest := [.int x5]) 0 (by decide) (oZ_0 Y) rfl (mX12_cutBy hrec _ M x1 x2 x6 x7 x3 x4 _ hq) (cwV 6 C.1.2.2.2.2 (sy_goodV uZ_good uZ_247 uZ_248 uZ_249 uZ_55 uZ_250 _) rfl rfl rfl hdX12_cutBy ⟨by dsimp only; omega, by dsimp only; omega⟩) rfl hl.1 rfl (Nat.le_of_ble_eq_true rfl) dX12_cutWorst_57 (fun r5 M4 H locs hq hh => ?_)
      refine sy_mmin C hl (index := 304) (mc uZ_244) (mc uZ_245) (mc uZ_198) (mc uZ_246) (by dsimp only; omega) (by simp [Value.category] <;> omega) dX12_cutWorst_60 ?_
      refine lv_istore (lv' := [(5, .int (imin x5 r5)), (0, .ref (Y.2.1 0)), (1, .int x1), (2, .int x2), (3, .int x3), (4, .int x4), (6, .int x6), (7, .int x7)]) hx hb dX12_cutWorst_63 hl (by decide) rfl (fun ls hl => ?_)
      refine lv_iinc (v := (x7 + (1 : Int32))) (lv' := [(7, .int (x7 + (1 : Int32))), (5, .int (imin x5 r5)), (0, .ref (Y.2.1 0)), (1, .int x1), (2, .int x2), (3, .int x3), (4, .int x4), (6, .int x6)]) hx hb dX12_cutWorst_65 hl (k := 7) rfl (sy_inc (by decide)) (by decide) rfl (fun ls hl => ?_)
      refine lv_goto (tgt := 39) hx hb dX12_cutWorst_68 (by decide) ?_
      exact ih M4 x1 x2 x3 x4 (imin x5 r5) x6 (x7 + (1 : Int32)) _ _ _ hq hh (lv_sub hl [2, 3, 4, 5, 6, 1, 7, 0] rfl)

set_option maxHeartbeats 4000000 in
set_option maxRecDepth 100000 in
theorem kX12_cutWorst_28 (C : sy_C p m c cX12_cutWorst 8 s args vsX12_cutWorst RX12 meth (some .int) Y NZ tfZ) {rec : sy_M → Int32 → Int32 → Int32 → Int32 → (Int32 → sy_M → Prop) → Prop} {d : Nat} (hrec : ∀ (sz : Nat) (M : sy_M) (a1 : Int32) (a2 : Int32) (a3 : Int32) (a4 : Int32) (Q : Int32 → sy_M → Prop), rec M a1 a2 a3 a4 Q → Met l yX12_cutWorst vsX12_cutWorst ({ frames := 2 * d + 5, cells := 0, slots := 0, locals := 56 * d + 176 } : Room) (va_Pc [.ref (Y.2.1 0), .int a1, .int a2, .int a3, .int a4] (sy_pre Y NZ EZ tfZ sz M)) (sy_QI Y NZ EZ sz Q) 0 0 (sy_A NZ Y.2.1 sz)) {Q : Int32 → sy_M → Prop} :
    ∀ (n : Nat) (M : sy_M) (x1 : Int32) (x2 : Int32) (x3 : Int32) (x4 : Int32) (x5 : Int32) (x6 : Int32) (H : Heap) (locs : List Loc) (ls : Array Slot), wX12_cutWorst_28 rec Q n M x1 x2 x3 x4 x5 x6 → sy_H Y NZ EZ s H locs M → lv_has ls 8 [(0, .ref (Y.2.1 0)), (1, .int x1), (2, .int x2), (3, .int x3), (4, .int x4), (5, .int x5), (6, .int x6)] → W p l e ({ frames := 2 * (d + 1) + 5, cells := 0, slots := 0, locals := 56 * (d + 1) + 176 } : Room) s m args below meth c H locs 0 0 (sy_ZI below args s Y NZ EZ Q) (F0 m 28 ls []) := by
  have hx := C.1.1
  have hb := C.1.2.1
  intro n
  induction n with
  | zero =>
    intro M x1 x2 x3 x4 x5 x6 H locs ls hq hh hl
    unfold wX12_cutWorst_28 at hq
    exact hq.elim
  | succ n ih =>
    intro M x1 x2 x3 x4 x5 x6 H locs ls hq hh hl
    unfold wX12_cutWorst_28 at hq
    refine lv_iload hx hb dX12_cutWorst_28 (lv_at hl 6 rfl) ?_
    refine lv_iload_n hx hb dX12_cutWorst_30 rfl (lv_at hl 2 rfl) ?_
    refine lv_iload_n hx hb dX12_cutWorst_31 rfl (lv_at hl 1 rfl) ?_
    refine lv_isub hx hb dX12_cutWorst_32 ?_
    refine lv_icmp_ge (tgt := 77) hx hb dX12_cutWorst_33 (by decide) (fun c2 => ?_) (fun c2 => ?_)
    · have hq := hq.1 c2
      refine lv_iload hx hb dX12_cutWorst_77 (lv_at hl 5 rfl) ?_
      exact sy_iret C hh dX12_cutWorst_79 hq
    · have hq := hq.2 c2
      refine lv_iconst (v := (0 : Int32)) hx hb dX12_cutWorst_36 (by decide) ?_
      refine lv_istore (lv' := [(7, .int (0 : Int32)), (0, .ref (Y.2.1 0)), (1, .int x1), (2, .int x2), (3, .int x3), (4, .int x4), (5, .int x5), (6, .int x6)]) hx hb dX12_cutWorst_37 hl (by decide) rfl (fun ls hl => ?_)
      obtain ⟨n13, hq⟩ := hq
      refine kX12_cutWorst_39 C hrec (fun M6 x1_7 x2_8 x3_9 x4_10 x5_11 x6_12 H locs ls hq hh hl => ?_) n13 M x1 x2 x3 x4 x5 x6 (0 : Int32) _ _ _ hq hh (lv_sub hl [1, 2, 3, 4, 5, 6, 7, 0] rfl)
      · refine lv_iinc (v := (x6_12 + (1 : Int32))) (lv' := [(6, .int (x6_12 + (1 : Int32))), (0, .ref (Y.2.1 0)), (1, .int x1_7), (2, .int x2_8), (3, .int x3_9), (4, .int x4_10), (5, .int x5_11)]) hx hb dX12_cutWorst_71 hl (k := 6) rfl (sy_inc (by decide)) (by decide) rfl (fun ls hl => ?_)
        refine lv_goto (tgt := 28) hx hb dX12_cutWorst_74 (by decide) ?_
        exact ih M6 x1_7 x2_8 x3_9 x4_10 x5_11 (x6_12 + (1 : Int32)) _ _ _ hq hh (lv_sub hl [1, 2, 3, 4, 5, 6, 0] rfl)

end
set_option maxHeartbeats 4000000 in
set_option maxRecDepth 100000 in
theorem mX12_cutWorst_b {l : Launch} {Y : sy_Y} {rec : sy_M → Int32 → Int32 → Int32 → Int32 → (Int32 → sy_M → Prop) → Prop} {d : Nat} (hrec : ∀ (sz : Nat) (M : sy_M) (a1 : Int32) (a2 : Int32) (a3 : Int32) (a4 : Int32) (Q : Int32 → sy_M → Prop), rec M a1 a2 a3 a4 Q → Met l yX12_cutWorst vsX12_cutWorst ({ frames := 2 * d + 5, cells := 0, slots := 0, locals := 56 * d + 176 } : Room) (va_Pc [.ref (Y.2.1 0), .int a1, .int a2, .int a3, .int a4] (sy_pre Y NZ EZ tfZ sz M)) (sy_QI Y NZ EZ sz Q) 0 0 (sy_A NZ Y.2.1 sz)) (sz : Nat) (M : sy_M) (a1 : Int32) (a2 : Int32) (a3 : Int32) (a4 : Int32) (Q : Int32 → sy_M → Prop) (hq : wX12_cutWorst_b rec M a1 a2 a3 a4 Q) : Met l yX12_cutWorst vsX12_cutWorst ({ frames := 2 * (d + 1) + 5, cells := 0, slots := 0, locals := 56 * (d + 1) + 176 } : Room) (va_Pc [.ref (Y.2.1 0), .int a1, .int a2, .int a3, .int a4] (sy_pre Y NZ EZ tfZ sz M)) (sy_QI Y NZ EZ sz Q) 0 0 (sy_A NZ Y.2.1 sz) := by
  refine sy_metI (by decide) rfl (Nat.le_of_ble_eq_true rfl) ?_
  intro p e s m args below meth c C ls hl hh
  have hx := C.1.1
  have hb := C.1.2.1
  have hl : lv_has ls 8 [(0, .ref (Y.2.1 0)), (1, .int a1), (2, .int a2), (3, .int a3), (4, .int a4)] := hl
  unfold wX12_cutWorst_b at hq
  refine lv_iload_n hx hb dX12_cutWorst_0 rfl (lv_at hl 2 rfl) ?_
  refine lv_iload_n hx hb dX12_cutWorst_1 rfl (lv_at hl 1 rfl) ?_
  refine lv_isub hx hb dX12_cutWorst_2 ?_
  refine lv_iconst (v := (1 : Int32)) hx hb dX12_cutWorst_3 (by decide) ?_
  refine lv_icmp_ne (tgt := 20) hx hb dX12_cutWorst_4 (by decide) (fun c1 => ?_) (fun c1 => ?_)
  · have hq := hq.1 c1
    refine lv_ldcw (v := (nI 2147483647)) hx hb C.1.2.2.2.1 (C.1.2.2.2.2 (.constant RX12 299 (nI 2147483647)) (mc uZ_243)) dX12_cutWorst_20 ?_
    refine lv_istore (lv' := [(5, .int (nI 2147483647)), (0, .ref (Y.2.1 0)), (1, .int a1), (2, .int a2), (3, .int a3), (4, .int a4)]) hx hb dX12_cutWorst_23 hl (by decide) rfl (fun ls hl => ?_)
    refine lv_iconst (v := (1 : Int32)) hx hb dX12_cutWorst_25 (by decide) ?_
    refine lv_istore (lv' := [(6, .int (1 : Int32)), (5, .int (nI 2147483647)), (0, .ref (Y.2.1 0)), (1, .int a1), (2, .int a2), (3, .int a3), (4, .int a4)]) hx hb dX12_cutWorst_26 hl (by decide) rfl (fun ls hl => ?_)
    obtain ⟨n14, hq⟩ := hq
    refine kX12_cutWorst_28 C hrec  n14 M a1 a2 a3 a4 (nI 2147483647) (1 : Int32) _ _ _ hq hh (lv_sub hl [2, 3, 4, 5, 6, 1, 0] rfl)
  · have hq := hq.2 c1
    refine lv_aload_n hx hb dX12_cutWorst_7 rfl (lv_at hl 0 rfl) ?_
    refine sy_get C hh (fun w h => mc (uZ_fX12 w h)) 0 (by decide) (oZ_0 Y) rfl 32 (by decide) (index := 73) (mc uZ_28) (v := .ref (Y.2.1 17)) rfl dX12_cutWorst_8 ?_
    refine lv_iload_n hx hb dX12_cutWorst_11 rfl (lv_at hl 1 rfl) ?_
    obtain ⟨n15, hn15, en15, hq⟩ := hq
    refine sy_iald C hh 17 (by decide) (aZ_17 Y) tZ_17 hn15 en15 (by decide) dX12_cutWorst_12 ?_
    refine lv_iload_n hx hb dX12_cutWorst_13 rfl (lv_at hl 3 rfl) ?_
    refine lv_iload hx hb dX12_cutWorst_14 (lv_at hl 4 rfl) ?_
    refine sy_cIS C hh (As := [.int (M 17 n15), .int a3, .int a4]) (rest := []) (mX12_shape l Y _ M (M 17 n15) a3 a4 _ hq) (va_cwS 3 C.1.2.2.2.2 (sy_goodS uZ_good uZ_200 uZ_201 uZ_55 uZ_192 _) rfl rfl rfl hdX12_shape.2 ⟨by dsimp only; omega, by dsimp only; omega⟩) rfl hl.1 rfl (Nat.le_of_ble_eq_true rfl) dX12_cutWorst_16 (fun r17 M16 H locs hq hh => ?_)
    exact sy_iret C hh dX12_cutWorst_19 hq

set_option maxHeartbeats 4000000 in
theorem mX12_cutWorst (l : Launch) (Y : sy_Y) : ∀ (d : Nat) (sz : Nat) (M : sy_M) (a1 : Int32) (a2 : Int32) (a3 : Int32) (a4 : Int32) (Q : Int32 → sy_M → Prop), wX12_cutWorst d M a1 a2 a3 a4 Q → Met l yX12_cutWorst vsX12_cutWorst ({ frames := 2 * d + 5, cells := 0, slots := 0, locals := 56 * d + 176 } : Room) (va_Pc [.ref (Y.2.1 0), .int a1, .int a2, .int a3, .int a4] (sy_pre Y NZ EZ tfZ sz M)) (sy_QI Y NZ EZ sz Q) 0 0 (sy_A NZ Y.2.1 sz)
  | 0, _, _, _, _, _, _, _, hq => by unfold wX12_cutWorst at hq; exact hq.elim
  | d + 1, sz, M, a1, a2, a3, a4, Q, hq => by
    unfold wX12_cutWorst at hq
    exact mX12_cutWorst_b (d := d) (rec := wX12_cutWorst d) (fun sz M => mX12_cutWorst l Y d sz M) sz M a1 a2 a3 a4 Q hq
/-! AreaSetterModel.laysCuts(IIIIII)V -/
def wX12_laysCuts_94 (rec : sy_M → Int32 → Int32 → Int32 → Int32 → Int32 → Int32 → (sy_M → Prop) → Prop) (K_48 : sy_M → Int32 → Int32 → Int32 → Int32 → Int32 → Int32 → Int32 → Int32 → Int32 → Prop) (Q : sy_M → Prop) (M : sy_M) (x1 : Int32) (x2 : Int32) (x3 : Int32) (x4 : Int32) (x5 : Int32) (x6 : Int32) (x9 : Int32) (x10 : Int32) : Prop := K_48 M x1 x2 x3 x4 x5 x6 x9 x10 (x9 + (1 : Int32))
def wX12_laysCuts_48 (rec : sy_M → Int32 → Int32 → Int32 → Int32 → Int32 → Int32 → (sy_M → Prop) → Prop) (K_108 : sy_M → Int32 → Int32 → Int32 → Int32 → Int32 → Int32 → Int32 → Prop) (Q : sy_M → Prop) : Nat → sy_M → Int32 → Int32 → Int32 → Int32 → Int32 → Int32 → Int32 → Int32 → Int32 → Prop
  | 0, _, _, _, _, _, _, _, _, _, _ => False
  | n + 1, M, x1, x2, x3, x4, x5, x6, x7, x8, x9 => ((((nI 2) * (x2 - x1)) ≤ x9 → K_108 M x1 x2 x3 x4 x5 x6 x7) ∧ (¬ ((nI 2) * (x2 - x1)) ≤ x9 → wX12_cutBy (wX12_cutWorst 9) M x1 x2 (x9 / (nI 2)) (x9 - x9 / (nI 2) * (nI 2)) x5 x6 (fun r4 M3 => ((x7 = (-1 : Int32) → wX12_laysCuts_94 rec (fun (M6 : sy_M) (x1_7 : Int32) (x2_8 : Int32) (x3_9 : Int32) (x4_10 : Int32) (x5_11 : Int32) (x6_12 : Int32) (x7_13 : Int32) (x8_14 : Int32) (x9_15 : Int32) => wX12_laysCuts_48 rec K_108 Q n M6 x1_7 x2_8 x3_9 x4_10 x5_11 x6_12 x7_13 x8_14 x9_15) Q M3 x1 x2 x3 x4 x5 x6 x9 r4) ∧ (¬ x7 = (-1 : Int32) → ((r4 < x8 → wX12_laysCuts_94 rec (fun (M17 : sy_M) (x1_18 : Int32) (x2_19 : Int32) (x3_20 : Int32) (x4_21 : Int32) (x5_22 : Int32) (x6_23 : Int32) (x7_24 : Int32) (x8_25 : Int32) (x9_26 : Int32) => wX12_laysCuts_48 rec K_108 Q n M17 x1_18 x2_19 x3_20 x4_21 x5_22 x6_23 x7_24 x8_25 x9_26) Q M3 x1 x2 x3 x4 x5 x6 x9 r4) ∧ (¬ r4 < x8 → wX12_laysCuts_48 rec K_108 Q n M3 x1 x2 x3 x4 x5 x6 x7 x8 (x9 + (1 : Int32)))))))))
def wX12_laysCuts_235 (rec : sy_M → Int32 → Int32 → Int32 → Int32 → Int32 → Int32 → (sy_M → Prop) → Prop) (Q : sy_M → Prop) (M : sy_M) (x6 : Int32) (x10 : Int32) (x11 : Int32) (s1 : Int32) (s2 : Int32) (s3 : Int32) (s4 : Int32) (s5 : Int32) : Prop := ((x10 = 0 → rec M s1 s2 s3 s4 s5 (x6 - x11) (fun M46 => Q M46)) ∧ (¬ x10 = 0 → rec M s1 s2 s3 s4 s5 x6 (fun M47 => Q M47)))
def wX12_laysCuts_220 (rec : sy_M → Int32 → Int32 → Int32 → Int32 → Int32 → Int32 → (sy_M → Prop) → Prop) (Q : sy_M → Prop) (M : sy_M) (x5 : Int32) (x6 : Int32) (x10 : Int32) (x11 : Int32) (s1 : Int32) (s2 : Int32) (s3 : Int32) (s4 : Int32) : Prop := ((x10 = 0 → wX12_laysCuts_235 rec  Q M x6 x10 x11 s1 s2 s3 s4 x5) ∧ (¬ x10 = 0 → wX12_laysCuts_235 rec  Q M x6 x10 x11 s1 s2 s3 s4 (x5 - x11)))
def wX12_laysCuts_205 (rec : sy_M → Int32 → Int32 → Int32 → Int32 → Int32 → Int32 → (sy_M → Prop) → Prop) (Q : sy_M → Prop) (M : sy_M) (x4 : Int32) (x5 : Int32) (x6 : Int32) (x10 : Int32) (x11 : Int32) (s1 : Int32) (s2 : Int32) (s3 : Int32) : Prop := ((x10 = 0 → wX12_laysCuts_220 rec  Q M x5 x6 x10 x11 s1 s2 s3 (x4 + x11)) ∧ (¬ x10 = 0 → wX12_laysCuts_220 rec  Q M x5 x6 x10 x11 s1 s2 s3 x4))
def wX12_laysCuts_183 (rec : sy_M → Int32 → Int32 → Int32 → Int32 → Int32 → Int32 → (sy_M → Prop) → Prop) (Q : sy_M → Prop) (M : sy_M) (x1 : Int32) (x2 : Int32) (x3 : Int32) (x4 : Int32) (x5 : Int32) (x6 : Int32) (x9 : Int32) (x10 : Int32) (x11 : Int32) (s1 : Int32) (s2 : Int32) (s3 : Int32) (s4 : Int32) (s5 : Int32) (s6 : Int32) : Prop := rec M s1 s2 s3 s4 s5 s6 (fun M41 => ((x10 = 0 → wX12_laysCuts_205 rec  Q M41 x4 x5 x6 x10 x11 (x1 + x9) x2 x3) ∧ (¬ x10 = 0 → wX12_laysCuts_205 rec  Q M41 x4 x5 x6 x10 x11 (x1 + x9) x2 (x3 + x11))))
def wX12_laysCuts_171 (rec : sy_M → Int32 → Int32 → Int32 → Int32 → Int32 → Int32 → (sy_M → Prop) → Prop) (Q : sy_M → Prop) (M : sy_M) (x1 : Int32) (x2 : Int32) (x3 : Int32) (x4 : Int32) (x5 : Int32) (x6 : Int32) (x9 : Int32) (x10 : Int32) (x11 : Int32) (s1 : Int32) (s2 : Int32) (s3 : Int32) (s4 : Int32) (s5 : Int32) : Prop := ((x10 = 0 → wX12_laysCuts_183 rec  Q M x1 x2 x3 x4 x5 x6 x9 x10 x11 s1 s2 s3 s4 s5 x11) ∧ (¬ x10 = 0 → wX12_laysCuts_183 rec  Q M x1 x2 x3 x4 x5 x6 x9 x10 x11 s1 s2 s3 s4 s5 x6))
def wX12_laysCuts_141 (rec : sy_M → Int32 → Int32 → Int32 → Int32 → Int32 → Int32 → (sy_M → Prop) → Prop) (Q : sy_M → Prop) (M : sy_M) (x1 : Int32) (x2 : Int32) (x3 : Int32) (x4 : Int32) (x5 : Int32) (x6 : Int32) (x9 : Int32) (x10 : Int32) (s1 : Int32) : Prop := wX12_firstPart M s1 x1 x9 x2 (fun r38 M37 => ((x10 = 0 → wX12_laysCuts_171 rec  Q M37 x1 x2 x3 x4 x5 x6 x9 x10 r38 x1 (x1 + x9) x3 x4 x5) ∧ (¬ x10 = 0 → wX12_laysCuts_171 rec  Q M37 x1 x2 x3 x4 x5 x6 x9 x10 r38 x1 (x1 + x9) x3 x4 r38)))
def wX12_laysCuts_126 (rec : sy_M → Int32 → Int32 → Int32 → Int32 → Int32 → Int32 → (sy_M → Prop) → Prop) (Q : sy_M → Prop) (M : sy_M) (x1 : Int32) (x2 : Int32) (x3 : Int32) (x4 : Int32) (x5 : Int32) (x6 : Int32) (x9 : Int32) (s0 : Int32) : Prop := ((s0 = 0 → wX12_laysCuts_141 rec  Q M x1 x2 x3 x4 x5 x6 x9 s0 x6) ∧ (¬ s0 = 0 → wX12_laysCuts_141 rec  Q M x1 x2 x3 x4 x5 x6 x9 s0 x5))
def wX12_laysCuts_b (rec : sy_M → Int32 → Int32 → Int32 → Int32 → Int32 → Int32 → (sy_M → Prop) → Prop) (M : sy_M) (a1 : Int32) (a2 : Int32) (a3 : Int32) (a4 : Int32) (a5 : Int32) (a6 : Int32) (Q : sy_M → Prop) : Prop := ((¬ (a2 - a1) = (1 : Int32) → ∃ n48 : Nat, wX12_laysCuts_48 rec (fun (M27 : sy_M) (x1_28 : Int32) (x2_29 : Int32) (x3_30 : Int32) (x4_31 : Int32) (x5_32 : Int32) (x6_33 : Int32) (x7_34 : Int32) => ((¬ (x7_34 - x7_34 / (nI 2) * (nI 2)) = 0 → wX12_laysCuts_126 rec  Q M27 x1_28 x2_29 x3_30 x4_31 x5_32 x6_33 (x7_34 / (nI 2)) (0 : Int32)) ∧ ((x7_34 - x7_34 / (nI 2) * (nI 2)) = 0 → wX12_laysCuts_126 rec  Q M27 x1_28 x2_29 x3_30 x4_31 x5_32 x6_33 (x7_34 / (nI 2)) (1 : Int32)))) Q n48 M a1 a2 a3 a4 a5 a6 (-1 : Int32) (0 : Int32) (nI 2)) ∧ ((a2 - a1) = (1 : Int32) → ∃ n49 : Nat, n49 < 9 ∧ a1 = nI n49 ∧ Q (mu (mu (mu (mu M 18 n49 a3) 19 n49 a4) 20 n49 a5) 21 n49 a6)))
def wX12_laysCuts : Nat → sy_M → Int32 → Int32 → Int32 → Int32 → Int32 → Int32 → (sy_M → Prop) → Prop
  | 0, _, _, _, _, _, _, _, _ => False
  | d + 1, M, a1, a2, a3, a4, a5, a6, Q => wX12_laysCuts_b (wX12_laysCuts d) M a1 a2 a3 a4 a5 a6 Q
section
variable {p : Program} {l : Launch} {e : Env} {s : State} {m : MethodId} {args : Array Value} {below : List Frame} {meth : Method} {c : Code} {Y : sy_Y}
set_option maxHeartbeats 4000000 in
set_option maxRecDepth 100000 in
theorem kX12_laysCuts_94 (C : sy_C p m c cX12_laysCuts 12 s args vsX12_laysCuts RX12 meth none Y NZ tfZ) {rec : sy_M → Int32 → Int32 → Int32 → Int32 → Int32 → Int32 → (sy_M → Prop) → Prop} {d : Nat} (hrec : ∀ (sz : Nat) (M : sy_M) (a1 : Int32) (a2 : Int32) (a3 : Int32) (a4 : Int32) (a5 : Int32) (a6 : Int32) (Q : sy_M → Prop), rec M a1 a2 a3 a4 a5 a6 Q → Met l yX12_laysCuts vsX12_laysCuts ({ frames := 1 * d + 29, cells := 0, slots := 0, locals := 31 * d + 883 } : Room) (va_Pc [.ref (Y.2.1 0), .int a1, .int a2, .int a3, .int a4, .int a5, .int a6] (sy_pre Y NZ EZ tfZ sz M)) (sy_QV Y NZ EZ sz Q) 0 0 (sy_A NZ Y.2.1 sz)) {Q : sy_M → Prop} {K_48 : sy_M → Int32 → Int32 → Int32 → Int32 → Int32 → Int32 → Int32 → Int32 → Int32 → Prop} (hK_48 : ∀ (M : sy_M) (x1 : Int32) (x2 : Int32) (x3 : Int32) (x4 : Int32) (x5 : Int32) (x6 : Int32) (x7 : Int32) (x8 : Int32) (x9 : Int32) (H : Heap) (locs : List Loc) (ls : Array Slot), K_48 M x1 x2 x3 x4 x5 x6 x7 x8 x9 → sy_H Y NZ EZ s H locs M → lv_has ls 12 [(0, .ref (Y.2.1 0)), (1, .int x1), (2, .int x2), (3, .int x3), (4, .int x4), (5, .int x5), (6, .int x6), (7, .int x7), (8, .int x8), (9, .int x9)] → W p l e ({ frames := 1 * (d + 1) + 29, cells := 0, slots := 0, locals := 31 * (d + 1) + 883 } : Room) s m args below meth c H locs 0 0 (sy_ZV below args s Y NZ EZ Q) (F0 m 48 ls [])) :
    ∀ (M : sy_M) (x1 : Int32) (x2 : Int32) (x3 : Int32) (x4 : Int32) (x5 : Int32) (x6 : Int32) (x9 : Int32) (x10 : Int32) (H : Heap) (locs : List Loc) (ls : Array Slot), wX12_laysCuts_94 rec K_48 Q M x1 x2 x3 x4 x5 x6 x9 x10 → sy_H Y NZ EZ s H locs M → lv_has ls 12 [(0, .ref (Y.2.1 0)), (1, .int x1), (2, .int x2), (3, .int x3), (4, .int x4), (5, .int x5), (6, .int x6), (9, .int x9), (10, .int x10)] → W p l e ({ frames := 1 * (d + 1) + 29, cells := 0, slots := 0, locals := 31 * (d + 1) + 883 } : Room) s m args below meth c H locs 0 0 (sy_ZV below args s Y NZ EZ Q) (F0 m 94 ls []) := by
  have hx := C.1.1
  have hb := C.1.2.1
  intro M x1 x2 x3 x4 x5 x6 x9 x10 H locs ls hq hh hl
  unfold wX12_laysCuts_94 at hq
  refine lv_iload hx hb dX12_laysCuts_94 (lv_at hl 7 rfl) ?_
  refine lv_istore (lv' := [(7, .int x9), (0, .ref (Y.2.1 0)), (1, .int x1), (2, .int x2), (3, .int x3), (4, .int x4), (5, .int x5), (6, .int x6), (9, .int x9), (10, .int x10)]) hx hb dX12_laysCuts_96 hl (by decide) rfl (fun ls hl => ?_)
  refine lv_iload hx hb dX12_laysCuts_98 (lv_at hl 9 rfl) ?_
  refine lv_istore (lv' := [(8, .int x10), (7, .int x9), (0, .ref (Y.2.1 0)), (1, .int x1), (2, .int x2), (3, .int x3), (4, .int x4), (5, .int x5), (6, .int x6), (9, .int x9), (10, .int x10)]) hx hb dX12_laysCuts_100 hl (by decide) rfl (fun ls hl => ?_)
  refine lv_iinc (v := (x9 + (1 : Int32))) (lv' := [(9, .int (x9 + (1 : Int32))), (8, .int x10), (7, .int x9), (0, .ref (Y.2.1 0)), (1, .int x1), (2, .int x2), (3, .int x3), (4, .int x4), (5, .int x5), (6, .int x6), (10, .int x10)]) hx hb dX12_laysCuts_102 hl (k := 9) rfl (sy_inc (by decide)) (by decide) rfl (fun ls hl => ?_)
  refine lv_goto (tgt := 48) hx hb dX12_laysCuts_105 (by decide) ?_
  exact hK_48 M x1 x2 x3 x4 x5 x6 x9 x10 (x9 + (1 : Int32)) _ _ _ hq hh (lv_sub hl [3, 4, 5, 6, 7, 8, 9, 2, 1, 0] rfl)

set_option maxHeartbeats 4000000 in
set_option maxRecDepth 100000 in
theorem kX12_laysCuts_48 (C : sy_C p m c cX12_laysCuts 12 s args vsX12_laysCuts RX12 meth none Y NZ tfZ) {rec : sy_M → Int32 → Int32 → Int32 → Int32 → Int32 → Int32 → (sy_M → Prop) → Prop} {d : Nat} (hrec : ∀ (sz : Nat) (M : sy_M) (a1 : Int32) (a2 : Int32) (a3 : Int32) (a4 : Int32) (a5 : Int32) (a6 : Int32) (Q : sy_M → Prop), rec M a1 a2 a3 a4 a5 a6 Q → Met l yX12_laysCuts vsX12_laysCuts ({ frames := 1 * d + 29, cells := 0, slots := 0, locals := 31 * d + 883 } : Room) (va_Pc [.ref (Y.2.1 0), .int a1, .int a2, .int a3, .int a4, .int a5, .int a6] (sy_pre Y NZ EZ tfZ sz M)) (sy_QV Y NZ EZ sz Q) 0 0 (sy_A NZ Y.2.1 sz)) {Q : sy_M → Prop} {K_108 : sy_M → Int32 → Int32 → Int32 → Int32 → Int32 → Int32 → Int32 → Prop} (hK_108 : ∀ (M : sy_M) (x1 : Int32) (x2 : Int32) (x3 : Int32) (x4 : Int32) (x5 : Int32) (x6 : Int32) (x7 : Int32) (H : Heap) (locs : List Loc) (ls : Array Slot), K_108 M x1 x2 x3 x4 x5 x6 x7 → sy_H Y NZ EZ s H locs M → lv_has ls 12 [(0, .ref (Y.2.1 0)), (1, .int x1), (2, .int x2), (3, .int x3), (4, .int x4), (5, .int x5), (6, .int x6), (7, .int x7)] → W p l e ({ frames := 1 * (d + 1) + 29, cells := 0, slots := 0, locals := 31 * (d + 1) + 883 } : Room) s m args below meth c H locs 0 0 (sy_ZV below args s Y NZ EZ Q) (F0 m 108 ls [])) :
    ∀ (n : Nat) (M : sy_M) (x1 : Int32) (x2 : Int32) (x3 : Int32) (x4 : Int32) (x5 : Int32) (x6 : Int32) (x7 : Int32) (x8 : Int32) (x9 : Int32) (H : Heap) (locs : List Loc) (ls : Array Slot), wX12_laysCuts_48 rec K_108 Q n M x1 x2 x3 x4 x5 x6 x7 x8 x9 → sy_H Y NZ EZ s H locs M → lv_has ls 12 [(0, .ref (Y.2.1 0)), (1, .int x1), (2, .int x2), (3, .int x3), (4, .int x4), (5, .int x5), (6, .int x6), (7, .int x7), (8, .int x8), (9, .int x9)] → W p l e ({ frames := 1 * (d + 1) + 29, cells := 0, slots := 0, locals := 31 * (d + 1) + 883 } : Room) s m args below meth c H locs 0 0 (sy_ZV below args s Y NZ EZ Q) (F0 m 48 ls []) := by
  have hx := C.1.1
  have hb := C.1.2.1
  intro n
  induction n with
  | zero =>
    intro M x1 x2 x3 x4 x5 x6 x7 x8 x9 H locs ls hq hh hl
    unfold wX12_laysCuts_48 at hq
    exact hq.elim
  | succ n ih =>
    intro M x1 x2 x3 x4 x5 x6 x7 x8 x9 H locs ls hq hh hl
    unfold wX12_laysCuts_48 at hq
    refine lv_iload hx hb dX12_laysCuts_48 (lv_at hl 9 rfl) ?_
    refine lv_iconst (v := (nI 2)) hx hb dX12_laysCuts_50 (by decide) ?_
    refine lv_iload_n hx hb dX12_laysCuts_51 rfl (lv_at hl 2 rfl) ?_
    refine lv_iload_n hx hb dX12_laysCuts_52 rfl (lv_at hl 1 rfl) ?_
    refine lv_isub hx hb dX12_laysCuts_53 ?_
    refine lv_imul hx hb dX12_laysCuts_54 ?_
    refine lv_icmp_ge (tgt := 108) hx hb dX12_laysCuts_55 (by decide) (fun c2 => ?_) (fun c2 => ?_)
    · have hq := hq.1 c2
      exact hK_108 M x1 x2 x3 x4 x5 x6 x7 _ _ _ hq hh (lv_sub hl [0, 1, 2, 3, 4, 5, 6, 7] rfl)
    · have hq := hq.2 c2
      refine lv_aload_n hx hb dX12_laysCuts_58 rfl (lv_at hl 0 rfl) ?_
      refine lv_iload_n hx hb dX12_laysCuts_59 rfl (lv_at hl 1 rfl) ?_
      refine lv_iload_n hx hb dX12_laysCuts_60 rfl (lv_at hl 2 rfl) ?_
      refine lv_iload hx hb dX12_laysCuts_61 (lv_at hl 9 rfl) ?_
      refine lv_iconst (v := (nI 2)) hx hb dX12_laysCuts_63 (by decide) ?_
      refine lv_idiv hx hb dX12_laysCuts_64 (by decide) ?_
      refine lv_iload hx hb dX12_laysCuts_65 (lv_at hl 9 rfl) ?_
      refine lv_iconst (v := (nI 2)) hx hb dX12_laysCuts_67 (by decide) ?_
      refine lv_irem hx hb dX12_laysCuts_68 (by decide) ?_
      refine lv_iload hx hb dX12_laysCuts_69 (lv_at hl 5 rfl) ?_
      refine lv_iload hx hb dX12_laysCuts_71 (lv_at hl 6 rfl) ?_
      refine sy_cIV C hh (As := [.int x1, .int x2, .int (x9 / (nI 2)), .int (x9 - x9 / (nI 2) * (nI 2)), .int x5, .int x6]) (rest := []) 0 (by decide) (oZ_0 Y) rfl (mX12_cutBy (fun sz M => mX12_cutWorst l Y 9 sz M) _ M x1 x2 (x9 / (nI 2)) (x9 - x9 / (nI 2) * (nI 2)) x5 x6 _ hq) (cwV 6 C.1.2.2.2.2 (sy_goodV uZ_good uZ_247 uZ_248 uZ_249 uZ_55 uZ_250 _) rfl rfl rfl hdX12_cutBy ⟨by dsimp only; omega, by dsimp only; omega⟩) rfl hl.1 rfl (Nat.le_of_ble_eq_true rfl) dX12_laysCuts_73 (fun r4 M3 H locs hq hh => ?_)
      refine lv_istore (lv' := [(10, .int r4), (0, .ref (Y.2.1 0)), (1, .int x1), (2, .int x2), (3, .int x3), (4, .int x4), (5, .int x5), (6, .int x6), (7, .int x7), (8, .int x8), (9, .int x9)]) hx hb dX12_laysCuts_76 hl (by decide) rfl (fun ls hl => ?_)
      refine lv_iload hx hb dX12_laysCuts_78 (lv_at hl 8 rfl) ?_
      refine lv_iconst (v := (-1 : Int32)) hx hb dX12_laysCuts_80 (by decide) ?_
      refine lv_icmp_eq (tgt := 94) hx hb dX12_laysCuts_81 (by decide) (fun c5 => ?_) (fun c5 => ?_)
      · have hq := hq.1 c5
        refine kX12_laysCuts_94 C hrec (fun M6 x1_7 x2_8 x3_9 x4_10 x5_11 x6_12 x7_13 x8_14 x9_15 H locs ls hq hh hl => ?_) M3 x1 x2 x3 x4 x5 x6 x9 r4 _ _ _ hq hh (lv_sub hl [1, 2, 3, 4, 5, 6, 7, 10, 0] rfl)
        · exact ih M6 x1_7 x2_8 x3_9 x4_10 x5_11 x6_12 x7_13 x8_14 x9_15 _ _ _ hq hh (lv_sub hl [0, 1, 2, 3, 4, 5, 6, 7, 8, 9] rfl)
      · have hq := hq.2 c5
        refine lv_iload hx hb dX12_laysCuts_84 (lv_at hl 0 rfl) ?_
        refine lv_iload hx hb dX12_laysCuts_86 (lv_at hl 9 rfl) ?_
        refine lv_icmp_lt (tgt := 94) hx hb dX12_laysCuts_88 (by decide) (fun c16 => ?_) (fun c16 => ?_)
        · have hq := hq.1 c16
          refine kX12_laysCuts_94 C hrec (fun M17 x1_18 x2_19 x3_20 x4_21 x5_22 x6_23 x7_24 x8_25 x9_26 H locs ls hq hh hl => ?_) M3 x1 x2 x3 x4 x5 x6 x9 r4 _ _ _ hq hh (lv_sub hl [1, 2, 3, 4, 5, 6, 7, 10, 0] rfl)
          · exact ih M17 x1_18 x2_19 x3_20 x4_21 x5_22 x6_23 x7_24 x8_25 x9_26 _ _ _ hq hh (lv_sub hl [0, 1, 2, 3, 4, 5, 6, 7, 8, 9] rfl)
        · have hq := hq.2 c16
          refine lv_goto (tgt := 102) hx hb dX12_laysCuts_91 (by decide) ?_
          refine lv_iinc (v := (x9 + (1 : Int32))) (lv' := [(9, .int (x9 + (1 : Int32))), (10, .int r4), (0, .ref (Y.2.1 0)), (1, .int x1), (2, .int x2), (3, .int x3), (4, .int x4), (5, .int x5), (6, .int x6), (7, .int x7), (8, .int x8)]) hx hb dX12_laysCuts_102 hl (k := 10) rfl (sy_inc (by decide)) (by decide) rfl (fun ls hl => ?_)
          refine lv_goto (tgt := 48) hx hb dX12_laysCuts_105 (by decide) ?_
          exact ih M3 x1 x2 x3 x4 x5 x6 x7 x8 (x9 + (1 : Int32)) _ _ _ hq hh (lv_sub hl [2, 3, 4, 5, 6, 7, 8, 9, 10, 0] rfl)

set_option maxHeartbeats 4000000 in
set_option maxRecDepth 100000 in
theorem kX12_laysCuts_235 (C : sy_C p m c cX12_laysCuts 12 s args vsX12_laysCuts RX12 meth none Y NZ tfZ) {rec : sy_M → Int32 → Int32 → Int32 → Int32 → Int32 → Int32 → (sy_M → Prop) → Prop} {d : Nat} (hrec : ∀ (sz : Nat) (M : sy_M) (a1 : Int32) (a2 : Int32) (a3 : Int32) (a4 : Int32) (a5 : Int32) (a6 : Int32) (Q : sy_M → Prop), rec M a1 a2 a3 a4 a5 a6 Q → Met l yX12_laysCuts vsX12_laysCuts ({ frames := 1 * d + 29, cells := 0, slots := 0, locals := 31 * d + 883 } : Room) (va_Pc [.ref (Y.2.1 0), .int a1, .int a2, .int a3, .int a4, .int a5, .int a6] (sy_pre Y NZ EZ tfZ sz M)) (sy_QV Y NZ EZ sz Q) 0 0 (sy_A NZ Y.2.1 sz)) {Q : sy_M → Prop} :
    ∀ (M : sy_M) (x6 : Int32) (x10 : Int32) (x11 : Int32) (s1 : Int32) (s2 : Int32) (s3 : Int32) (s4 : Int32) (s5 : Int32) (H : Heap) (locs : List Loc) (ls : Array Slot), wX12_laysCuts_235 rec Q M x6 x10 x11 s1 s2 s3 s4 s5 → sy_H Y NZ EZ s H locs M → lv_has ls 12 [(6, .int x6), (10, .int x10), (11, .int x11)] → W p l e ({ frames := 1 * (d + 1) + 29, cells := 0, slots := 0, locals := 31 * (d + 1) + 883 } : Room) s m args below meth c H locs 0 0 (sy_ZV below args s Y NZ EZ Q) (F0 m 235 ls [.int s5, .int s4, .int s3, .int s2, .int s1, .ref (Y.2.1 0)]) := by
  have hx := C.1.1
  have hb := C.1.2.1
  intro M x6 x10 x11 s1 s2 s3 s4 s5 H locs ls hq hh hl
  unfold wX12_laysCuts_235 at hq
  refine lv_iload hx hb dX12_laysCuts_235 (lv_at hl 1 rfl) ?_
  refine lv_if_eq (tgt := 245) hx hb dX12_laysCuts_237 (by decide) (fun c45 => ?_) (fun c45 => ?_)
  · have hq := hq.1 c45
    refine lv_iload hx hb dX12_laysCuts_245 (lv_at hl 0 rfl) ?_
    refine lv_iload hx hb dX12_laysCuts_247 (lv_at hl 2 rfl) ?_
    refine lv_isub hx hb dX12_laysCuts_249 ?_
    refine sy_cVV C hh (As := [.int s1, .int s2, .int s3, .int s4, .int s5, .int (x6 - x11)]) (rest := []) 0 (by decide) (oZ_0 Y) rfl (hrec _ M s1 s2 s3 s4 s5 (x6 - x11) _ hq) (cwV 6 C.1.2.2.2.2 (sy_goodV uZ_good uZ_251 uZ_252 uZ_253 uZ_55 uZ_254 _) rfl rfl rfl hdX12_laysCuts ⟨by dsimp only; omega, by dsimp only; omega⟩) rfl hl.1 rfl (Nat.le_of_ble_eq_true rfl) dX12_laysCuts_250 (fun M46 H locs hq hh => ?_)
    exact sy_vret C hh dX12_laysCuts_253 hq
  · have hq := hq.2 c45
    refine lv_iload hx hb dX12_laysCuts_240 (lv_at hl 0 rfl) ?_
    refine lv_goto (tgt := 250) hx hb dX12_laysCuts_242 (by decide) ?_
    refine sy_cVV C hh (As := [.int s1, .int s2, .int s3, .int s4, .int s5, .int x6]) (rest := []) 0 (by decide) (oZ_0 Y) rfl (hrec _ M s1 s2 s3 s4 s5 x6 _ hq) (cwV 6 C.1.2.2.2.2 (sy_goodV uZ_good uZ_251 uZ_252 uZ_253 uZ_55 uZ_254 _) rfl rfl rfl hdX12_laysCuts ⟨by dsimp only; omega, by dsimp only; omega⟩) rfl hl.1 rfl (Nat.le_of_ble_eq_true rfl) dX12_laysCuts_250 (fun M47 H locs hq hh => ?_)
    exact sy_vret C hh dX12_laysCuts_253 hq

set_option maxHeartbeats 4000000 in
set_option maxRecDepth 100000 in
theorem kX12_laysCuts_220 (C : sy_C p m c cX12_laysCuts 12 s args vsX12_laysCuts RX12 meth none Y NZ tfZ) {rec : sy_M → Int32 → Int32 → Int32 → Int32 → Int32 → Int32 → (sy_M → Prop) → Prop} {d : Nat} (hrec : ∀ (sz : Nat) (M : sy_M) (a1 : Int32) (a2 : Int32) (a3 : Int32) (a4 : Int32) (a5 : Int32) (a6 : Int32) (Q : sy_M → Prop), rec M a1 a2 a3 a4 a5 a6 Q → Met l yX12_laysCuts vsX12_laysCuts ({ frames := 1 * d + 29, cells := 0, slots := 0, locals := 31 * d + 883 } : Room) (va_Pc [.ref (Y.2.1 0), .int a1, .int a2, .int a3, .int a4, .int a5, .int a6] (sy_pre Y NZ EZ tfZ sz M)) (sy_QV Y NZ EZ sz Q) 0 0 (sy_A NZ Y.2.1 sz)) {Q : sy_M → Prop} :
    ∀ (M : sy_M) (x5 : Int32) (x6 : Int32) (x10 : Int32) (x11 : Int32) (s1 : Int32) (s2 : Int32) (s3 : Int32) (s4 : Int32) (H : Heap) (locs : List Loc) (ls : Array Slot), wX12_laysCuts_220 rec Q M x5 x6 x10 x11 s1 s2 s3 s4 → sy_H Y NZ EZ s H locs M → lv_has ls 12 [(5, .int x5), (6, .int x6), (10, .int x10), (11, .int x11)] → W p l e ({ frames := 1 * (d + 1) + 29, cells := 0, slots := 0, locals := 31 * (d + 1) + 883 } : Room) s m args below meth c H locs 0 0 (sy_ZV below args s Y NZ EZ Q) (F0 m 220 ls [.int s4, .int s3, .int s2, .int s1, .ref (Y.2.1 0)]) := by
  have hx := C.1.1
  have hb := C.1.2.1
  intro M x5 x6 x10 x11 s1 s2 s3 s4 H locs ls hq hh hl
  unfold wX12_laysCuts_220 at hq
  refine lv_iload hx hb dX12_laysCuts_220 (lv_at hl 2 rfl) ?_
  refine lv_if_eq (tgt := 233) hx hb dX12_laysCuts_222 (by decide) (fun c44 => ?_) (fun c44 => ?_)
  · have hq := hq.1 c44
    refine lv_iload hx hb dX12_laysCuts_233 (lv_at hl 0 rfl) ?_
    refine kX12_laysCuts_235 C hrec  M x6 x10 x11 s1 s2 s3 s4 x5 _ _ _ hq hh (lv_sub hl [1, 2, 3] rfl)
  · have hq := hq.2 c44
    refine lv_iload hx hb dX12_laysCuts_225 (lv_at hl 0 rfl) ?_
    refine lv_iload hx hb dX12_laysCuts_227 (lv_at hl 3 rfl) ?_
    refine lv_isub hx hb dX12_laysCuts_229 ?_
    refine lv_goto (tgt := 235) hx hb dX12_laysCuts_230 (by decide) ?_
    refine kX12_laysCuts_235 C hrec  M x6 x10 x11 s1 s2 s3 s4 (x5 - x11) _ _ _ hq hh (lv_sub hl [1, 2, 3] rfl)

set_option maxHeartbeats 4000000 in
set_option maxRecDepth 100000 in
theorem kX12_laysCuts_205 (C : sy_C p m c cX12_laysCuts 12 s args vsX12_laysCuts RX12 meth none Y NZ tfZ) {rec : sy_M → Int32 → Int32 → Int32 → Int32 → Int32 → Int32 → (sy_M → Prop) → Prop} {d : Nat} (hrec : ∀ (sz : Nat) (M : sy_M) (a1 : Int32) (a2 : Int32) (a3 : Int32) (a4 : Int32) (a5 : Int32) (a6 : Int32) (Q : sy_M → Prop), rec M a1 a2 a3 a4 a5 a6 Q → Met l yX12_laysCuts vsX12_laysCuts ({ frames := 1 * d + 29, cells := 0, slots := 0, locals := 31 * d + 883 } : Room) (va_Pc [.ref (Y.2.1 0), .int a1, .int a2, .int a3, .int a4, .int a5, .int a6] (sy_pre Y NZ EZ tfZ sz M)) (sy_QV Y NZ EZ sz Q) 0 0 (sy_A NZ Y.2.1 sz)) {Q : sy_M → Prop} :
    ∀ (M : sy_M) (x4 : Int32) (x5 : Int32) (x6 : Int32) (x10 : Int32) (x11 : Int32) (s1 : Int32) (s2 : Int32) (s3 : Int32) (H : Heap) (locs : List Loc) (ls : Array Slot), wX12_laysCuts_205 rec Q M x4 x5 x6 x10 x11 s1 s2 s3 → sy_H Y NZ EZ s H locs M → lv_has ls 12 [(4, .int x4), (5, .int x5), (6, .int x6), (10, .int x10), (11, .int x11)] → W p l e ({ frames := 1 * (d + 1) + 29, cells := 0, slots := 0, locals := 31 * (d + 1) + 883 } : Room) s m args below meth c H locs 0 0 (sy_ZV below args s Y NZ EZ Q) (F0 m 205 ls [.int s3, .int s2, .int s1, .ref (Y.2.1 0)]) := by
  have hx := C.1.1
  have hb := C.1.2.1
  intro M x4 x5 x6 x10 x11 s1 s2 s3 H locs ls hq hh hl
  unfold wX12_laysCuts_205 at hq
  refine lv_iload hx hb dX12_laysCuts_205 (lv_at hl 3 rfl) ?_
  refine lv_if_eq (tgt := 215) hx hb dX12_laysCuts_207 (by decide) (fun c43 => ?_) (fun c43 => ?_)
  · have hq := hq.1 c43
    refine lv_iload hx hb dX12_laysCuts_215 (lv_at hl 0 rfl) ?_
    refine lv_iload hx hb dX12_laysCuts_217 (lv_at hl 4 rfl) ?_
    refine lv_iadd hx hb dX12_laysCuts_219 ?_
    refine kX12_laysCuts_220 C hrec  M x5 x6 x10 x11 s1 s2 s3 (x4 + x11) _ _ _ hq hh (lv_sub hl [1, 2, 3, 4] rfl)
  · have hq := hq.2 c43
    refine lv_iload hx hb dX12_laysCuts_210 (lv_at hl 0 rfl) ?_
    refine lv_goto (tgt := 220) hx hb dX12_laysCuts_212 (by decide) ?_
    refine kX12_laysCuts_220 C hrec  M x5 x6 x10 x11 s1 s2 s3 x4 _ _ _ hq hh (lv_sub hl [1, 2, 3, 4] rfl)

set_option maxHeartbeats 4000000 in
set_option maxRecDepth 100000 in
theorem kX12_laysCuts_183 (C : sy_C p m c cX12_laysCuts 12 s args vsX12_laysCuts RX12 meth none Y NZ tfZ) {rec : sy_M → Int32 → Int32 → Int32 → Int32 → Int32 → Int32 → (sy_M → Prop) → Prop} {d : Nat} (hrec : ∀ (sz : Nat) (M : sy_M) (a1 : Int32) (a2 : Int32) (a3 : Int32) (a4 : Int32) (a5 : Int32) (a6 : Int32) (Q : sy_M → Prop), rec M a1 a2 a3 a4 a5 a6 Q → Met l yX12_laysCuts vsX12_laysCuts ({ frames := 1 * d + 29, cells := 0, slots := 0, locals := 31 * d + 883 } : Room) (va_Pc [.ref (Y.2.1 0), .int a1, .int a2, .int a3, .int a4, .int a5, .int a6] (sy_pre Y NZ EZ tfZ sz M)) (sy_QV Y NZ EZ sz Q) 0 0 (sy_A NZ Y.2.1 sz)) {Q : sy_M → Prop} :
    ∀ (M : sy_M) (x1 : Int32) (x2 : Int32) (x3 : Int32) (x4 : Int32) (x5 : Int32) (x6 : Int32) (x9 : Int32) (x10 : Int32) (x11 : Int32) (s1 : Int32) (s2 : Int32) (s3 : Int32) (s4 : Int32) (s5 : Int32) (s6 : Int32) (H : Heap) (locs : List Loc) (ls : Array Slot), wX12_laysCuts_183 rec Q M x1 x2 x3 x4 x5 x6 x9 x10 x11 s1 s2 s3 s4 s5 s6 → sy_H Y NZ EZ s H locs M → lv_has ls 12 [(0, .ref (Y.2.1 0)), (1, .int x1), (2, .int x2), (3, .int x3), (4, .int x4), (5, .int x5), (6, .int x6), (9, .int x9), (10, .int x10), (11, .int x11)] → W p l e ({ frames := 1 * (d + 1) + 29, cells := 0, slots := 0, locals := 31 * (d + 1) + 883 } : Room) s m args below meth c H locs 0 0 (sy_ZV below args s Y NZ EZ Q) (F0 m 183 ls [.int s6, .int s5, .int s4, .int s3, .int s2, .int s1, .ref (Y.2.1 0)]) := by
  have hx := C.1.1
  have hb := C.1.2.1
  intro M x1 x2 x3 x4 x5 x6 x9 x10 x11 s1 s2 s3 s4 s5 s6 H locs ls hq hh hl
  unfold wX12_laysCuts_183 at hq
  refine sy_cVV C hh (As := [.int s1, .int s2, .int s3, .int s4, .int s5, .int s6]) (rest := []) 0 (by decide) (oZ_0 Y) rfl (hrec _ M s1 s2 s3 s4 s5 s6 _ hq) (cwV 6 C.1.2.2.2.2 (sy_goodV uZ_good uZ_251 uZ_252 uZ_253 uZ_55 uZ_254 _) rfl rfl rfl hdX12_laysCuts ⟨by dsimp only; omega, by dsimp only; omega⟩) rfl hl.1 rfl (Nat.le_of_ble_eq_true rfl) dX12_laysCuts_183 (fun M41 H locs hq hh => ?_)
  refine lv_aload_n hx hb dX12_laysCuts_186 rfl (lv_at hl 0 rfl) ?_
  refine lv_iload_n hx hb dX12_laysCuts_187 rfl (lv_at hl 1 rfl) ?_
  refine lv_iload hx hb dX12_laysCuts_188 (lv_at hl 7 rfl) ?_
  refine lv_iadd hx hb dX12_laysCuts_190 ?_
  refine lv_iload_n hx hb dX12_laysCuts_191 rfl (lv_at hl 2 rfl) ?_
  refine lv_iload hx hb dX12_laysCuts_192 (lv_at hl 8 rfl) ?_
  refine lv_if_eq (tgt := 204) hx hb dX12_laysCuts_194 (by decide) (fun c42 => ?_) (fun c42 => ?_)
  · have hq := hq.1 c42
    refine lv_iload_n hx hb dX12_laysCuts_204 rfl (lv_at hl 3 rfl) ?_
    refine kX12_laysCuts_205 C hrec  M41 x4 x5 x6 x10 x11 (x1 + x9) x2 x3 _ _ _ hq hh (lv_sub hl [4, 5, 6, 8, 9] rfl)
  · have hq := hq.2 c42
    refine lv_iload_n hx hb dX12_laysCuts_197 rfl (lv_at hl 3 rfl) ?_
    refine lv_iload hx hb dX12_laysCuts_198 (lv_at hl 9 rfl) ?_
    refine lv_iadd hx hb dX12_laysCuts_200 ?_
    refine lv_goto (tgt := 205) hx hb dX12_laysCuts_201 (by decide) ?_
    refine kX12_laysCuts_205 C hrec  M41 x4 x5 x6 x10 x11 (x1 + x9) x2 (x3 + x11) _ _ _ hq hh (lv_sub hl [4, 5, 6, 8, 9] rfl)

set_option maxHeartbeats 4000000 in
set_option maxRecDepth 100000 in
theorem kX12_laysCuts_171 (C : sy_C p m c cX12_laysCuts 12 s args vsX12_laysCuts RX12 meth none Y NZ tfZ) {rec : sy_M → Int32 → Int32 → Int32 → Int32 → Int32 → Int32 → (sy_M → Prop) → Prop} {d : Nat} (hrec : ∀ (sz : Nat) (M : sy_M) (a1 : Int32) (a2 : Int32) (a3 : Int32) (a4 : Int32) (a5 : Int32) (a6 : Int32) (Q : sy_M → Prop), rec M a1 a2 a3 a4 a5 a6 Q → Met l yX12_laysCuts vsX12_laysCuts ({ frames := 1 * d + 29, cells := 0, slots := 0, locals := 31 * d + 883 } : Room) (va_Pc [.ref (Y.2.1 0), .int a1, .int a2, .int a3, .int a4, .int a5, .int a6] (sy_pre Y NZ EZ tfZ sz M)) (sy_QV Y NZ EZ sz Q) 0 0 (sy_A NZ Y.2.1 sz)) {Q : sy_M → Prop} :
    ∀ (M : sy_M) (x1 : Int32) (x2 : Int32) (x3 : Int32) (x4 : Int32) (x5 : Int32) (x6 : Int32) (x9 : Int32) (x10 : Int32) (x11 : Int32) (s1 : Int32) (s2 : Int32) (s3 : Int32) (s4 : Int32) (s5 : Int32) (H : Heap) (locs : List Loc) (ls : Array Slot), wX12_laysCuts_171 rec Q M x1 x2 x3 x4 x5 x6 x9 x10 x11 s1 s2 s3 s4 s5 → sy_H Y NZ EZ s H locs M → lv_has ls 12 [(0, .ref (Y.2.1 0)), (1, .int x1), (2, .int x2), (3, .int x3), (4, .int x4), (5, .int x5), (6, .int x6), (9, .int x9), (10, .int x10), (11, .int x11)] → W p l e ({ frames := 1 * (d + 1) + 29, cells := 0, slots := 0, locals := 31 * (d + 1) + 883 } : Room) s m args below meth c H locs 0 0 (sy_ZV below args s Y NZ EZ Q) (F0 m 171 ls [.int s5, .int s4, .int s3, .int s2, .int s1, .ref (Y.2.1 0)]) := by
  have hx := C.1.1
  have hb := C.1.2.1
  intro M x1 x2 x3 x4 x5 x6 x9 x10 x11 s1 s2 s3 s4 s5 H locs ls hq hh hl
  unfold wX12_laysCuts_171 at hq
  refine lv_iload hx hb dX12_laysCuts_171 (lv_at hl 8 rfl) ?_
  refine lv_if_eq (tgt := 181) hx hb dX12_laysCuts_173 (by decide) (fun c40 => ?_) (fun c40 => ?_)
  · have hq := hq.1 c40
    refine lv_iload hx hb dX12_laysCuts_181 (lv_at hl 9 rfl) ?_
    refine kX12_laysCuts_183 C hrec  M x1 x2 x3 x4 x5 x6 x9 x10 x11 s1 s2 s3 s4 s5 x11 _ _ _ hq hh (lv_sub hl [0, 1, 2, 3, 4, 5, 6, 7, 8, 9] rfl)
  · have hq := hq.2 c40
    refine lv_iload hx hb dX12_laysCuts_176 (lv_at hl 6 rfl) ?_
    refine lv_goto (tgt := 183) hx hb dX12_laysCuts_178 (by decide) ?_
    refine kX12_laysCuts_183 C hrec  M x1 x2 x3 x4 x5 x6 x9 x10 x11 s1 s2 s3 s4 s5 x6 _ _ _ hq hh (lv_sub hl [0, 1, 2, 3, 4, 5, 6, 7, 8, 9] rfl)

set_option maxHeartbeats 4000000 in
set_option maxRecDepth 100000 in
theorem kX12_laysCuts_141 (C : sy_C p m c cX12_laysCuts 12 s args vsX12_laysCuts RX12 meth none Y NZ tfZ) {rec : sy_M → Int32 → Int32 → Int32 → Int32 → Int32 → Int32 → (sy_M → Prop) → Prop} {d : Nat} (hrec : ∀ (sz : Nat) (M : sy_M) (a1 : Int32) (a2 : Int32) (a3 : Int32) (a4 : Int32) (a5 : Int32) (a6 : Int32) (Q : sy_M → Prop), rec M a1 a2 a3 a4 a5 a6 Q → Met l yX12_laysCuts vsX12_laysCuts ({ frames := 1 * d + 29, cells := 0, slots := 0, locals := 31 * d + 883 } : Room) (va_Pc [.ref (Y.2.1 0), .int a1, .int a2, .int a3, .int a4, .int a5, .int a6] (sy_pre Y NZ EZ tfZ sz M)) (sy_QV Y NZ EZ sz Q) 0 0 (sy_A NZ Y.2.1 sz)) {Q : sy_M → Prop} :
    ∀ (M : sy_M) (x1 : Int32) (x2 : Int32) (x3 : Int32) (x4 : Int32) (x5 : Int32) (x6 : Int32) (x9 : Int32) (x10 : Int32) (s1 : Int32) (H : Heap) (locs : List Loc) (ls : Array Slot), wX12_laysCuts_141 rec Q M x1 x2 x3 x4 x5 x6 x9 x10 s1 → sy_H Y NZ EZ s H locs M → lv_has ls 12 [(0, .ref (Y.2.1 0)), (1, .int x1), (2, .int x2), (3, .int x3), (4, .int x4), (5, .int x5), (6, .int x6), (9, .int x9), (10, .int x10)] → W p l e ({ frames := 1 * (d + 1) + 29, cells := 0, slots := 0, locals := 31 * (d + 1) + 883 } : Room) s m args below meth c H locs 0 0 (sy_ZV below args s Y NZ EZ Q) (F0 m 141 ls [.int s1, .ref (Y.2.1 0)]) := by
  have hx := C.1.1
  have hb := C.1.2.1
  intro M x1 x2 x3 x4 x5 x6 x9 x10 s1 H locs ls hq hh hl
  unfold wX12_laysCuts_141 at hq
  refine lv_iload_n hx hb dX12_laysCuts_141 rfl (lv_at hl 1 rfl) ?_
  refine lv_iload hx hb dX12_laysCuts_142 (lv_at hl 7 rfl) ?_
  refine lv_iload_n hx hb dX12_laysCuts_144 rfl (lv_at hl 2 rfl) ?_
  refine sy_cIV C hh (As := [.int s1, .int x1, .int x9, .int x2]) (rest := []) 0 (by decide) (oZ_0 Y) rfl (mX12_firstPart l Y _ M s1 x1 x9 x2 _ hq) (cwV 4 C.1.2.2.2.2 (sy_goodV uZ_good uZ_236 uZ_237 uZ_238 uZ_55 uZ_235 _) rfl rfl rfl hdX12_firstPart ⟨by dsimp only; omega, by dsimp only; omega⟩) rfl hl.1 rfl (Nat.le_of_ble_eq_true rfl) dX12_laysCuts_145 (fun r38 M37 H locs hq hh => ?_)
  refine lv_istore (lv' := [(11, .int r38), (0, .ref (Y.2.1 0)), (1, .int x1), (2, .int x2), (3, .int x3), (4, .int x4), (5, .int x5), (6, .int x6), (9, .int x9), (10, .int x10)]) hx hb dX12_laysCuts_148 hl (by decide) rfl (fun ls hl => ?_)
  refine lv_aload_n hx hb dX12_laysCuts_150 rfl (lv_at hl 1 rfl) ?_
  refine lv_iload_n hx hb dX12_laysCuts_151 rfl (lv_at hl 2 rfl) ?_
  refine lv_iload_n hx hb dX12_laysCuts_152 rfl (lv_at hl 2 rfl) ?_
  refine lv_iload hx hb dX12_laysCuts_153 (lv_at hl 8 rfl) ?_
  refine lv_iadd hx hb dX12_laysCuts_155 ?_
  refine lv_iload_n hx hb dX12_laysCuts_156 rfl (lv_at hl 4 rfl) ?_
  refine lv_iload hx hb dX12_laysCuts_157 (lv_at hl 5 rfl) ?_
  refine lv_iload hx hb dX12_laysCuts_159 (lv_at hl 9 rfl) ?_
  refine lv_if_eq (tgt := 169) hx hb dX12_laysCuts_161 (by decide) (fun c39 => ?_) (fun c39 => ?_)
  · have hq := hq.1 c39
    refine lv_iload hx hb dX12_laysCuts_169 (lv_at hl 6 rfl) ?_
    refine kX12_laysCuts_171 C hrec  M37 x1 x2 x3 x4 x5 x6 x9 x10 r38 x1 (x1 + x9) x3 x4 x5 _ _ _ hq hh (lv_sub hl [1, 2, 3, 4, 5, 6, 7, 8, 9, 0] rfl)
  · have hq := hq.2 c39
    refine lv_iload hx hb dX12_laysCuts_164 (lv_at hl 0 rfl) ?_
    refine lv_goto (tgt := 171) hx hb dX12_laysCuts_166 (by decide) ?_
    refine kX12_laysCuts_171 C hrec  M37 x1 x2 x3 x4 x5 x6 x9 x10 r38 x1 (x1 + x9) x3 x4 r38 _ _ _ hq hh (lv_sub hl [1, 2, 3, 4, 5, 6, 7, 8, 9, 0] rfl)

set_option maxHeartbeats 4000000 in
set_option maxRecDepth 100000 in
theorem kX12_laysCuts_126 (C : sy_C p m c cX12_laysCuts 12 s args vsX12_laysCuts RX12 meth none Y NZ tfZ) {rec : sy_M → Int32 → Int32 → Int32 → Int32 → Int32 → Int32 → (sy_M → Prop) → Prop} {d : Nat} (hrec : ∀ (sz : Nat) (M : sy_M) (a1 : Int32) (a2 : Int32) (a3 : Int32) (a4 : Int32) (a5 : Int32) (a6 : Int32) (Q : sy_M → Prop), rec M a1 a2 a3 a4 a5 a6 Q → Met l yX12_laysCuts vsX12_laysCuts ({ frames := 1 * d + 29, cells := 0, slots := 0, locals := 31 * d + 883 } : Room) (va_Pc [.ref (Y.2.1 0), .int a1, .int a2, .int a3, .int a4, .int a5, .int a6] (sy_pre Y NZ EZ tfZ sz M)) (sy_QV Y NZ EZ sz Q) 0 0 (sy_A NZ Y.2.1 sz)) {Q : sy_M → Prop} :
    ∀ (M : sy_M) (x1 : Int32) (x2 : Int32) (x3 : Int32) (x4 : Int32) (x5 : Int32) (x6 : Int32) (x9 : Int32) (s0 : Int32) (H : Heap) (locs : List Loc) (ls : Array Slot), wX12_laysCuts_126 rec Q M x1 x2 x3 x4 x5 x6 x9 s0 → sy_H Y NZ EZ s H locs M → lv_has ls 12 [(0, .ref (Y.2.1 0)), (1, .int x1), (2, .int x2), (3, .int x3), (4, .int x4), (5, .int x5), (6, .int x6), (9, .int x9)] → W p l e ({ frames := 1 * (d + 1) + 29, cells := 0, slots := 0, locals := 31 * (d + 1) + 883 } : Room) s m args below meth c H locs 0 0 (sy_ZV below args s Y NZ EZ Q) (F0 m 126 ls [.int s0]) := by
  have hx := C.1.1
  have hb := C.1.2.1
  intro M x1 x2 x3 x4 x5 x6 x9 s0 H locs ls hq hh hl
  unfold wX12_laysCuts_126 at hq
  refine lv_istore (lv' := [(10, .int s0), (0, .ref (Y.2.1 0)), (1, .int x1), (2, .int x2), (3, .int x3), (4, .int x4), (5, .int x5), (6, .int x6), (9, .int x9)]) hx hb dX12_laysCuts_126 hl (by decide) rfl (fun ls hl => ?_)
  refine lv_aload_n hx hb dX12_laysCuts_128 rfl (lv_at hl 1 rfl) ?_
  refine lv_iload hx hb dX12_laysCuts_129 (lv_at hl 0 rfl) ?_
  refine lv_if_eq (tgt := 139) hx hb dX12_laysCuts_131 (by decide) (fun c36 => ?_) (fun c36 => ?_)
  · have hq := hq.1 c36
    refine lv_iload hx hb dX12_laysCuts_139 (lv_at hl 7 rfl) ?_
    refine kX12_laysCuts_141 C hrec  M x1 x2 x3 x4 x5 x6 x9 s0 x6 _ _ _ hq hh (lv_sub hl [1, 2, 3, 4, 5, 6, 7, 8, 0] rfl)
  · have hq := hq.2 c36
    refine lv_iload hx hb dX12_laysCuts_134 (lv_at hl 6 rfl) ?_
    refine lv_goto (tgt := 141) hx hb dX12_laysCuts_136 (by decide) ?_
    refine kX12_laysCuts_141 C hrec  M x1 x2 x3 x4 x5 x6 x9 s0 x5 _ _ _ hq hh (lv_sub hl [1, 2, 3, 4, 5, 6, 7, 8, 0] rfl)

end
set_option maxHeartbeats 4000000 in
set_option maxRecDepth 100000 in
theorem mX12_laysCuts_b {l : Launch} {Y : sy_Y} {rec : sy_M → Int32 → Int32 → Int32 → Int32 → Int32 → Int32 → (sy_M → Prop) → Prop} {d : Nat} (hrec : ∀ (sz : Nat) (M : sy_M) (a1 : Int32) (a2 : Int32) (a3 : Int32) (a4 : Int32) (a5 : Int32) (a6 : Int32) (Q : sy_M → Prop), rec M a1 a2 a3 a4 a5 a6 Q → Met l yX12_laysCuts vsX12_laysCuts ({ frames := 1 * d + 29, cells := 0, slots := 0, locals := 31 * d + 883 } : Room) (va_Pc [.ref (Y.2.1 0), .int a1, .int a2, .int a3, .int a4, .int a5, .int a6] (sy_pre Y NZ EZ tfZ sz M)) (sy_QV Y NZ EZ sz Q) 0 0 (sy_A NZ Y.2.1 sz)) (sz : Nat) (M : sy_M) (a1 : Int32) (a2 : Int32) (a3 : Int32) (a4 : Int32) (a5 : Int32) (a6 : Int32) (Q : sy_M → Prop) (hq : wX12_laysCuts_b rec M a1 a2 a3 a4 a5 a6 Q) : Met l yX12_laysCuts vsX12_laysCuts ({ frames := 1 * (d + 1) + 29, cells := 0, slots := 0, locals := 31 * (d + 1) + 883 } : Room) (va_Pc [.ref (Y.2.1 0), .int a1, .int a2, .int a3, .int a4, .int a5, .int a6] (sy_pre Y NZ EZ tfZ sz M)) (sy_QV Y NZ EZ sz Q) 0 0 (sy_A NZ Y.2.1 sz) := by
  refine sy_metV (by decide) rfl (Nat.le_of_ble_eq_true rfl) ?_
  intro p e s m args below meth c C ls hl hh
  have hx := C.1.1
  have hb := C.1.2.1
  have hl : lv_has ls 12 [(0, .ref (Y.2.1 0)), (1, .int a1), (2, .int a2), (3, .int a3), (4, .int a4), (5, .int a5), (6, .int a6)] := hl
  unfold wX12_laysCuts_b at hq
  refine lv_iload_n hx hb dX12_laysCuts_0 rfl (lv_at hl 2 rfl) ?_
  refine lv_iload_n hx hb dX12_laysCuts_1 rfl (lv_at hl 1 rfl) ?_
  refine lv_isub hx hb dX12_laysCuts_2 ?_
  refine lv_iconst (v := (1 : Int32)) hx hb dX12_laysCuts_3 (by decide) ?_
  refine lv_icmp_ne (tgt := 39) hx hb dX12_laysCuts_4 (by decide) (fun c1 => ?_) (fun c1 => ?_)
  · have hq := hq.1 c1
    refine lv_iconst (v := (-1 : Int32)) hx hb dX12_laysCuts_39 (by decide) ?_
    refine lv_istore (lv' := [(7, .int (-1 : Int32)), (0, .ref (Y.2.1 0)), (1, .int a1), (2, .int a2), (3, .int a3), (4, .int a4), (5, .int a5), (6, .int a6)]) hx hb dX12_laysCuts_40 hl (by decide) rfl (fun ls hl => ?_)
    refine lv_iconst (v := (0 : Int32)) hx hb dX12_laysCuts_42 (by decide) ?_
    refine lv_istore (lv' := [(8, .int (0 : Int32)), (7, .int (-1 : Int32)), (0, .ref (Y.2.1 0)), (1, .int a1), (2, .int a2), (3, .int a3), (4, .int a4), (5, .int a5), (6, .int a6)]) hx hb dX12_laysCuts_43 hl (by decide) rfl (fun ls hl => ?_)
    refine lv_iconst (v := (nI 2)) hx hb dX12_laysCuts_45 (by decide) ?_
    refine lv_istore (lv' := [(9, .int (nI 2)), (8, .int (0 : Int32)), (7, .int (-1 : Int32)), (0, .ref (Y.2.1 0)), (1, .int a1), (2, .int a2), (3, .int a3), (4, .int a4), (5, .int a5), (6, .int a6)]) hx hb dX12_laysCuts_46 hl (by decide) rfl (fun ls hl => ?_)
    obtain ⟨n48, hq⟩ := hq
    refine kX12_laysCuts_48 C hrec (fun M27 x1_28 x2_29 x3_30 x4_31 x5_32 x6_33 x7_34 H locs ls hq hh hl => ?_) n48 M a1 a2 a3 a4 a5 a6 (-1 : Int32) (0 : Int32) (nI 2) _ _ _ hq hh (lv_sub hl [3, 4, 5, 6, 7, 8, 9, 2, 1, 0] rfl)
    · refine lv_iload hx hb dX12_laysCuts_108 (lv_at hl 7 rfl) ?_
      refine lv_iconst (v := (nI 2)) hx hb dX12_laysCuts_110 (by decide) ?_
      refine lv_idiv hx hb dX12_laysCuts_111 (by decide) ?_
      refine lv_istore (lv' := [(9, .int (x7_34 / (nI 2))), (0, .ref (Y.2.1 0)), (1, .int x1_28), (2, .int x2_29), (3, .int x3_30), (4, .int x4_31), (5, .int x5_32), (6, .int x6_33), (7, .int x7_34)]) hx hb dX12_laysCuts_112 hl (by decide) rfl (fun ls hl => ?_)
      refine lv_iload hx hb dX12_laysCuts_114 (lv_at hl 8 rfl) ?_
      refine lv_iconst (v := (nI 2)) hx hb dX12_laysCuts_116 (by decide) ?_
      refine lv_irem hx hb dX12_laysCuts_117 (by decide) ?_
      refine lv_if_ne (tgt := 125) hx hb dX12_laysCuts_118 (by decide) (fun c35 => ?_) (fun c35 => ?_)
      · have hq := hq.1 c35
        refine lv_iconst (v := (0 : Int32)) hx hb dX12_laysCuts_125 (by decide) ?_
        refine kX12_laysCuts_126 C hrec  M27 x1_28 x2_29 x3_30 x4_31 x5_32 x6_33 (x7_34 / (nI 2)) (0 : Int32) _ _ _ hq hh (lv_sub hl [1, 2, 3, 4, 5, 6, 7, 0] rfl)
      · have hq := hq.2 c35
        refine lv_iconst (v := (1 : Int32)) hx hb dX12_laysCuts_121 (by decide) ?_
        refine lv_goto (tgt := 126) hx hb dX12_laysCuts_122 (by decide) ?_
        refine kX12_laysCuts_126 C hrec  M27 x1_28 x2_29 x3_30 x4_31 x5_32 x6_33 (x7_34 / (nI 2)) (1 : Int32) _ _ _ hq hh (lv_sub hl [1, 2, 3, 4, 5, 6, 7, 0] rfl)
  · have hq := hq.2 c1
    refine lv_aload_n hx hb dX12_laysCuts_7 rfl (lv_at hl 0 rfl) ?_
    refine sy_get C hh (fun w h => mc (uZ_fX12 w h)) 0 (by decide) (oZ_0 Y) rfl 33 (by decide) (index := 76) (mc uZ_29) (v := .ref (Y.2.1 18)) rfl dX12_laysCuts_8 ?_
    refine lv_iload_n hx hb dX12_laysCuts_11 rfl (lv_at hl 1 rfl) ?_
    refine lv_iload_n hx hb dX12_laysCuts_12 rfl (lv_at hl 3 rfl) ?_
    obtain ⟨n49, hn49, en49, hq⟩ := hq
    refine sy_iast C hh 18 (by decide) (aZ_18 Y) tZ_18 hn49 en49 (by decide) dX12_laysCuts_13 (fun H locs hh => ?_)
    refine lv_aload_n hx hb dX12_laysCuts_14 rfl (lv_at hl 0 rfl) ?_
    refine sy_get C hh (fun w h => mc (uZ_fX12 w h)) 0 (by decide) (oZ_0 Y) rfl 34 (by decide) (index := 79) (mc uZ_30) (v := .ref (Y.2.1 19)) rfl dX12_laysCuts_15 ?_
    refine lv_iload_n hx hb dX12_laysCuts_18 rfl (lv_at hl 1 rfl) ?_
    refine lv_iload hx hb dX12_laysCuts_19 (lv_at hl 4 rfl) ?_
    refine sy_iast C hh 19 (by decide) (aZ_19 Y) tZ_19 hn49 en49 (by decide) dX12_laysCuts_21 (fun H locs hh => ?_)
    refine lv_aload_n hx hb dX12_laysCuts_22 rfl (lv_at hl 0 rfl) ?_
    refine sy_get C hh (fun w h => mc (uZ_fX12 w h)) 0 (by decide) (oZ_0 Y) rfl 35 (by decide) (index := 82) (mc uZ_31) (v := .ref (Y.2.1 20)) rfl dX12_laysCuts_23 ?_
    refine lv_iload_n hx hb dX12_laysCuts_26 rfl (lv_at hl 1 rfl) ?_
    refine lv_iload hx hb dX12_laysCuts_27 (lv_at hl 5 rfl) ?_
    refine sy_iast C hh 20 (by decide) (aZ_20 Y) tZ_20 hn49 en49 (by decide) dX12_laysCuts_29 (fun H locs hh => ?_)
    refine lv_aload_n hx hb dX12_laysCuts_30 rfl (lv_at hl 0 rfl) ?_
    refine sy_get C hh (fun w h => mc (uZ_fX12 w h)) 0 (by decide) (oZ_0 Y) rfl 36 (by decide) (index := 85) (mc uZ_32) (v := .ref (Y.2.1 21)) rfl dX12_laysCuts_31 ?_
    refine lv_iload_n hx hb dX12_laysCuts_34 rfl (lv_at hl 1 rfl) ?_
    refine lv_iload hx hb dX12_laysCuts_35 (lv_at hl 6 rfl) ?_
    refine sy_iast C hh 21 (by decide) (aZ_21 Y) tZ_21 hn49 en49 (by decide) dX12_laysCuts_37 (fun H locs hh => ?_)
    exact sy_vret C hh dX12_laysCuts_38 hq

set_option maxHeartbeats 4000000 in
theorem mX12_laysCuts (l : Launch) (Y : sy_Y) : ∀ (d : Nat) (sz : Nat) (M : sy_M) (a1 : Int32) (a2 : Int32) (a3 : Int32) (a4 : Int32) (a5 : Int32) (a6 : Int32) (Q : sy_M → Prop), wX12_laysCuts d M a1 a2 a3 a4 a5 a6 Q → Met l yX12_laysCuts vsX12_laysCuts ({ frames := 1 * d + 29, cells := 0, slots := 0, locals := 31 * d + 883 } : Room) (va_Pc [.ref (Y.2.1 0), .int a1, .int a2, .int a3, .int a4, .int a5, .int a6] (sy_pre Y NZ EZ tfZ sz M)) (sy_QV Y NZ EZ sz Q) 0 0 (sy_A NZ Y.2.1 sz)
  | 0, _, _, _, _, _, _, _, _, _, hq => by unfold wX12_laysCuts at hq; exact hq.elim
  | d + 1, sz, M, a1, a2, a3, a4, a5, a6, Q, hq => by
    unfold wX12_laysCuts at hq
    exact mX12_laysCuts_b (d := d) (rec := wX12_laysCuts d) (fun sz M => mX12_laysCuts l Y d sz M) sz M a1 a2 a3 a4 a5 a6 Q hq
