/-! AreaSetter$Drawings.cell(II)I -/
def wX2_cell (M : sy_M) (a1 : Int32) (a2 : Int32) (Q : Int32 → sy_M → Prop) : Prop := Q (((a1 - a1 / (nI 50) * (nI 50)) * (nI 40)) + a2) M
section
variable {p : Program} {l : Launch} {e : Env} {s : State} {m : MethodId} {args : Array Value} {below : List Frame} {meth : Method} {c : Code} {Y : sy_Y}
end
set_option maxHeartbeats 4000000 in
set_option maxRecDepth 100000 in
theorem mX2_cell (l : Launch) (Y : sy_Y) (sz : Nat) (M : sy_M) (a1 : Int32) (a2 : Int32) (Q : Int32 → sy_M → Prop) (hq : wX2_cell M a1 a2 Q) : Met l yX2_cell vsX2_cell ({ frames := 0, cells := 0, slots := 0, locals := 0 } : Room) (va_Pc [.ref (Y.2.1 9), .int a1, .int a2] (sy_pre Y NX EX tfX sz M)) (sy_QI Y NX EX sz Q) 0 0 (sy_A NX Y.2.1 sz) := by
  refine sy_metI (by decide) rfl (Nat.le_of_ble_eq_true rfl) ?_
  intro p e s m args below meth c C ls hl hh
  have hx := C.1.1
  have hb := C.1.2.1
  have hl : lv_has ls 3 [(0, .ref (Y.2.1 9)), (1, .int a1), (2, .int a2)] := hl
  unfold wX2_cell at hq
  refine lv_iload_n hx hb dX2_cell_0 rfl (lv_at hl 1 rfl) ?_
  refine lv_bipush (v := (nI 50)) hx hb dX2_cell_1 (by decide) ?_
  refine lv_irem hx hb dX2_cell_3 (by decide) ?_
  refine lv_bipush (v := (nI 40)) hx hb dX2_cell_4 (by decide) ?_
  refine lv_imul hx hb dX2_cell_6 ?_
  refine lv_iload_n hx hb dX2_cell_7 rfl (lv_at hl 2 rfl) ?_
  refine lv_iadd hx hb dX2_cell_8 ?_
  exact sy_iret C hh dX2_cell_9 hq

/-! AreaSetter$Drawings.latestCell(I)I -/
def wX2_latestCell (M : sy_M) (a1 : Int32) (Q : Int32 → sy_M → Prop) : Prop := (((M 9 0) ≤ 0 → Q a1 M) ∧ (¬ (M 9 0) ≤ 0 → wX2_cell M ((M 9 0) - (1 : Int32)) a1 (fun r3 M2 => Q r3 M2)))
section
variable {p : Program} {l : Launch} {e : Env} {s : State} {m : MethodId} {args : Array Value} {below : List Frame} {meth : Method} {c : Code} {Y : sy_Y}
end
set_option maxHeartbeats 4000000 in
set_option maxRecDepth 100000 in
theorem mX2_latestCell (l : Launch) (Y : sy_Y) (sz : Nat) (M : sy_M) (a1 : Int32) (Q : Int32 → sy_M → Prop) (hq : wX2_latestCell M a1 Q) : Met l yX2_latestCell vsX2_latestCell ({ frames := 1, cells := 0, slots := 0, locals := 22 } : Room) (va_Pc [.ref (Y.2.1 9), .int a1] (sy_pre Y NX EX tfX sz M)) (sy_QI Y NX EX sz Q) 0 0 (sy_A NX Y.2.1 sz) := by
  refine sy_metI (by decide) rfl (Nat.le_of_ble_eq_true rfl) ?_
  intro p e s m args below meth c C ls hl hh
  have hx := C.1.1
  have hb := C.1.2.1
  have hl : lv_has ls 2 [(0, .ref (Y.2.1 9)), (1, .int a1)] := hl
  unfold wX2_latestCell at hq
  refine lv_aload_n hx hb dX2_latestCell_0 rfl (lv_at hl 0 rfl) ?_
  refine sy_get C hh (fun w h => mc (uX_fX2 w h)) 9 (by decide) (oX_9 Y) rfl 0 (by decide) (index := 9) (mc uX_96) (v := .int (M 9 0)) rfl dX2_latestCell_1 ?_
  refine lv_if_le (tgt := 21) hx hb dX2_latestCell_4 (by decide) (fun c1 => ?_) (fun c1 => ?_)
  · have hq := hq.1 c1
    refine lv_iload_n hx hb dX2_latestCell_21 rfl (lv_at hl 1 rfl) ?_
    exact sy_iret C hh dX2_latestCell_22 hq
  · have hq := hq.2 c1
    refine lv_aload_n hx hb dX2_latestCell_7 rfl (lv_at hl 0 rfl) ?_
    refine lv_aload_n hx hb dX2_latestCell_8 rfl (lv_at hl 0 rfl) ?_
    refine sy_get C hh (fun w h => mc (uX_fX2 w h)) 9 (by decide) (oX_9 Y) rfl 0 (by decide) (index := 9) (mc uX_96) (v := .int (M 9 0)) rfl dX2_latestCell_9 ?_
    refine lv_iconst (v := (1 : Int32)) hx hb dX2_latestCell_12 (by decide) ?_
    refine lv_isub hx hb dX2_latestCell_13 ?_
    refine lv_iload_n hx hb dX2_latestCell_14 rfl (lv_at hl 1 rfl) ?_
    refine sy_cIV C hh (As := [.int ((M 9 0) - (1 : Int32)), .int a1]) (rest := []) 9 (by decide) (oX_9 Y) rfl (mX2_cell l Y _ M ((M 9 0) - (1 : Int32)) a1 _ hq) (cwV 2 C.1.2.2.2.2 (sy_goodV uX_good uX_111 uX_112 uX_113 uX_114 uX_109 _) rfl rfl rfl hdX2_cell ⟨Nat.le_of_ble_eq_true rfl, Nat.le_of_ble_eq_true rfl⟩) rfl hl.1 rfl (Nat.le_of_ble_eq_true rfl) dX2_latestCell_15 (fun r3 M2 H locs hq hh => ?_)
    refine lv_goto (tgt := 22) hx hb dX2_latestCell_18 (by decide) ?_
    exact sy_iret C hh dX2_latestCell_22 hq

/-! AreaSetter$Drawings.begin(II[I)V -/
def wX2_begin_26 (Q : sy_M → Prop) : Nat → sy_M → Int32 → Int32 → Prop
  | 0, _, _, _ => False
  | n + 1, M, x2, x4 => ((x2 ≤ x4 → Q M) ∧ (¬ x2 ≤ x4 → wX2_latestCell M x4 (fun r4 M3 => ∃ n5 : Nat, n5 < 40 ∧ x4 = nI n5 ∧ ∃ n6 : Nat, n6 < 2000 ∧ r4 = nI n6 ∧ wX2_begin_26 Q n (mu (mu M3 16 n6 (M3 59 n5)) 17 n6 (vp_nar .boolean (0 : Int32))) x2 (x4 + (1 : Int32)))))
def wX2_begin (M : sy_M) (a1 : Int32) (a2 : Int32) (Q : sy_M → Prop) : Prop := ∃ n1 : Nat, n1 < 50 ∧ ((M 9 0) - (M 9 0) / (nI 50) * (nI 50)) = nI n1 ∧ ∃ n7 : Nat, wX2_begin_26  Q n7 (mu (mu M 10 n1 a1) 9 0 ((M 9 0) + (1 : Int32))) a2 (0 : Int32)
section
variable {p : Program} {l : Launch} {e : Env} {s : State} {m : MethodId} {args : Array Value} {below : List Frame} {meth : Method} {c : Code} {Y : sy_Y}
set_option maxHeartbeats 4000000 in
set_option maxRecDepth 100000 in
theorem kX2_begin_26 (C : sy_C p m c cX2_begin 6 s args vsX2_begin RX2 meth none Y NX tfX) {Q : sy_M → Prop} :
    ∀ (n : Nat) (M : sy_M) (x2 : Int32) (x4 : Int32) (H : Heap) (locs : List Loc) (ls : Array Slot), wX2_begin_26 Q n M x2 x4 → sy_H Y NX EX s H locs M → lv_has ls 6 [(0, .ref (Y.2.1 9)), (2, .int x2), (3, .ref (Y.2.1 59)), (4, .int x4)] → W p l e ({ frames := 2, cells := 0, slots := 0, locals := 43 } : Room) s m args below meth c H locs 0 0 (sy_ZV below args s Y NX EX Q) (F0 m 26 ls []) := by
  have hx := C.1.1
  have hb := C.1.2.1
  intro n
  induction n with
  | zero =>
    intro M x2 x4 H locs ls hq hh hl
    unfold wX2_begin_26 at hq
    exact hq.elim
  | succ n ih =>
    intro M x2 x4 H locs ls hq hh hl
    unfold wX2_begin_26 at hq
    refine lv_iload hx hb dX2_begin_26 (lv_at hl 3 rfl) ?_
    refine lv_iload_n hx hb dX2_begin_28 rfl (lv_at hl 1 rfl) ?_
    refine lv_icmp_ge (tgt := 68) hx hb dX2_begin_29 (by decide) (fun c2 => ?_) (fun c2 => ?_)
    · have hq := hq.1 c2
      exact sy_vret C hh dX2_begin_68 hq
    · have hq := hq.2 c2
      refine lv_aload_n hx hb dX2_begin_32 rfl (lv_at hl 0 rfl) ?_
      refine lv_iload hx hb dX2_begin_33 (lv_at hl 3 rfl) ?_
      refine sy_cIV C hh (As := [.int x4]) (rest := []) 9 (by decide) (oX_9 Y) rfl (mX2_latestCell l Y _ M x4 _ hq) (cwV 1 C.1.2.2.2.2 (sy_goodV uX_good uX_117 uX_118 uX_119 uX_114 uX_110 _) rfl rfl rfl hdX2_latestCell ⟨Nat.le_of_ble_eq_true rfl, Nat.le_of_ble_eq_true rfl⟩) rfl hl.1 rfl (Nat.le_of_ble_eq_true rfl) dX2_begin_35 (fun r4 M3 H locs hq hh => ?_)
      refine lv_istore (lv' := [(5, .int r4), (0, .ref (Y.2.1 9)), (2, .int x2), (3, .ref (Y.2.1 59)), (4, .int x4)]) hx hb dX2_begin_38 hl (by decide) rfl (fun ls hl => ?_)
      refine lv_aload_n hx hb dX2_begin_40 rfl (lv_at hl 1 rfl) ?_
      refine sy_get C hh (fun w h => mc (uX_fX2 w h)) 9 (by decide) (oX_9 Y) rfl 2 (by decide) (index := 24) (mc uX_99) (v := .ref (Y.2.1 11)) rfl dX2_begin_41 ?_
      refine sy_get C hh (fun w h => mc (uX_fX7 w h)) 11 (by decide) (oX_11 Y) rfl 4 (by decide) (index := 52) (mc uX_116) (v := .ref (Y.2.1 16)) rfl dX2_begin_44 ?_
      refine lv_iload hx hb dX2_begin_47 (lv_at hl 0 rfl) ?_
      refine lv_aload_n hx hb dX2_begin_49 rfl (lv_at hl 3 rfl) ?_
      refine lv_iload hx hb dX2_begin_50 (lv_at hl 4 rfl) ?_
      obtain ⟨n5, hn5, en5, hq⟩ := hq
      refine sy_iald C hh 59 (by decide) (aX_59 Y) tX_59 hn5 en5 (by decide) dX2_begin_52 ?_
      obtain ⟨n6, hn6, en6, hq⟩ := hq
      refine sy_iast C hh 16 (by decide) (aX_16 Y) tX_16 hn6 en6 (by decide) dX2_begin_53 (fun H locs hh => ?_)
      refine lv_aload_n hx hb dX2_begin_54 rfl (lv_at hl 1 rfl) ?_
      refine sy_get C hh (fun w h => mc (uX_fX2 w h)) 9 (by decide) (oX_9 Y) rfl 3 (by decide) (index := 28) (mc uX_101) (v := .ref (Y.2.1 17)) rfl dX2_begin_55 ?_
      refine lv_iload hx hb dX2_begin_58 (lv_at hl 0 rfl) ?_
      refine lv_iconst (v := (0 : Int32)) hx hb dX2_begin_60 (by decide) ?_
      refine sy_zast C hh 17 (by decide) (aX_17 Y) tX_17 hn6 en6 (by decide) dX2_begin_61 (fun H locs hh => ?_)
      refine lv_iinc (v := (x4 + (1 : Int32))) (lv' := [(4, .int (x4 + (1 : Int32))), (5, .int r4), (0, .ref (Y.2.1 9)), (2, .int x2), (3, .ref (Y.2.1 59))]) hx hb dX2_begin_62 hl (k := 4) rfl (sy_inc (by decide)) (by decide) rfl (fun ls hl => ?_)
      refine lv_goto (tgt := 26) hx hb dX2_begin_65 (by decide) ?_
      exact ih (mu (mu M3 16 n6 (M3 59 n5)) 17 n6 (vp_nar .boolean (0 : Int32))) x2 (x4 + (1 : Int32)) _ _ _ hq hh (lv_sub hl [2, 3, 4, 0] rfl)

end
set_option maxHeartbeats 4000000 in
set_option maxRecDepth 100000 in
theorem mX2_begin (l : Launch) (Y : sy_Y) (sz : Nat) (M : sy_M) (a1 : Int32) (a2 : Int32) (Q : sy_M → Prop) (hq : wX2_begin M a1 a2 Q) : Met l yX2_begin vsX2_begin ({ frames := 2, cells := 0, slots := 0, locals := 43 } : Room) (va_Pc [.ref (Y.2.1 9), .int a1, .int a2, .ref (Y.2.1 59)] (sy_pre Y NX EX tfX sz M)) (sy_QV Y NX EX sz Q) 0 0 (sy_A NX Y.2.1 sz) := by
  refine sy_metV (by decide) rfl (Nat.le_of_ble_eq_true rfl) ?_
  intro p e s m args below meth c C ls hl hh
  have hx := C.1.1
  have hb := C.1.2.1
  have hl : lv_has ls 6 [(0, .ref (Y.2.1 9)), (1, .int a1), (2, .int a2), (3, .ref (Y.2.1 59))] := hl
  unfold wX2_begin at hq
  refine lv_aload_n hx hb dX2_begin_0 rfl (lv_at hl 0 rfl) ?_
  refine sy_get C hh (fun w h => mc (uX_fX2 w h)) 9 (by decide) (oX_9 Y) rfl 1 (by decide) (index := 15) (mc uX_97) (v := .ref (Y.2.1 10)) rfl dX2_begin_1 ?_
  refine lv_aload_n hx hb dX2_begin_4 rfl (lv_at hl 0 rfl) ?_
  refine sy_get C hh (fun w h => mc (uX_fX2 w h)) 9 (by decide) (oX_9 Y) rfl 0 (by decide) (index := 9) (mc uX_96) (v := .int (M 9 0)) rfl dX2_begin_5 ?_
  refine lv_bipush (v := (nI 50)) hx hb dX2_begin_8 (by decide) ?_
  refine lv_irem hx hb dX2_begin_10 (by decide) ?_
  refine lv_iload_n hx hb dX2_begin_11 rfl (lv_at hl 1 rfl) ?_
  obtain ⟨n1, hn1, en1, hq⟩ := hq
  refine sy_iast C hh 10 (by decide) (aX_10 Y) tX_10 hn1 en1 (by decide) dX2_begin_12 (fun H locs hh => ?_)
  refine lv_aload_n hx hb dX2_begin_13 rfl (lv_at hl 0 rfl) ?_
  refine lv_dup hx hb dX2_begin_14 rfl ?_
  refine sy_get C hh (fun w h => mc (uX_fX2 w h)) 9 (by decide) (oX_9 Y) rfl 0 (by decide) (index := 9) (mc uX_96) (v := .int (M 9 0)) rfl dX2_begin_15 ?_
  refine lv_iconst (v := (1 : Int32)) hx hb dX2_begin_18 (by decide) ?_
  refine lv_iadd hx hb dX2_begin_19 ?_
  refine sy_put C hh (fun w h => mc (uX_fX2 w h)) tyX2 tyX2_ok nmX2 9 (by decide) (oX_9 Y) rfl 0 (by decide) (index := 9) (mc uX_96) rfl 0 ((M 9 0) + (1 : Int32)) (ty := .int) (tyX2_ok 0 (by decide)) rfl rfl (Nat.le_of_ble_eq_true rfl) (pX2_0 Y _ _ _) dX2_begin_20 (fun H locs hh => ?_)
  refine lv_iconst (v := (0 : Int32)) hx hb dX2_begin_23 (by decide) ?_
  refine lv_istore (lv' := [(4, .int (0 : Int32)), (0, .ref (Y.2.1 9)), (1, .int a1), (2, .int a2), (3, .ref (Y.2.1 59))]) hx hb dX2_begin_24 hl (by decide) rfl (fun ls hl => ?_)
  obtain ⟨n7, hq⟩ := hq
  refine kX2_begin_26 C  n7 (mu (mu M 10 n1 a1) 9 0 ((M 9 0) + (1 : Int32))) a2 (0 : Int32) _ _ _ hq hh (lv_sub hl [1, 3, 4, 0] rfl)

/-! AreaSetter$Rectangles.put(IIIII)V -/
def wX7_put (M : sy_M) (p0 : Nat) (a1 : Int32) (a2 : Int32) (a3 : Int32) (a4 : Int32) (a5 : Int32) (Q : sy_M → Prop) : Prop := ∃ n1 : Nat, n1 < (lX7 p0) ∧ a1 = nI n1 ∧ Q (mu (mu (mu (mu M (p0 + 1) n1 a2) (p0 + 2) n1 a3) (p0 + 3) n1 a4) (p0 + 4) n1 a5)
section
variable {p : Program} {l : Launch} {e : Env} {s : State} {m : MethodId} {args : Array Value} {below : List Frame} {meth : Method} {c : Code} {Y : sy_Y}
end
set_option maxHeartbeats 4000000 in
set_option maxRecDepth 100000 in
theorem mX7_put (l : Launch) (Y : sy_Y) (sz : Nat) (M : sy_M) (p0 : Nat) (hp0 : iX7 p0) (a1 : Int32) (a2 : Int32) (a3 : Int32) (a4 : Int32) (a5 : Int32) (Q : sy_M → Prop) (hq : wX7_put M p0 a1 a2 a3 a4 a5 Q) : Met l yX7_put vsX7_put ({ frames := 0, cells := 0, slots := 0, locals := 0 } : Room) (va_Pc [.ref (Y.2.1 p0), .int a1, .int a2, .int a3, .int a4, .int a5] (sy_pre Y NX EX tfX sz M)) (sy_QV Y NX EX sz Q) 0 0 (sy_A NX Y.2.1 sz) := by
  refine sy_metV (by decide) rfl (Nat.le_of_ble_eq_true rfl) ?_
  intro p e s m args below meth c C ls hl hh
  have hx := C.1.1
  have hb := C.1.2.1
  have hl : lv_has ls 6 [(0, .ref (Y.2.1 p0)), (1, .int a1), (2, .int a2), (3, .int a3), (4, .int a4), (5, .int a5)] := hl
  unfold wX7_put at hq
  refine lv_aload_n hx hb dX7_put_0 rfl (lv_at hl 0 rfl) ?_
  refine sy_get C hh (fun w h => mc (uX_fX7 w h)) p0 (iX7_N hp0) (oX7 hp0) rfl 0 (by decide) (index := 15) (mc uX_27) (v := .ref (Y.2.1 (p0 + 1))) rfl dX7_put_1 ?_
  refine lv_iload_n hx hb dX7_put_4 rfl (lv_at hl 1 rfl) ?_
  refine lv_iload_n hx hb dX7_put_5 rfl (lv_at hl 2 rfl) ?_
  obtain ⟨n1, hn1, en1, hq⟩ := hq
  refine sy_iast C hh (p0 + 1) (iX7_N1 hp0) (aX7_1 hp0) (tX7_1 hp0) hn1 en1 (lX7_lt _) dX7_put_6 (fun H locs hh => ?_)
  refine lv_aload_n hx hb dX7_put_7 rfl (lv_at hl 0 rfl) ?_
  refine sy_get C hh (fun w h => mc (uX_fX7 w h)) p0 (iX7_N hp0) (oX7 hp0) rfl 1 (by decide) (index := 21) (mc uX_28) (v := .ref (Y.2.1 (p0 + 2))) rfl dX7_put_8 ?_
  refine lv_iload_n hx hb dX7_put_11 rfl (lv_at hl 1 rfl) ?_
  refine lv_iload_n hx hb dX7_put_12 rfl (lv_at hl 3 rfl) ?_
  refine sy_iast C hh (p0 + 2) (iX7_N2 hp0) (aX7_2 hp0) (tX7_2 hp0) hn1 en1 (lX7_lt _) dX7_put_13 (fun H locs hh => ?_)
  refine lv_aload_n hx hb dX7_put_14 rfl (lv_at hl 0 rfl) ?_
  refine sy_get C hh (fun w h => mc (uX_fX7 w h)) p0 (iX7_N hp0) (oX7 hp0) rfl 2 (by decide) (index := 24) (mc uX_29) (v := .ref (Y.2.1 (p0 + 3))) rfl dX7_put_15 ?_
  refine lv_iload_n hx hb dX7_put_18 rfl (lv_at hl 1 rfl) ?_
  refine lv_iload hx hb dX7_put_19 (lv_at hl 4 rfl) ?_
  refine sy_iast C hh (p0 + 3) (iX7_N3 hp0) (aX7_3 hp0) (tX7_3 hp0) hn1 en1 (lX7_lt _) dX7_put_21 (fun H locs hh => ?_)
  refine lv_aload_n hx hb dX7_put_22 rfl (lv_at hl 0 rfl) ?_
  refine sy_get C hh (fun w h => mc (uX_fX7 w h)) p0 (iX7_N hp0) (oX7 hp0) rfl 3 (by decide) (index := 27) (mc uX_30) (v := .ref (Y.2.1 (p0 + 4))) rfl dX7_put_23 ?_
  refine lv_iload_n hx hb dX7_put_26 rfl (lv_at hl 1 rfl) ?_
  refine lv_iload hx hb dX7_put_27 (lv_at hl 5 rfl) ?_
  refine sy_iast C hh (p0 + 4) (iX7_N4 hp0) (aX7_4 hp0) (tX7_4 hp0) hn1 en1 (lX7_lt _) dX7_put_29 (fun H locs hh => ?_)
  exact sy_vret C hh dX7_put_30 hq

/-! AreaSetter$Drawings.show(IIIII)V -/
def wX2_show (M : sy_M) (a1 : Int32) (a2 : Int32) (a3 : Int32) (a4 : Int32) (a5 : Int32) (Q : sy_M → Prop) : Prop := wX2_latestCell M a1 (fun r2 M1 => wX7_put M1 11 r2 a2 a3 a4 a5 (fun M3 => ∃ n4 : Nat, n4 < 2000 ∧ r2 = nI n4 ∧ Q (mu M3 17 n4 (vp_nar .boolean (1 : Int32)))))
section
variable {p : Program} {l : Launch} {e : Env} {s : State} {m : MethodId} {args : Array Value} {below : List Frame} {meth : Method} {c : Code} {Y : sy_Y}
end
set_option maxHeartbeats 4000000 in
set_option maxRecDepth 100000 in
theorem mX2_show (l : Launch) (Y : sy_Y) (sz : Nat) (M : sy_M) (a1 : Int32) (a2 : Int32) (a3 : Int32) (a4 : Int32) (a5 : Int32) (Q : sy_M → Prop) (hq : wX2_show M a1 a2 a3 a4 a5 Q) : Met l yX2_show vsX2_show ({ frames := 2, cells := 0, slots := 0, locals := 43 } : Room) (va_Pc [.ref (Y.2.1 9), .int a1, .int a2, .int a3, .int a4, .int a5] (sy_pre Y NX EX tfX sz M)) (sy_QV Y NX EX sz Q) 0 0 (sy_A NX Y.2.1 sz) := by
  refine sy_metV (by decide) rfl (Nat.le_of_ble_eq_true rfl) ?_
  intro p e s m args below meth c C ls hl hh
  have hx := C.1.1
  have hb := C.1.2.1
  have hl : lv_has ls 7 [(0, .ref (Y.2.1 9)), (1, .int a1), (2, .int a2), (3, .int a3), (4, .int a4), (5, .int a5)] := hl
  unfold wX2_show at hq
  refine lv_aload_n hx hb dX2_show_0 rfl (lv_at hl 0 rfl) ?_
  refine lv_iload_n hx hb dX2_show_1 rfl (lv_at hl 1 rfl) ?_
  refine sy_cIV C hh (As := [.int a1]) (rest := []) 9 (by decide) (oX_9 Y) rfl (mX2_latestCell l Y _ M a1 _ hq) (cwV 1 C.1.2.2.2.2 (sy_goodV uX_good uX_117 uX_118 uX_119 uX_114 uX_110 _) rfl rfl rfl hdX2_latestCell ⟨Nat.le_of_ble_eq_true rfl, Nat.le_of_ble_eq_true rfl⟩) rfl hl.1 rfl (Nat.le_of_ble_eq_true rfl) dX2_show_2 (fun r2 M1 H locs hq hh => ?_)
  refine lv_istore (lv' := [(6, .int r2), (0, .ref (Y.2.1 9)), (1, .int a1), (2, .int a2), (3, .int a3), (4, .int a4), (5, .int a5)]) hx hb dX2_show_5 hl (by decide) rfl (fun ls hl => ?_)
  refine lv_aload_n hx hb dX2_show_7 rfl (lv_at hl 1 rfl) ?_
  refine sy_get C hh (fun w h => mc (uX_fX2 w h)) 9 (by decide) (oX_9 Y) rfl 2 (by decide) (index := 24) (mc uX_99) (v := .ref (Y.2.1 11)) rfl dX2_show_8 ?_
  refine lv_iload hx hb dX2_show_11 (lv_at hl 0 rfl) ?_
  refine lv_iload_n hx hb dX2_show_13 rfl (lv_at hl 3 rfl) ?_
  refine lv_iload_n hx hb dX2_show_14 rfl (lv_at hl 4 rfl) ?_
  refine lv_iload hx hb dX2_show_15 (lv_at hl 5 rfl) ?_
  refine lv_iload hx hb dX2_show_17 (lv_at hl 6 rfl) ?_
  refine sy_cVV C hh (As := [.int r2, .int a2, .int a3, .int a4, .int a5]) (rest := []) 11 (by decide) (oX_11 Y) rfl (mX7_put l Y _ M1 11 iX7_11 r2 a2 a3 a4 a5 _ hq) (cwV 5 C.1.2.2.2.2 (sy_goodV uX_good uX_121 uX_55 uX_56 uX_37 uX_48 _) rfl rfl rfl hdX7_put ⟨Nat.le_of_ble_eq_true rfl, Nat.le_of_ble_eq_true rfl⟩) rfl hl.1 rfl (Nat.le_of_ble_eq_true rfl) dX2_show_19 (fun M3 H locs hq hh => ?_)
  refine lv_aload_n hx hb dX2_show_22 rfl (lv_at hl 1 rfl) ?_
  refine sy_get C hh (fun w h => mc (uX_fX2 w h)) 9 (by decide) (oX_9 Y) rfl 3 (by decide) (index := 28) (mc uX_101) (v := .ref (Y.2.1 17)) rfl dX2_show_23 ?_
  refine lv_iload hx hb dX2_show_26 (lv_at hl 0 rfl) ?_
  refine lv_iconst (v := (1 : Int32)) hx hb dX2_show_28 (by decide) ?_
  obtain ⟨n4, hn4, en4, hq⟩ := hq
  refine sy_zast C hh 17 (by decide) (aX_17 Y) tX_17 hn4 en4 (by decide) dX2_show_29 (fun H locs hh => ?_)
  exact sy_vret C hh dX2_show_30 hq

/-! AreaSetter$Items.add(IIZ)V -/
def wX3_add_16 (K_76 : sy_M → Int32 → Int32 → Int32 → Prop) (Q : sy_M → Prop) : Nat → sy_M → Int32 → Int32 → Int32 → Int32 → Prop
  | 0, _, _, _, _, _ => False
  | n + 1, M, x1, x2, x3, x4 => ((x3 = 0 → K_76 M x1 x2 x4) ∧ (¬ x3 = 0 → ((x4 ≤ 0 → K_76 M x1 x2 x4) ∧ (¬ x4 ≤ 0 → ∃ n4 : Nat, n4 < 8 ∧ (x4 - (1 : Int32)) = nI n4 ∧ ((x2 ≤ (M 30 n4) → K_76 M x1 x2 x4) ∧ (¬ x2 ≤ (M 30 n4) → ∃ n6 : Nat, n6 < 8 ∧ x4 = nI n6 ∧ wX3_add_16 K_76 Q n (mu (mu M 29 n6 (M 29 n4)) 30 n6 (M 30 n4)) x1 x2 x3 (x4 + (-1 : Int32))))))))
def wX3_add_76 (Q : sy_M → Prop) (M : sy_M) (x1 : Int32) (x2 : Int32) (x4 : Int32) : Prop := ∃ n11 : Nat, n11 < 8 ∧ x4 = nI n11 ∧ Q (mu (mu (mu M 29 n11 x1) 30 n11 x2) 28 0 ((M 28 0) + (1 : Int32)))
def wX3_add (M : sy_M) (a1 : Int32) (a2 : Int32) (a3 : Int32) (Q : sy_M → Prop) : Prop := (((M 28 0) < (nI 8) → ∃ n12 : Nat, wX3_add_16 (fun (M7 : sy_M) (x1_8 : Int32) (x2_9 : Int32) (x4_10 : Int32) => wX3_add_76  Q M7 x1_8 x2_9 x4_10) Q n12 M a1 a2 a3 (M 28 0)) ∧ (¬ (M 28 0) < (nI 8) → Q M))
section
variable {p : Program} {l : Launch} {e : Env} {s : State} {m : MethodId} {args : Array Value} {below : List Frame} {meth : Method} {c : Code} {Y : sy_Y}
set_option maxHeartbeats 4000000 in
set_option maxRecDepth 100000 in
theorem kX3_add_16 (C : sy_C p m c cX3_add 5 s args vsX3_add RX3 meth none Y NX tfX) {Q : sy_M → Prop} {K_76 : sy_M → Int32 → Int32 → Int32 → Prop} (hK_76 : ∀ (M : sy_M) (x1 : Int32) (x2 : Int32) (x4 : Int32) (H : Heap) (locs : List Loc) (ls : Array Slot), K_76 M x1 x2 x4 → sy_H Y NX EX s H locs M → lv_has ls 5 [(0, .ref (Y.2.1 28)), (1, .int x1), (2, .int x2), (4, .int x4)] → W p l e ({ frames := 0, cells := 0, slots := 0, locals := 0 } : Room) s m args below meth c H locs 0 0 (sy_ZV below args s Y NX EX Q) (F0 m 76 ls [])) :
    ∀ (n : Nat) (M : sy_M) (x1 : Int32) (x2 : Int32) (x3 : Int32) (x4 : Int32) (H : Heap) (locs : List Loc) (ls : Array Slot), wX3_add_16 K_76 Q n M x1 x2 x3 x4 → sy_H Y NX EX s H locs M → lv_has ls 5 [(0, .ref (Y.2.1 28)), (1, .int x1), (2, .int x2), (3, .int x3), (4, .int x4)] → W p l e ({ frames := 0, cells := 0, slots := 0, locals := 0 } : Room) s m args below meth c H locs 0 0 (sy_ZV below args s Y NX EX Q) (F0 m 16 ls []) := by
  have hx := C.1.1
  have hb := C.1.2.1
  intro n
  induction n with
  | zero =>
    intro M x1 x2 x3 x4 H locs ls hq hh hl
    unfold wX3_add_16 at hq
    exact hq.elim
  | succ n ih =>
    intro M x1 x2 x3 x4 H locs ls hq hh hl
    unfold wX3_add_16 at hq
    refine lv_iload_n hx hb dX3_add_16 rfl (lv_at hl 3 rfl) ?_
    refine lv_if_eq (tgt := 76) hx hb dX3_add_17 (by decide) (fun c2 => ?_) (fun c2 => ?_)
    · have hq := hq.1 c2
      exact hK_76 M x1 x2 x4 _ _ _ hq hh (lv_sub hl [0, 1, 2, 4] rfl)
    · have hq := hq.2 c2
      refine lv_iload hx hb dX3_add_20 (lv_at hl 4 rfl) ?_
      refine lv_if_le (tgt := 76) hx hb dX3_add_22 (by decide) (fun c3 => ?_) (fun c3 => ?_)
      · have hq := hq.1 c3
        exact hK_76 M x1 x2 x4 _ _ _ hq hh (lv_sub hl [0, 1, 2, 4] rfl)
      · have hq := hq.2 c3
        refine lv_aload_n hx hb dX3_add_25 rfl (lv_at hl 0 rfl) ?_
        refine sy_get C hh (fun w h => mc (uX_fX3 w h)) 28 (by decide) (oX_28 Y) rfl 3 (by decide) (index := 22) (mc uX_138) (v := .ref (Y.2.1 30)) rfl dX3_add_26 ?_
        refine lv_iload hx hb dX3_add_29 (lv_at hl 4 rfl) ?_
        refine lv_iconst (v := (1 : Int32)) hx hb dX3_add_31 (by decide) ?_
        refine lv_isub hx hb dX3_add_32 ?_
        obtain ⟨n4, hn4, en4, hq⟩ := hq
        refine sy_iald C hh 30 (by decide) (aX_30 Y) tX_30 hn4 en4 (by decide) dX3_add_33 ?_
        refine lv_iload_n hx hb dX3_add_34 rfl (lv_at hl 2 rfl) ?_
        refine lv_icmp_ge (tgt := 76) hx hb dX3_add_35 (by decide) (fun c5 => ?_) (fun c5 => ?_)
        · have hq := hq.1 c5
          exact hK_76 M x1 x2 x4 _ _ _ hq hh (lv_sub hl [0, 1, 2, 4] rfl)
        · have hq := hq.2 c5
          refine lv_aload_n hx hb dX3_add_38 rfl (lv_at hl 0 rfl) ?_
          refine sy_get C hh (fun w h => mc (uX_fX3 w h)) 28 (by decide) (oX_28 Y) rfl 2 (by decide) (index := 18) (mc uX_137) (v := .ref (Y.2.1 29)) rfl dX3_add_39 ?_
          refine lv_iload hx hb dX3_add_42 (lv_at hl 4 rfl) ?_
          refine lv_aload_n hx hb dX3_add_44 rfl (lv_at hl 0 rfl) ?_
          refine sy_get C hh (fun w h => mc (uX_fX3 w h)) 28 (by decide) (oX_28 Y) rfl 2 (by decide) (index := 18) (mc uX_137) (v := .ref (Y.2.1 29)) rfl dX3_add_45 ?_
          refine lv_iload hx hb dX3_add_48 (lv_at hl 4 rfl) ?_
          refine lv_iconst (v := (1 : Int32)) hx hb dX3_add_50 (by decide) ?_
          refine lv_isub hx hb dX3_add_51 ?_
          refine sy_iald C hh 29 (by decide) (aX_29 Y) tX_29 hn4 en4 (by decide) dX3_add_52 ?_
          obtain ⟨n6, hn6, en6, hq⟩ := hq
          refine sy_iast C hh 29 (by decide) (aX_29 Y) tX_29 hn6 en6 (by decide) dX3_add_53 (fun H locs hh => ?_)
          refine lv_aload_n hx hb dX3_add_54 rfl (lv_at hl 0 rfl) ?_
          refine sy_get C hh (fun w h => mc (uX_fX3 w h)) 28 (by decide) (oX_28 Y) rfl 3 (by decide) (index := 22) (mc uX_138) (v := .ref (Y.2.1 30)) rfl dX3_add_55 ?_
          refine lv_iload hx hb dX3_add_58 (lv_at hl 4 rfl) ?_
          refine lv_aload_n hx hb dX3_add_60 rfl (lv_at hl 0 rfl) ?_
          refine sy_get C hh (fun w h => mc (uX_fX3 w h)) 28 (by decide) (oX_28 Y) rfl 3 (by decide) (index := 22) (mc uX_138) (v := .ref (Y.2.1 30)) rfl dX3_add_61 ?_
          refine lv_iload hx hb dX3_add_64 (lv_at hl 4 rfl) ?_
          refine lv_iconst (v := (1 : Int32)) hx hb dX3_add_66 (by decide) ?_
          refine lv_isub hx hb dX3_add_67 ?_
          refine sy_iald C hh 30 (by decide) (aX_30 Y) tX_30 hn4 en4 (by decide) dX3_add_68 ?_
          refine sy_iast C hh 30 (by decide) (aX_30 Y) tX_30 hn6 en6 (by decide) dX3_add_69 (fun H locs hh => ?_)
          refine lv_iinc (v := (x4 + (-1 : Int32))) (lv' := [(4, .int (x4 + (-1 : Int32))), (0, .ref (Y.2.1 28)), (1, .int x1), (2, .int x2), (3, .int x3)]) hx hb dX3_add_70 hl (k := 4) rfl (sy_inc (by decide)) (by decide) rfl (fun ls hl => ?_)
          refine lv_goto (tgt := 16) hx hb dX3_add_73 (by decide) ?_
          exact ih (mu (mu M 29 n6 (M 29 n4)) 30 n6 (M 30 n4)) x1 x2 x3 (x4 + (-1 : Int32)) _ _ _ hq hh (lv_sub hl [1, 2, 3, 4, 0] rfl)

set_option maxHeartbeats 4000000 in
set_option maxRecDepth 100000 in
theorem kX3_add_76 (C : sy_C p m c cX3_add 5 s args vsX3_add RX3 meth none Y NX tfX) {Q : sy_M → Prop} :
    ∀ (M : sy_M) (x1 : Int32) (x2 : Int32) (x4 : Int32) (H : Heap) (locs : List Loc) (ls : Array Slot), wX3_add_76 Q M x1 x2 x4 → sy_H Y NX EX s H locs M → lv_has ls 5 [(0, .ref (Y.2.1 28)), (1, .int x1), (2, .int x2), (4, .int x4)] → W p l e ({ frames := 0, cells := 0, slots := 0, locals := 0 } : Room) s m args below meth c H locs 0 0 (sy_ZV below args s Y NX EX Q) (F0 m 76 ls []) := by
  have hx := C.1.1
  have hb := C.1.2.1
  intro M x1 x2 x4 H locs ls hq hh hl
  unfold wX3_add_76 at hq
  refine lv_aload_n hx hb dX3_add_76 rfl (lv_at hl 0 rfl) ?_
  refine sy_get C hh (fun w h => mc (uX_fX3 w h)) 28 (by decide) (oX_28 Y) rfl 2 (by decide) (index := 18) (mc uX_137) (v := .ref (Y.2.1 29)) rfl dX3_add_77 ?_
  refine lv_iload hx hb dX3_add_80 (lv_at hl 3 rfl) ?_
  refine lv_iload_n hx hb dX3_add_82 rfl (lv_at hl 1 rfl) ?_
  obtain ⟨n11, hn11, en11, hq⟩ := hq
  refine sy_iast C hh 29 (by decide) (aX_29 Y) tX_29 hn11 en11 (by decide) dX3_add_83 (fun H locs hh => ?_)
  refine lv_aload_n hx hb dX3_add_84 rfl (lv_at hl 0 rfl) ?_
  refine sy_get C hh (fun w h => mc (uX_fX3 w h)) 28 (by decide) (oX_28 Y) rfl 3 (by decide) (index := 22) (mc uX_138) (v := .ref (Y.2.1 30)) rfl dX3_add_85 ?_
  refine lv_iload hx hb dX3_add_88 (lv_at hl 3 rfl) ?_
  refine lv_iload_n hx hb dX3_add_90 rfl (lv_at hl 2 rfl) ?_
  refine sy_iast C hh 30 (by decide) (aX_30 Y) tX_30 hn11 en11 (by decide) dX3_add_91 (fun H locs hh => ?_)
  refine lv_aload_n hx hb dX3_add_92 rfl (lv_at hl 0 rfl) ?_
  refine lv_dup hx hb dX3_add_93 rfl ?_
  refine sy_get C hh (fun w h => mc (uX_fX3 w h)) 28 (by decide) (oX_28 Y) rfl 0 (by decide) (index := 9) (mc uX_135) (v := .int (M 28 0)) rfl dX3_add_94 ?_
  refine lv_iconst (v := (1 : Int32)) hx hb dX3_add_97 (by decide) ?_
  refine lv_iadd hx hb dX3_add_98 ?_
  refine sy_put C hh (fun w h => mc (uX_fX3 w h)) tyX3 tyX3_ok nmX3 28 (by decide) (oX_28 Y) rfl 0 (by decide) (index := 9) (mc uX_135) rfl 0 ((M 28 0) + (1 : Int32)) (ty := .int) (tyX3_ok 0 (by decide)) rfl rfl (Nat.le_of_ble_eq_true rfl) (pX3_0 Y _ _ _) dX3_add_99 (fun H locs hh => ?_)
  exact sy_vret C hh dX3_add_102 hq

end
set_option maxHeartbeats 4000000 in
set_option maxRecDepth 100000 in
theorem mX3_add (l : Launch) (Y : sy_Y) (sz : Nat) (M : sy_M) (a1 : Int32) (a2 : Int32) (a3 : Int32) (Q : sy_M → Prop) (hq : wX3_add M a1 a2 a3 Q) : Met l yX3_add vsX3_add ({ frames := 0, cells := 0, slots := 0, locals := 0 } : Room) (va_Pc [.ref (Y.2.1 28), .int a1, .int a2, .int a3] (sy_pre Y NX EX tfX sz M)) (sy_QV Y NX EX sz Q) 0 0 (sy_A NX Y.2.1 sz) := by
  refine sy_metV (by decide) rfl (Nat.le_of_ble_eq_true rfl) ?_
  intro p e s m args below meth c C ls hl hh
  have hx := C.1.1
  have hb := C.1.2.1
  have hl : lv_has ls 5 [(0, .ref (Y.2.1 28)), (1, .int a1), (2, .int a2), (3, .int a3)] := hl
  unfold wX3_add at hq
  refine lv_aload_n hx hb dX3_add_0 rfl (lv_at hl 0 rfl) ?_
  refine sy_get C hh (fun w h => mc (uX_fX3 w h)) 28 (by decide) (oX_28 Y) rfl 0 (by decide) (index := 9) (mc uX_135) (v := .int (M 28 0)) rfl dX3_add_1 ?_
  refine lv_bipush (v := (nI 8)) hx hb dX3_add_4 (by decide) ?_
  refine lv_icmp_lt (tgt := 10) hx hb dX3_add_6 (by decide) (fun c1 => ?_) (fun c1 => ?_)
  · have hq := hq.1 c1
    refine lv_aload_n hx hb dX3_add_10 rfl (lv_at hl 0 rfl) ?_
    refine sy_get C hh (fun w h => mc (uX_fX3 w h)) 28 (by decide) (oX_28 Y) rfl 0 (by decide) (index := 9) (mc uX_135) (v := .int (M 28 0)) rfl dX3_add_11 ?_
    refine lv_istore (lv' := [(4, .int (M 28 0)), (0, .ref (Y.2.1 28)), (1, .int a1), (2, .int a2), (3, .int a3)]) hx hb dX3_add_14 hl (by decide) rfl (fun ls hl => ?_)
    obtain ⟨n12, hq⟩ := hq
    refine kX3_add_16 C (fun M7 x1_8 x2_9 x4_10 H locs ls hq hh hl => ?_) n12 M a1 a2 a3 (M 28 0) _ _ _ hq hh (lv_sub hl [1, 2, 3, 4, 0] rfl)
    · refine kX3_add_76 C  M7 x1_8 x2_9 x4_10 _ _ _ hq hh (lv_sub hl [0, 1, 2, 3] rfl)
  · have hq := hq.2 c1
    exact sy_vret C hh dX3_add_9 hq

/-! AreaSetter$Items.isSmall(LAreaSetter$Tree;ILAreaSetter$Drawings;)Z -/
def wX3_isSmall (M : sy_M) (p1 : Nat) (a2 : Int32) (Q : Int32 → sy_M → Prop) : Prop := ∃ n1 : Nat, n1 < 40 ∧ a2 = nI n1 ∧ wX10_isLeaf M p1 a2 (fun r3 M2 => ((r3 = 0 → Q (0 : Int32) M2) ∧ (¬ r3 = 0 → wX10_has M2 p1 (M (p1 + 1) n1) (fun r6 M5 => ((¬ r6 = 0 → ∃ n8 : Nat, n8 < 40 ∧ (M (p1 + 1) n1) = nI n8 ∧ wX2_latestCell M5 (M (p1 + 1) n1) (fun r10 M9 => ∃ n11 : Nat, n11 < 2000 ∧ r10 = nI n11 ∧ wX2_latestCell M9 a2 (fun r13 M12 => ∃ n14 : Nat, n14 < 2000 ∧ r13 = nI n14 ∧ ((0 ≤ (lg_cmp (((M12 16 n14).toInt64) * (1000 : Int64)) (((M5 (p1 + 8) n8).toInt64) * ((M9 16 n11).toInt64))) → Q (0 : Int32) M12) ∧ (¬ 0 ≤ (lg_cmp (((M12 16 n14).toInt64) * (1000 : Int64)) (((M5 (p1 + 8) n8).toInt64) * ((M9 16 n11).toInt64))) → Q (1 : Int32) M12))))) ∧ (r6 = 0 → Q (0 : Int32) M5))))))
section
variable {p : Program} {l : Launch} {e : Env} {s : State} {m : MethodId} {args : Array Value} {below : List Frame} {meth : Method} {c : Code} {Y : sy_Y}
end
set_option maxHeartbeats 4000000 in
set_option maxRecDepth 100000 in
theorem mX3_isSmall (l : Launch) (Y : sy_Y) (sz : Nat) (M : sy_M) (p1 : Nat) (hp1 : iX10 p1) (a2 : Int32) (Q : Int32 → sy_M → Prop) (hq : wX3_isSmall M p1 a2 Q) : Met l yX3_isSmall vsX3_isSmall ({ frames := 2, cells := 0, slots := 0, locals := 43 } : Room) (va_Pc [.ref (Y.2.1 p1), .int a2, .ref (Y.2.1 9)] (sy_pre Y NX EX tfX sz M)) (sy_QI Y NX EX sz Q) 0 0 (sy_A NX Y.2.1 sz) := by
  refine sy_metI (by decide) rfl (Nat.le_of_ble_eq_true rfl) ?_
  intro p e s m args below meth c C ls hl hh
  have hx := C.1.1
  have hb := C.1.2.1
  have hl : lv_has ls 7 [(0, .ref (Y.2.1 p1)), (1, .int a2), (2, .ref (Y.2.1 9))] := hl
  unfold wX3_isSmall at hq
  refine lv_aload_n hx hb dX3_isSmall_0 rfl (lv_at hl 0 rfl) ?_
  refine sy_get C hh (fun w h => mc (uX_fX10 w h)) p1 (iX10_N hp1) (oX10 hp1) rfl 2 (by decide) (index := 52) (mc uX_144) (v := .ref (Y.2.1 (p1 + 1))) rfl dX3_isSmall_1 ?_
  refine lv_iload_n hx hb dX3_isSmall_4 rfl (lv_at hl 1 rfl) ?_
  obtain ⟨n1, hn1, en1, hq⟩ := hq
  refine sy_iald C hh (p1 + 1) (iX10_N1 hp1) (aX10_1 hp1) (tX10_1 hp1) hn1 en1 (by decide) dX3_isSmall_5 ?_
  refine lv_istore_n (lv' := [(3, .int (M (p1 + 1) n1)), (0, .ref (Y.2.1 p1)), (1, .int a2), (2, .ref (Y.2.1 9))]) hx hb dX3_isSmall_6 rfl hl (by decide) rfl (fun ls hl => ?_)
  refine lv_aload_n hx hb dX3_isSmall_7 rfl (lv_at hl 1 rfl) ?_
  refine lv_iload_n hx hb dX3_isSmall_8 rfl (lv_at hl 2 rfl) ?_
  refine sy_cIV C hh (As := [.int a2]) (rest := []) p1 (iX10_N hp1) (oX10 hp1) rfl (mX10_isLeaf l Y _ M p1 hp1 a2 _ hq) (cwV 1 C.1.2.2.2.2 (sy_goodV uX_good uX_149 uX_150 uX_151 uX_20 uX_143 _) rfl rfl rfl hdX10_isLeaf ⟨Nat.le_of_ble_eq_true rfl, Nat.le_of_ble_eq_true rfl⟩) rfl hl.1 rfl (Nat.le_of_ble_eq_true rfl) dX3_isSmall_9 (fun r3 M2 H locs hq hh => ?_)
  refine lv_if_eq (tgt := 23) hx hb dX3_isSmall_12 (by decide) (fun c4 => ?_) (fun c4 => ?_)
  · have hq := hq.1 c4
    refine lv_iconst (v := (0 : Int32)) hx hb dX3_isSmall_23 (by decide) ?_
    exact sy_zret C hh dX3_isSmall_24 (by decide) hq
  · have hq := hq.2 c4
    refine lv_aload_n hx hb dX3_isSmall_15 rfl (lv_at hl 1 rfl) ?_
    refine lv_iload_n hx hb dX3_isSmall_16 rfl (lv_at hl 0 rfl) ?_
    refine sy_cIV C hh (As := [.int (M (p1 + 1) n1)]) (rest := []) p1 (iX10_N hp1) (oX10 hp1) rfl (mX10_has l Y _ M2 p1 hp1 (M (p1 + 1) n1) _ hq) (cwV 1 C.1.2.2.2.2 (sy_goodV uX_good uX_152 uX_18 uX_19 uX_20 uX_11 _) rfl rfl rfl hdX10_has ⟨Nat.le_of_ble_eq_true rfl, Nat.le_of_ble_eq_true rfl⟩) rfl hl.1 rfl (Nat.le_of_ble_eq_true rfl) dX3_isSmall_17 (fun r6 M5 H locs hq hh => ?_)
    refine lv_if_ne (tgt := 25) hx hb dX3_isSmall_20 (by decide) (fun c7 => ?_) (fun c7 => ?_)
    · have hq := hq.1 c7
      refine lv_aload_n hx hb dX3_isSmall_25 rfl (lv_at hl 3 rfl) ?_
      refine sy_get C hh (fun w h => mc (uX_fX2 w h)) 9 (by decide) (oX_9 Y) rfl 2 (by decide) (index := 55) (mc uX_145) (v := .ref (Y.2.1 11)) rfl dX3_isSmall_26 ?_
      refine sy_get C hh (fun w h => mc (uX_fX7 w h)) 11 (by decide) (oX_11 Y) rfl 4 (by decide) (index := 60) (mc uX_146) (v := .ref (Y.2.1 16)) rfl dX3_isSmall_29 ?_
      refine lv_astore (lv' := [(4, .ref (Y.2.1 16)), (3, .int (M (p1 + 1) n1)), (0, .ref (Y.2.1 p1)), (1, .int a2), (2, .ref (Y.2.1 9))]) hx hb dX3_isSmall_32 hl (by decide) rfl (fun ls hl => ?_)
      refine lv_aload_n hx hb dX3_isSmall_34 rfl (lv_at hl 2 rfl) ?_
      refine sy_get C hh (fun w h => mc (uX_fX10 w h)) p1 (iX10_N hp1) (oX10 hp1) rfl 9 (by decide) (index := 97) (mc uX_147) (v := .ref (Y.2.1 (p1 + 8))) rfl dX3_isSmall_35 ?_
      refine lv_iload_n hx hb dX3_isSmall_38 rfl (lv_at hl 1 rfl) ?_
      obtain ⟨n8, hn8, en8, hq⟩ := hq
      refine sy_iald C hh (p1 + 8) (iX10_N8 hp1) (aX10_8 hp1) (tX10_8 hp1) hn8 en8 (by decide) dX3_isSmall_39 ?_
      refine lv_i2l (v := ((M5 (p1 + 8) n8).toInt64)) hx hb dX3_isSmall_40 rfl ?_
      refine lv_aload hx hb dX3_isSmall_41 (lv_at hl 0 rfl) ?_
      refine lv_aload_n hx hb dX3_isSmall_43 rfl (lv_at hl 4 rfl) ?_
      refine lv_iload_n hx hb dX3_isSmall_44 rfl (lv_at hl 1 rfl) ?_
      refine sy_cIV C hh (As := [.int (M (p1 + 1) n1)]) (rest := [.ref (Y.2.1 16), .long ((M5 (p1 + 8) n8).toInt64)]) 9 (by decide) (oX_9 Y) rfl (mX2_latestCell l Y _ M5 (M (p1 + 1) n1) _ hq) (cwV 1 C.1.2.2.2.2 (sy_goodV uX_good uX_153 uX_118 uX_119 uX_114 uX_110 _) rfl rfl rfl hdX2_latestCell ⟨Nat.le_of_ble_eq_true rfl, Nat.le_of_ble_eq_true rfl⟩) rfl hl.1 rfl (Nat.le_of_ble_eq_true rfl) dX3_isSmall_45 (fun r10 M9 H locs hq hh => ?_)
      obtain ⟨n11, hn11, en11, hq⟩ := hq
      refine sy_iald C hh 16 (by decide) (aX_16 Y) tX_16 hn11 en11 (by decide) dX3_isSmall_48 ?_
      refine lv_i2l (v := ((M9 16 n11).toInt64)) hx hb dX3_isSmall_49 rfl ?_
      refine lv_lmul hx hb dX3_isSmall_50 ?_
      refine lv_lstore (lv' := [(5, .long (((M5 (p1 + 8) n8).toInt64) * ((M9 16 n11).toInt64))), (4, .ref (Y.2.1 16)), (3, .int (M (p1 + 1) n1)), (0, .ref (Y.2.1 p1)), (1, .int a2), (2, .ref (Y.2.1 9))]) hx hb dX3_isSmall_51 hl (by decide) rfl (fun ls hl => ?_)
      refine lv_aload hx hb dX3_isSmall_53 (lv_at hl 1 rfl) ?_
      refine lv_aload_n hx hb dX3_isSmall_55 rfl (lv_at hl 5 rfl) ?_
      refine lv_iload_n hx hb dX3_isSmall_56 rfl (lv_at hl 4 rfl) ?_
      refine sy_cIV C hh (As := [.int a2]) (rest := [.ref (Y.2.1 16)]) 9 (by decide) (oX_9 Y) rfl (mX2_latestCell l Y _ M9 a2 _ hq) (cwV 1 C.1.2.2.2.2 (sy_goodV uX_good uX_153 uX_118 uX_119 uX_114 uX_110 _) rfl rfl rfl hdX2_latestCell ⟨Nat.le_of_ble_eq_true rfl, Nat.le_of_ble_eq_true rfl⟩) rfl hl.1 rfl (Nat.le_of_ble_eq_true rfl) dX3_isSmall_57 (fun r13 M12 H locs hq hh => ?_)
      obtain ⟨n14, hn14, en14, hq⟩ := hq
      refine sy_iald C hh 16 (by decide) (aX_16 Y) tX_16 hn14 en14 (by decide) dX3_isSmall_60 ?_
      refine lv_i2l (v := ((M12 16 n14).toInt64)) hx hb dX3_isSmall_61 rfl ?_
      refine lv_ldc2 (v := 1000) hx hb C.1.2.2.2.1 (C.1.2.2.2.2 (.constantLong RX3 100 1000) (mc uX_148)) dX3_isSmall_62 ?_
      refine lv_lmul hx hb dX3_isSmall_65 ?_
      refine lv_lload hx hb dX3_isSmall_66 (lv_at hl 0 rfl) ?_
      refine W.lcmp hx hb dX3_isSmall_68 ?_
      refine lv_if_ge (tgt := 76) hx hb dX3_isSmall_69 (by decide) (fun c15 => ?_) (fun c15 => ?_)
      · have hq := hq.1 c15
        refine lv_iconst (v := (0 : Int32)) hx hb dX3_isSmall_76 (by decide) ?_
        exact sy_zret C hh dX3_isSmall_77 (by decide) hq
      · have hq := hq.2 c15
        refine lv_iconst (v := (1 : Int32)) hx hb dX3_isSmall_72 (by decide) ?_
        refine lv_goto (tgt := 77) hx hb dX3_isSmall_73 (by decide) ?_
        exact sy_zret C hh dX3_isSmall_77 (by decide) hq
    · have hq := hq.2 c7
      refine lv_iconst (v := (0 : Int32)) hx hb dX3_isSmall_23 (by decide) ?_
      exact sy_zret C hh dX3_isSmall_24 (by decide) hq

/-! AreaSetter$Items.countSmall(LAreaSetter$Tree;ILAreaSetter$Drawings;)I -/
def wX3_countSmall_7 (Q : Int32 → sy_M → Prop) : Nat → sy_M → Nat → Int32 → Int32 → Int32 → Prop
  | 0, _, _, _, _, _ => False
  | n + 1, M, x0, x1, x3, x4 => (((M x0 0) ≤ x4 → Q x3 M) ∧ (¬ (M x0 0) ≤ x4 → ∃ n2 : Nat, n2 < 40 ∧ x4 = nI n2 ∧ ((¬ (M (x0 + 1) n2) = x1 → wX3_countSmall_7 Q n M x0 x1 x3 (x4 + (1 : Int32))) ∧ ((M (x0 + 1) n2) = x1 → wX3_isSmall M x0 x4 (fun r5 M4 => ((r5 = 0 → wX3_countSmall_7 Q n M4 x0 x1 x3 (x4 + (1 : Int32))) ∧ (¬ r5 = 0 → wX3_countSmall_7 Q n M4 x0 x1 (x3 + (1 : Int32)) (x4 + (1 : Int32)))))))))
def wX3_countSmall (M : sy_M) (p1 : Nat) (a2 : Int32) (Q : Int32 → sy_M → Prop) : Prop := ∃ n7 : Nat, wX3_countSmall_7  Q n7 M p1 a2 (0 : Int32) (a2 + (1 : Int32))
section
variable {p : Program} {l : Launch} {e : Env} {s : State} {m : MethodId} {args : Array Value} {below : List Frame} {meth : Method} {c : Code} {Y : sy_Y}
set_option maxHeartbeats 4000000 in
set_option maxRecDepth 100000 in
theorem kX3_countSmall_7 (C : sy_C p m c cX3_countSmall 5 s args vsX3_countSmall RX3 meth (some .int) Y NX tfX) {Q : Int32 → sy_M → Prop} :
    ∀ (n : Nat) (M : sy_M) (x0 : Nat) (x1 : Int32) (x3 : Int32) (x4 : Int32) (hx0 : iX10 x0) (H : Heap) (locs : List Loc) (ls : Array Slot), wX3_countSmall_7 Q n M x0 x1 x3 x4 → sy_H Y NX EX s H locs M → lv_has ls 5 [(0, .ref (Y.2.1 x0)), (1, .int x1), (2, .ref (Y.2.1 9)), (3, .int x3), (4, .int x4)] → W p l e ({ frames := 3, cells := 0, slots := 0, locals := 69 } : Room) s m args below meth c H locs 0 0 (sy_ZI below args s Y NX EX Q) (F0 m 7 ls []) := by
  have hx := C.1.1
  have hb := C.1.2.1
  intro n
  induction n with
  | zero =>
    intro M x0 x1 x3 x4 hx0 H locs ls hq hh hl
    unfold wX3_countSmall_7 at hq
    exact hq.elim
  | succ n ih =>
    intro M x0 x1 x3 x4 hx0 H locs ls hq hh hl
    unfold wX3_countSmall_7 at hq
    refine lv_iload hx hb dX3_countSmall_7 (lv_at hl 4 rfl) ?_
    refine lv_aload_n hx hb dX3_countSmall_9 rfl (lv_at hl 0 rfl) ?_
    refine sy_get C hh (fun w h => mc (uX_fX10 w h)) x0 (iX10_N hx0) (oX10 hx0) rfl 0 (by decide) (index := 50) (mc uX_155) (v := .int (M x0 0)) rfl dX3_countSmall_10 ?_
    refine lv_icmp_ge (tgt := 46) hx hb dX3_countSmall_13 (by decide) (fun c1 => ?_) (fun c1 => ?_)
    · have hq := hq.1 c1
      refine lv_iload_n hx hb dX3_countSmall_46 rfl (lv_at hl 3 rfl) ?_
      exact sy_iret C hh dX3_countSmall_47 hq
    · have hq := hq.2 c1
      refine lv_aload_n hx hb dX3_countSmall_16 rfl (lv_at hl 0 rfl) ?_
      refine sy_get C hh (fun w h => mc (uX_fX10 w h)) x0 (iX10_N hx0) (oX10 hx0) rfl 2 (by decide) (index := 52) (mc uX_144) (v := .ref (Y.2.1 (x0 + 1))) rfl dX3_countSmall_17 ?_
      refine lv_iload hx hb dX3_countSmall_20 (lv_at hl 4 rfl) ?_
      obtain ⟨n2, hn2, en2, hq⟩ := hq
      refine sy_iald C hh (x0 + 1) (iX10_N1 hx0) (aX10_1 hx0) (tX10_1 hx0) hn2 en2 (by decide) dX3_countSmall_22 ?_
      refine lv_iload_n hx hb dX3_countSmall_23 rfl (lv_at hl 1 rfl) ?_
      refine lv_icmp_ne (tgt := 40) hx hb dX3_countSmall_24 (by decide) (fun c3 => ?_) (fun c3 => ?_)
      · have hq := hq.1 c3
        refine lv_iinc (v := (x4 + (1 : Int32))) (lv' := [(4, .int (x4 + (1 : Int32))), (0, .ref (Y.2.1 x0)), (1, .int x1), (2, .ref (Y.2.1 9)), (3, .int x3)]) hx hb dX3_countSmall_40 hl (k := 4) rfl (sy_inc (by decide)) (by decide) rfl (fun ls hl => ?_)
        refine lv_goto (tgt := 7) hx hb dX3_countSmall_43 (by decide) ?_
        exact ih M x0 x1 x3 (x4 + (1 : Int32)) hx0 _ _ _ hq hh (lv_sub hl [1, 2, 3, 4, 0] rfl)
      · have hq := hq.2 c3
        refine lv_aload_n hx hb dX3_countSmall_27 rfl (lv_at hl 0 rfl) ?_
        refine lv_iload hx hb dX3_countSmall_28 (lv_at hl 4 rfl) ?_
        refine lv_aload_n hx hb dX3_countSmall_30 rfl (lv_at hl 2 rfl) ?_
        refine sy_cIS C hh (As := [.ref (Y.2.1 x0), .int x4, .ref (Y.2.1 9)]) (rest := []) (mX3_isSmall l Y _ M x0 hx0 x4 _ hq) (va_cwS 3 C.1.2.2.2.2 (sy_goodS uX_good uX_156 uX_157 uX_70 uX_154 _) rfl rfl rfl hdX3_isSmall.2 ⟨Nat.le_of_ble_eq_true rfl, Nat.le_of_ble_eq_true rfl⟩) rfl hl.1 rfl (Nat.le_of_ble_eq_true rfl) dX3_countSmall_31 (fun r5 M4 H locs hq hh => ?_)
        refine lv_if_eq (tgt := 40) hx hb dX3_countSmall_34 (by decide) (fun c6 => ?_) (fun c6 => ?_)
        · have hq := hq.1 c6
          refine lv_iinc (v := (x4 + (1 : Int32))) (lv' := [(4, .int (x4 + (1 : Int32))), (0, .ref (Y.2.1 x0)), (1, .int x1), (2, .ref (Y.2.1 9)), (3, .int x3)]) hx hb dX3_countSmall_40 hl (k := 4) rfl (sy_inc (by decide)) (by decide) rfl (fun ls hl => ?_)
          refine lv_goto (tgt := 7) hx hb dX3_countSmall_43 (by decide) ?_
          exact ih M4 x0 x1 x3 (x4 + (1 : Int32)) hx0 _ _ _ hq hh (lv_sub hl [1, 2, 3, 4, 0] rfl)
        · have hq := hq.2 c6
          refine lv_iinc (v := (x3 + (1 : Int32))) (lv' := [(3, .int (x3 + (1 : Int32))), (0, .ref (Y.2.1 x0)), (1, .int x1), (2, .ref (Y.2.1 9)), (4, .int x4)]) hx hb dX3_countSmall_37 hl (k := 3) rfl (sy_inc (by decide)) (by decide) rfl (fun ls hl => ?_)
          refine lv_iinc (v := (x4 + (1 : Int32))) (lv' := [(4, .int (x4 + (1 : Int32))), (3, .int (x3 + (1 : Int32))), (0, .ref (Y.2.1 x0)), (1, .int x1), (2, .ref (Y.2.1 9))]) hx hb dX3_countSmall_40 hl (k := 4) rfl (sy_inc (by decide)) (by decide) rfl (fun ls hl => ?_)
          refine lv_goto (tgt := 7) hx hb dX3_countSmall_43 (by decide) ?_
          exact ih M4 x0 x1 (x3 + (1 : Int32)) (x4 + (1 : Int32)) hx0 _ _ _ hq hh (lv_sub hl [2, 3, 4, 1, 0] rfl)

end
set_option maxHeartbeats 4000000 in
set_option maxRecDepth 100000 in
theorem mX3_countSmall (l : Launch) (Y : sy_Y) (sz : Nat) (M : sy_M) (p1 : Nat) (hp1 : iX10 p1) (a2 : Int32) (Q : Int32 → sy_M → Prop) (hq : wX3_countSmall M p1 a2 Q) : Met l yX3_countSmall vsX3_countSmall ({ frames := 3, cells := 0, slots := 0, locals := 69 } : Room) (va_Pc [.ref (Y.2.1 p1), .int a2, .ref (Y.2.1 9)] (sy_pre Y NX EX tfX sz M)) (sy_QI Y NX EX sz Q) 0 0 (sy_A NX Y.2.1 sz) := by
  refine sy_metI (by decide) rfl (Nat.le_of_ble_eq_true rfl) ?_
  intro p e s m args below meth c C ls hl hh
  have hx := C.1.1
  have hb := C.1.2.1
  have hl : lv_has ls 5 [(0, .ref (Y.2.1 p1)), (1, .int a2), (2, .ref (Y.2.1 9))] := hl
  unfold wX3_countSmall at hq
  refine lv_iconst (v := (0 : Int32)) hx hb dX3_countSmall_0 (by decide) ?_
  refine lv_istore_n (lv' := [(3, .int (0 : Int32)), (0, .ref (Y.2.1 p1)), (1, .int a2), (2, .ref (Y.2.1 9))]) hx hb dX3_countSmall_1 rfl hl (by decide) rfl (fun ls hl => ?_)
  refine lv_iload_n hx hb dX3_countSmall_2 rfl (lv_at hl 2 rfl) ?_
  refine lv_iconst (v := (1 : Int32)) hx hb dX3_countSmall_3 (by decide) ?_
  refine lv_iadd hx hb dX3_countSmall_4 ?_
  refine lv_istore (lv' := [(4, .int (a2 + (1 : Int32))), (3, .int (0 : Int32)), (0, .ref (Y.2.1 p1)), (1, .int a2), (2, .ref (Y.2.1 9))]) hx hb dX3_countSmall_5 hl (by decide) rfl (fun ls hl => ?_)
  obtain ⟨n7, hq⟩ := hq
  refine kX3_countSmall_7 C  n7 M p1 a2 (0 : Int32) (a2 + (1 : Int32)) hp1 _ _ _ hq hh (lv_sub hl [2, 3, 4, 1, 0] rfl)

/-! AreaSetter$Items.setFrame(LAreaSetter$Drawings;I)V -/
def wX3_setFrame (M : sy_M) (a2 : Int32) (Q : sy_M → Prop) : Prop := ∃ n1 : Nat, n1 < 2000 ∧ a2 = nI n1 ∧ Q (mu (mu (mu (mu M 28 4 (M 12 n1)) 28 5 (M 13 n1)) 28 6 (M 14 n1)) 28 7 (M 15 n1))
section
variable {p : Program} {l : Launch} {e : Env} {s : State} {m : MethodId} {args : Array Value} {below : List Frame} {meth : Method} {c : Code} {Y : sy_Y}
end
set_option maxHeartbeats 4000000 in
set_option maxRecDepth 100000 in
theorem mX3_setFrame (l : Launch) (Y : sy_Y) (sz : Nat) (M : sy_M) (a2 : Int32) (Q : sy_M → Prop) (hq : wX3_setFrame M a2 Q) : Met l yX3_setFrame vsX3_setFrame ({ frames := 0, cells := 0, slots := 0, locals := 0 } : Room) (va_Pc [.ref (Y.2.1 28), .ref (Y.2.1 9), .int a2] (sy_pre Y NX EX tfX sz M)) (sy_QV Y NX EX sz Q) 0 0 (sy_A NX Y.2.1 sz) := by
  refine sy_metV (by decide) rfl (Nat.le_of_ble_eq_true rfl) ?_
  intro p e s m args below meth c C ls hl hh
  have hx := C.1.1
  have hb := C.1.2.1
  have hl : lv_has ls 3 [(0, .ref (Y.2.1 28)), (1, .ref (Y.2.1 9)), (2, .int a2)] := hl
  unfold wX3_setFrame at hq
  refine lv_aload_n hx hb dX3_setFrame_0 rfl (lv_at hl 0 rfl) ?_
  refine lv_aload_n hx hb dX3_setFrame_1 rfl (lv_at hl 1 rfl) ?_
  refine sy_get C hh (fun w h => mc (uX_fX2 w h)) 9 (by decide) (oX_9 Y) rfl 2 (by decide) (index := 55) (mc uX_145) (v := .ref (Y.2.1 11)) rfl dX3_setFrame_2 ?_
  refine sy_get C hh (fun w h => mc (uX_fX7 w h)) 11 (by decide) (oX_11 Y) rfl 0 (by decide) (index := 82) (mc uX_161) (v := .ref (Y.2.1 12)) rfl dX3_setFrame_5 ?_
  refine lv_iload_n hx hb dX3_setFrame_8 rfl (lv_at hl 2 rfl) ?_
  obtain ⟨n1, hn1, en1, hq⟩ := hq
  refine sy_iald C hh 12 (by decide) (aX_12 Y) tX_12 hn1 en1 (by decide) dX3_setFrame_9 ?_
  refine sy_put C hh (fun w h => mc (uX_fX3 w h)) tyX3 tyX3_ok nmX3 28 (by decide) (oX_28 Y) rfl 4 (by decide) (index := 25) (mc uX_139) rfl 4 (M 12 n1) (ty := .int) (tyX3_ok 4 (by decide)) rfl rfl (Nat.le_of_ble_eq_true rfl) (pX3_4 Y _ _ _) dX3_setFrame_10 (fun H locs hh => ?_)
  refine lv_aload_n hx hb dX3_setFrame_13 rfl (lv_at hl 0 rfl) ?_
  refine lv_aload_n hx hb dX3_setFrame_14 rfl (lv_at hl 1 rfl) ?_
  refine sy_get C hh (fun w h => mc (uX_fX2 w h)) 9 (by decide) (oX_9 Y) rfl 2 (by decide) (index := 55) (mc uX_145) (v := .ref (Y.2.1 11)) rfl dX3_setFrame_15 ?_
  refine sy_get C hh (fun w h => mc (uX_fX7 w h)) 11 (by decide) (oX_11 Y) rfl 1 (by decide) (index := 84) (mc uX_162) (v := .ref (Y.2.1 13)) rfl dX3_setFrame_18 ?_
  refine lv_iload_n hx hb dX3_setFrame_21 rfl (lv_at hl 2 rfl) ?_
  refine sy_iald C hh 13 (by decide) (aX_13 Y) tX_13 hn1 en1 (by decide) dX3_setFrame_22 ?_
  refine sy_put C hh (fun w h => mc (uX_fX3 w h)) tyX3 tyX3_ok nmX3 28 (by decide) (oX_28 Y) rfl 5 (by decide) (index := 28) (mc uX_140) rfl 5 (M 13 n1) (ty := .int) (tyX3_ok 5 (by decide)) rfl rfl (Nat.le_of_ble_eq_true rfl) (pX3_5 Y _ _ _) dX3_setFrame_23 (fun H locs hh => ?_)
  refine lv_aload_n hx hb dX3_setFrame_26 rfl (lv_at hl 0 rfl) ?_
  refine lv_aload_n hx hb dX3_setFrame_27 rfl (lv_at hl 1 rfl) ?_
  refine sy_get C hh (fun w h => mc (uX_fX2 w h)) 9 (by decide) (oX_9 Y) rfl 2 (by decide) (index := 55) (mc uX_145) (v := .ref (Y.2.1 11)) rfl dX3_setFrame_28 ?_
  refine sy_get C hh (fun w h => mc (uX_fX7 w h)) 11 (by decide) (oX_11 Y) rfl 2 (by decide) (index := 86) (mc uX_163) (v := .ref (Y.2.1 14)) rfl dX3_setFrame_31 ?_
  refine lv_iload_n hx hb dX3_setFrame_34 rfl (lv_at hl 2 rfl) ?_
  refine sy_iald C hh 14 (by decide) (aX_14 Y) tX_14 hn1 en1 (by decide) dX3_setFrame_35 ?_
  refine sy_put C hh (fun w h => mc (uX_fX3 w h)) tyX3 tyX3_ok nmX3 28 (by decide) (oX_28 Y) rfl 6 (by decide) (index := 31) (mc uX_141) rfl 6 (M 14 n1) (ty := .int) (tyX3_ok 6 (by decide)) rfl rfl (Nat.le_of_ble_eq_true rfl) (pX3_6 Y _ _ _) dX3_setFrame_36 (fun H locs hh => ?_)
  refine lv_aload_n hx hb dX3_setFrame_39 rfl (lv_at hl 0 rfl) ?_
  refine lv_aload_n hx hb dX3_setFrame_40 rfl (lv_at hl 1 rfl) ?_
  refine sy_get C hh (fun w h => mc (uX_fX2 w h)) 9 (by decide) (oX_9 Y) rfl 2 (by decide) (index := 55) (mc uX_145) (v := .ref (Y.2.1 11)) rfl dX3_setFrame_41 ?_
  refine sy_get C hh (fun w h => mc (uX_fX7 w h)) 11 (by decide) (oX_11 Y) rfl 3 (by decide) (index := 88) (mc uX_164) (v := .ref (Y.2.1 15)) rfl dX3_setFrame_44 ?_
  refine lv_iload_n hx hb dX3_setFrame_47 rfl (lv_at hl 2 rfl) ?_
  refine sy_iald C hh 15 (by decide) (aX_15 Y) tX_15 hn1 en1 (by decide) dX3_setFrame_48 ?_
  refine sy_put C hh (fun w h => mc (uX_fX3 w h)) tyX3 tyX3_ok nmX3 28 (by decide) (oX_28 Y) rfl 7 (by decide) (index := 34) (mc uX_142) rfl 7 (M 15 n1) (ty := .int) (tyX3_ok 7 (by decide)) rfl rfl (Nat.le_of_ble_eq_true rfl) (pX3_7 Y _ _ _) dX3_setFrame_49 (fun H locs hh => ?_)
  exact sy_vret C hh dX3_setFrame_52 hq

/-! AreaSetter$Items.gather(LAreaSetter$Tree;ILAreaSetter$Drawings;)V -/
def wX3_gather_116 (K_50 : sy_M → Nat → Int32 → Int32 → Int32 → Prop) (Q : sy_M → Prop) (M : sy_M) (x1 : Nat) (x2 : Int32) (x5 : Int32) (x6 : Int32) (x7 : Int32) : Prop := ∃ n13 : Nat, n13 < 40 ∧ x2 = nI n13 ∧ wX3_add M x6 x7 (M (x1 + 7) n13) (fun M14 => K_50 M14 x1 x2 x5 (x6 + (1 : Int32)))
def wX3_gather_50 (K_136 : sy_M → Int32 → Int32 → Prop) (Q : sy_M → Prop) : Nat → sy_M → Nat → Int32 → Int32 → Int32 → Prop
  | 0, _, _, _, _, _ => False
  | n + 1, M, x1, x2, x5, x6 => (((M x1 0) ≤ x6 → K_136 M x2 x5) ∧ (¬ (M x1 0) ≤ x6 → ∃ n7 : Nat, n7 < 40 ∧ x6 = nI n7 ∧ (((M (x1 + 1) n7) = x2 → wX2_latestCell M x6 (fun r10 M9 => ∃ n11 : Nat, n11 < 2000 ∧ r10 = nI n11 ∧ (((M9 28 1) ≤ 0 → wX3_gather_116 (fun (M15 : sy_M) (x1_16 : Nat) (x2_17 : Int32) (x5_18 : Int32) (x6_19 : Int32) => wX3_gather_50 K_136 Q n M15 x1_16 x2_17 x5_18 x6_19) Q M9 x1 x2 x5 x6 (M9 16 n11)) ∧ (¬ (M9 28 1) ≤ 0 → wX3_isSmall M9 x1 x6 (fun r21 M20 => ((r21 = 0 → wX3_gather_116 (fun (M23 : sy_M) (x1_24 : Nat) (x2_25 : Int32) (x5_26 : Int32) (x6_27 : Int32) => wX3_gather_50 K_136 Q n M23 x1_24 x2_25 x5_26 x6_27) Q M20 x1 x2 x5 x6 (M9 16 n11)) ∧ (¬ r21 = 0 → wX3_gather_50 K_136 Q n M20 x1 x2 (x5 + (M9 16 n11)) (x6 + (1 : Int32))))))))) ∧ (¬ (M (x1 + 1) n7) = x2 → wX3_gather_50 K_136 Q n M x1 x2 x5 (x6 + (1 : Int32))))))
def wX3_gather_154 (K_193 : sy_M → Int32 → Prop) (Q : sy_M → Prop) : Nat → sy_M → Int32 → Int32 → Prop
  | 0, _, _, _ => False
  | n + 1, M, x2, x6 => (((M 28 0) ≤ x6 → K_193 M x2) ∧ (¬ (M 28 0) ≤ x6 → ∃ n33 : Nat, n33 < 9 ∧ x6 = nI n33 ∧ n33 < 8 ∧ ∃ n35 : Nat, n35 < 9 ∧ (x6 + (1 : Int32)) = nI n35 ∧ wX3_gather_154 K_193 Q n (mu M 31 n35 ((M 31 n33) + (M 30 n33))) x2 (x6 + (1 : Int32))))
def wX3_gather_39 (Q : sy_M → Prop) (M : sy_M) (x1 : Nat) (x2 : Int32) (s1 : Int32) : Prop := ∃ n49 : Nat, wX3_gather_50 (fun (M28 : sy_M) (x2_29 : Int32) (x5_30 : Int32) => (((M28 28 1) ≤ 0 → ∃ n41 : Nat, wX3_gather_154 (fun (M36 : sy_M) (x2_37 : Int32) => wX2_latestCell M36 x2_37 (fun r39 M38 => wX3_setFrame M38 r39 (fun M40 => Q M40))) Q n41 M28 x2_29 (0 : Int32)) ∧ (¬ (M28 28 1) ≤ 0 → wX3_add M28 (-1 : Int32) x5_30 (0 : Int32) (fun M42 => ∃ n48 : Nat, wX3_gather_154 (fun (M43 : sy_M) (x2_44 : Int32) => wX2_latestCell M43 x2_44 (fun r46 M45 => wX3_setFrame M45 r46 (fun M47 => Q M47))) Q n48 M42 x2_29 (0 : Int32))))) Q n49 (mu M 28 1 s1) x1 x2 (0 : Int32) (x2 + (1 : Int32))
def wX3_gather_24 (Q : sy_M → Prop) (M : sy_M) (x1 : Nat) (x2 : Int32) (s0 : Int32) : Prop := ((s0 < (nI 2) → wX3_gather_39  Q M x1 x2 (0 : Int32)) ∧ (¬ s0 < (nI 2) → wX3_gather_39  Q M x1 x2 s0))
def wX3_gather (M : sy_M) (p1 : Nat) (a2 : Int32) (Q : sy_M → Prop) : Prop := ∃ n1 : Nat, n1 < 40 ∧ a2 = nI n1 ∧ ((((mu M 28 0 (0 : Int32)) (p1 + 9) n1) = 0 → wX3_countSmall (mu M 28 0 (0 : Int32)) p1 a2 (fun r4 M3 => wX3_gather_24  Q M3 p1 a2 r4)) ∧ (¬ ((mu M 28 0 (0 : Int32)) (p1 + 9) n1) = 0 → wX3_gather_24  Q (mu M 28 0 (0 : Int32)) p1 a2 (0 : Int32)))
section
variable {p : Program} {l : Launch} {e : Env} {s : State} {m : MethodId} {args : Array Value} {below : List Frame} {meth : Method} {c : Code} {Y : sy_Y}
set_option maxHeartbeats 4000000 in
set_option maxRecDepth 100000 in
theorem kX3_gather_116 (C : sy_C p m c cX3_gather 8 s args vsX3_gather RX3 meth none Y NX tfX) {Q : sy_M → Prop} {K_50 : sy_M → Nat → Int32 → Int32 → Int32 → Prop} (hK_50 : ∀ (M : sy_M) (x1 : Nat) (x2 : Int32) (x5 : Int32) (x6 : Int32) (hx1 : iX10 x1) (H : Heap) (locs : List Loc) (ls : Array Slot), K_50 M x1 x2 x5 x6 → sy_H Y NX EX s H locs M → lv_has ls 8 [(0, .ref (Y.2.1 28)), (1, .ref (Y.2.1 x1)), (2, .int x2), (3, .ref (Y.2.1 9)), (5, .int x5), (6, .int x6)] → W p l e ({ frames := 4, cells := 0, slots := 0, locals := 93 } : Room) s m args below meth c H locs 0 0 (sy_ZV below args s Y NX EX Q) (F0 m 50 ls [])) :
    ∀ (M : sy_M) (x1 : Nat) (x2 : Int32) (x5 : Int32) (x6 : Int32) (x7 : Int32) (hx1 : iX10 x1) (H : Heap) (locs : List Loc) (ls : Array Slot), wX3_gather_116 K_50 Q M x1 x2 x5 x6 x7 → sy_H Y NX EX s H locs M → lv_has ls 8 [(0, .ref (Y.2.1 28)), (1, .ref (Y.2.1 x1)), (2, .int x2), (3, .ref (Y.2.1 9)), (5, .int x5), (6, .int x6), (7, .int x7)] → W p l e ({ frames := 4, cells := 0, slots := 0, locals := 93 } : Room) s m args below meth c H locs 0 0 (sy_ZV below args s Y NX EX Q) (F0 m 116 ls []) := by
  have hx := C.1.1
  have hb := C.1.2.1
  intro M x1 x2 x5 x6 x7 hx1 H locs ls hq hh hl
  unfold wX3_gather_116 at hq
  refine lv_aload_n hx hb dX3_gather_116 rfl (lv_at hl 0 rfl) ?_
  refine lv_iload hx hb dX3_gather_117 (lv_at hl 5 rfl) ?_
  refine lv_iload hx hb dX3_gather_119 (lv_at hl 6 rfl) ?_
  refine lv_aload_n hx hb dX3_gather_121 rfl (lv_at hl 1 rfl) ?_
  refine sy_get C hh (fun w h => mc (uX_fX10 w h)) x1 (iX10_N hx1) (oX10 hx1) rfl 8 (by decide) (index := 71) (mc uX_166) (v := .ref (Y.2.1 (x1 + 7))) rfl dX3_gather_122 ?_
  refine lv_iload_n hx hb dX3_gather_125 rfl (lv_at hl 2 rfl) ?_
  obtain ⟨n13, hn13, en13, hq⟩ := hq
  refine sy_zald C hh (x1 + 7) (iX10_N7 hx1) (aX10_7 hx1) (tX10_7 hx1) hn13 en13 (by decide) dX3_gather_126 ?_
  refine sy_cVV C hh (As := [.int x6, .int x7, .int (M (x1 + 7) n13)]) (rest := []) 28 (by decide) (oX_28 Y) rfl (mX3_add l Y _ M x6 x7 (M (x1 + 7) n13) _ hq) (cwV 3 C.1.2.2.2.2 (sy_goodV uX_good uX_169 uX_170 uX_171 uX_70 uX_159 _) rfl rfl rfl hdX3_add ⟨Nat.le_of_ble_eq_true rfl, Nat.le_of_ble_eq_true rfl⟩) rfl hl.1 rfl (Nat.le_of_ble_eq_true rfl) dX3_gather_127 (fun M14 H locs hq hh => ?_)
  refine lv_iinc (v := (x6 + (1 : Int32))) (lv' := [(6, .int (x6 + (1 : Int32))), (0, .ref (Y.2.1 28)), (1, .ref (Y.2.1 x1)), (2, .int x2), (3, .ref (Y.2.1 9)), (5, .int x5), (7, .int x7)]) hx hb dX3_gather_130 hl (k := 5) rfl (sy_inc (by decide)) (by decide) rfl (fun ls hl => ?_)
  refine lv_goto (tgt := 50) hx hb dX3_gather_133 (by decide) ?_
  exact hK_50 M14 x1 x2 x5 (x6 + (1 : Int32)) hx1 _ _ _ hq hh (lv_sub hl [1, 2, 3, 4, 5, 0] rfl)

set_option maxHeartbeats 4000000 in
set_option maxRecDepth 100000 in
theorem kX3_gather_50 (C : sy_C p m c cX3_gather 8 s args vsX3_gather RX3 meth none Y NX tfX) {Q : sy_M → Prop} {K_136 : sy_M → Int32 → Int32 → Prop} (hK_136 : ∀ (M : sy_M) (x2 : Int32) (x5 : Int32) (H : Heap) (locs : List Loc) (ls : Array Slot), K_136 M x2 x5 → sy_H Y NX EX s H locs M → lv_has ls 8 [(0, .ref (Y.2.1 28)), (2, .int x2), (3, .ref (Y.2.1 9)), (5, .int x5)] → W p l e ({ frames := 4, cells := 0, slots := 0, locals := 93 } : Room) s m args below meth c H locs 0 0 (sy_ZV below args s Y NX EX Q) (F0 m 136 ls [])) :
    ∀ (n : Nat) (M : sy_M) (x1 : Nat) (x2 : Int32) (x5 : Int32) (x6 : Int32) (hx1 : iX10 x1) (H : Heap) (locs : List Loc) (ls : Array Slot), wX3_gather_50 K_136 Q n M x1 x2 x5 x6 → sy_H Y NX EX s H locs M → lv_has ls 8 [(0, .ref (Y.2.1 28)), (1, .ref (Y.2.1 x1)), (2, .int x2), (3, .ref (Y.2.1 9)), (5, .int x5), (6, .int x6)] → W p l e ({ frames := 4, cells := 0, slots := 0, locals := 93 } : Room) s m args below meth c H locs 0 0 (sy_ZV below args s Y NX EX Q) (F0 m 50 ls []) := by
  have hx := C.1.1
  have hb := C.1.2.1
  intro n
  induction n with
  | zero =>
    intro M x1 x2 x5 x6 hx1 H locs ls hq hh hl
    unfold wX3_gather_50 at hq
    exact hq.elim
  | succ n ih =>
    intro M x1 x2 x5 x6 hx1 H locs ls hq hh hl
    unfold wX3_gather_50 at hq
    refine lv_iload hx hb dX3_gather_50 (lv_at hl 5 rfl) ?_
    refine lv_aload_n hx hb dX3_gather_52 rfl (lv_at hl 1 rfl) ?_
    refine sy_get C hh (fun w h => mc (uX_fX10 w h)) x1 (iX10_N hx1) (oX10 hx1) rfl 0 (by decide) (index := 50) (mc uX_155) (v := .int (M x1 0)) rfl dX3_gather_53 ?_
    refine lv_icmp_ge (tgt := 136) hx hb dX3_gather_56 (by decide) (fun c6 => ?_) (fun c6 => ?_)
    · have hq := hq.1 c6
      exact hK_136 M x2 x5 _ _ _ hq hh (lv_sub hl [0, 2, 3, 4] rfl)
    · have hq := hq.2 c6
      refine lv_aload_n hx hb dX3_gather_59 rfl (lv_at hl 1 rfl) ?_
      refine sy_get C hh (fun w h => mc (uX_fX10 w h)) x1 (iX10_N hx1) (oX10 hx1) rfl 2 (by decide) (index := 52) (mc uX_144) (v := .ref (Y.2.1 (x1 + 1))) rfl dX3_gather_60 ?_
      refine lv_iload hx hb dX3_gather_63 (lv_at hl 5 rfl) ?_
      obtain ⟨n7, hn7, en7, hq⟩ := hq
      refine sy_iald C hh (x1 + 1) (iX10_N1 hx1) (aX10_1 hx1) (tX10_1 hx1) hn7 en7 (by decide) dX3_gather_65 ?_
      refine lv_iload_n hx hb dX3_gather_66 rfl (lv_at hl 2 rfl) ?_
      refine lv_icmp_eq (tgt := 73) hx hb dX3_gather_67 (by decide) (fun c8 => ?_) (fun c8 => ?_)
      · have hq := hq.1 c8
        refine lv_aload_n hx hb dX3_gather_73 rfl (lv_at hl 3 rfl) ?_
        refine sy_get C hh (fun w h => mc (uX_fX2 w h)) 9 (by decide) (oX_9 Y) rfl 2 (by decide) (index := 55) (mc uX_145) (v := .ref (Y.2.1 11)) rfl dX3_gather_74 ?_
        refine sy_get C hh (fun w h => mc (uX_fX7 w h)) 11 (by decide) (oX_11 Y) rfl 4 (by decide) (index := 60) (mc uX_146) (v := .ref (Y.2.1 16)) rfl dX3_gather_77 ?_
        refine lv_aload_n hx hb dX3_gather_80 rfl (lv_at hl 3 rfl) ?_
        refine lv_iload hx hb dX3_gather_81 (lv_at hl 5 rfl) ?_
        refine sy_cIV C hh (As := [.int x6]) (rest := [.ref (Y.2.1 16)]) 9 (by decide) (oX_9 Y) rfl (mX2_latestCell l Y _ M x6 _ hq) (cwV 1 C.1.2.2.2.2 (sy_goodV uX_good uX_153 uX_118 uX_119 uX_114 uX_110 _) rfl rfl rfl hdX2_latestCell ⟨Nat.le_of_ble_eq_true rfl, Nat.le_of_ble_eq_true rfl⟩) rfl hl.1 rfl (Nat.le_of_ble_eq_true rfl) dX3_gather_83 (fun r10 M9 H locs hq hh => ?_)
        obtain ⟨n11, hn11, en11, hq⟩ := hq
        refine sy_iald C hh 16 (by decide) (aX_16 Y) tX_16 hn11 en11 (by decide) dX3_gather_86 ?_
        refine lv_istore (lv' := [(7, .int (M9 16 n11)), (0, .ref (Y.2.1 28)), (1, .ref (Y.2.1 x1)), (2, .int x2), (3, .ref (Y.2.1 9)), (5, .int x5), (6, .int x6)]) hx hb dX3_gather_87 hl (by decide) rfl (fun ls hl => ?_)
        refine lv_aload_n hx hb dX3_gather_89 rfl (lv_at hl 1 rfl) ?_
        refine sy_get C hh (fun w h => mc (uX_fX3 w h)) 28 (by decide) (oX_28 Y) rfl 1 (by decide) (index := 15) (mc uX_136) (v := .int (M9 28 1)) rfl dX3_gather_90 ?_
        refine lv_if_le (tgt := 116) hx hb dX3_gather_93 (by decide) (fun c12 => ?_) (fun c12 => ?_)
        · have hq := hq.1 c12
          refine kX3_gather_116 C (fun M15 x1_16 x2_17 x5_18 x6_19 hx1_16 H locs ls hq hh hl => ?_) M9 x1 x2 x5 x6 (M9 16 n11) hx1 _ _ _ hq hh (lv_sub hl [1, 2, 3, 4, 5, 6, 0] rfl)
          · exact ih M15 x1_16 x2_17 x5_18 x6_19 hx1_16 _ _ _ hq hh (lv_sub hl [0, 1, 2, 3, 4, 5] rfl)
        · have hq := hq.2 c12
          refine lv_aload_n hx hb dX3_gather_96 rfl (lv_at hl 2 rfl) ?_
          refine lv_iload hx hb dX3_gather_97 (lv_at hl 6 rfl) ?_
          refine lv_aload_n hx hb dX3_gather_99 rfl (lv_at hl 4 rfl) ?_
          refine sy_cIS C hh (As := [.ref (Y.2.1 x1), .int x6, .ref (Y.2.1 9)]) (rest := []) (mX3_isSmall l Y _ M9 x1 hx1 x6 _ hq) (va_cwS 3 C.1.2.2.2.2 (sy_goodS uX_good uX_156 uX_157 uX_70 uX_154 _) rfl rfl rfl hdX3_isSmall.2 ⟨Nat.le_of_ble_eq_true rfl, Nat.le_of_ble_eq_true rfl⟩) rfl hl.1 rfl (Nat.le_of_ble_eq_true rfl) dX3_gather_100 (fun r21 M20 H locs hq hh => ?_)
          refine lv_if_eq (tgt := 116) hx hb dX3_gather_103 (by decide) (fun c22 => ?_) (fun c22 => ?_)
          · have hq := hq.1 c22
            refine kX3_gather_116 C (fun M23 x1_24 x2_25 x5_26 x6_27 hx1_24 H locs ls hq hh hl => ?_) M20 x1 x2 x5 x6 (M9 16 n11) hx1 _ _ _ hq hh (lv_sub hl [1, 2, 3, 4, 5, 6, 0] rfl)
            · exact ih M23 x1_24 x2_25 x5_26 x6_27 hx1_24 _ _ _ hq hh (lv_sub hl [0, 1, 2, 3, 4, 5] rfl)
          · have hq := hq.2 c22
            refine lv_iload hx hb dX3_gather_106 (lv_at hl 5 rfl) ?_
            refine lv_iload hx hb dX3_gather_108 (lv_at hl 0 rfl) ?_
            refine lv_iadd hx hb dX3_gather_110 ?_
            refine lv_istore (lv' := [(5, .int (x5 + (M9 16 n11))), (7, .int (M9 16 n11)), (0, .ref (Y.2.1 28)), (1, .ref (Y.2.1 x1)), (2, .int x2), (3, .ref (Y.2.1 9)), (6, .int x6)]) hx hb dX3_gather_111 hl (by decide) rfl (fun ls hl => ?_)
            refine lv_goto (tgt := 130) hx hb dX3_gather_113 (by decide) ?_
            refine lv_iinc (v := (x6 + (1 : Int32))) (lv' := [(6, .int (x6 + (1 : Int32))), (5, .int (x5 + (M9 16 n11))), (7, .int (M9 16 n11)), (0, .ref (Y.2.1 28)), (1, .ref (Y.2.1 x1)), (2, .int x2), (3, .ref (Y.2.1 9))]) hx hb dX3_gather_130 hl (k := 6) rfl (sy_inc (by decide)) (by decide) rfl (fun ls hl => ?_)
            refine lv_goto (tgt := 50) hx hb dX3_gather_133 (by decide) ?_
            exact ih M20 x1 x2 (x5 + (M9 16 n11)) (x6 + (1 : Int32)) hx1 _ _ _ hq hh (lv_sub hl [3, 4, 5, 6, 1, 0] rfl)
      · have hq := hq.2 c8
        refine lv_goto (tgt := 130) hx hb dX3_gather_70 (by decide) ?_
        refine lv_iinc (v := (x6 + (1 : Int32))) (lv' := [(6, .int (x6 + (1 : Int32))), (0, .ref (Y.2.1 28)), (1, .ref (Y.2.1 x1)), (2, .int x2), (3, .ref (Y.2.1 9)), (5, .int x5)]) hx hb dX3_gather_130 hl (k := 5) rfl (sy_inc (by decide)) (by decide) rfl (fun ls hl => ?_)
        refine lv_goto (tgt := 50) hx hb dX3_gather_133 (by decide) ?_
        exact ih M x1 x2 x5 (x6 + (1 : Int32)) hx1 _ _ _ hq hh (lv_sub hl [1, 2, 3, 4, 5, 0] rfl)

set_option maxHeartbeats 4000000 in
set_option maxRecDepth 100000 in
theorem kX3_gather_154 (C : sy_C p m c cX3_gather 8 s args vsX3_gather RX3 meth none Y NX tfX) {Q : sy_M → Prop} {K_193 : sy_M → Int32 → Prop} (hK_193 : ∀ (M : sy_M) (x2 : Int32) (H : Heap) (locs : List Loc) (ls : Array Slot), K_193 M x2 → sy_H Y NX EX s H locs M → lv_has ls 8 [(0, .ref (Y.2.1 28)), (2, .int x2), (3, .ref (Y.2.1 9))] → W p l e ({ frames := 4, cells := 0, slots := 0, locals := 93 } : Room) s m args below meth c H locs 0 0 (sy_ZV below args s Y NX EX Q) (F0 m 193 ls [])) :
    ∀ (n : Nat) (M : sy_M) (x2 : Int32) (x6 : Int32) (H : Heap) (locs : List Loc) (ls : Array Slot), wX3_gather_154 K_193 Q n M x2 x6 → sy_H Y NX EX s H locs M → lv_has ls 8 [(0, .ref (Y.2.1 28)), (2, .int x2), (3, .ref (Y.2.1 9)), (6, .int x6)] → W p l e ({ frames := 4, cells := 0, slots := 0, locals := 93 } : Room) s m args below meth c H locs 0 0 (sy_ZV below args s Y NX EX Q) (F0 m 154 ls []) := by
  have hx := C.1.1
  have hb := C.1.2.1
  intro n
  induction n with
  | zero =>
    intro M x2 x6 H locs ls hq hh hl
    unfold wX3_gather_154 at hq
    exact hq.elim
  | succ n ih =>
    intro M x2 x6 H locs ls hq hh hl
    unfold wX3_gather_154 at hq
    refine lv_iload hx hb dX3_gather_154 (lv_at hl 3 rfl) ?_
    refine lv_aload_n hx hb dX3_gather_156 rfl (lv_at hl 0 rfl) ?_
    refine sy_get C hh (fun w h => mc (uX_fX3 w h)) 28 (by decide) (oX_28 Y) rfl 0 (by decide) (index := 9) (mc uX_135) (v := .int (M 28 0)) rfl dX3_gather_157 ?_
    refine lv_icmp_ge (tgt := 193) hx hb dX3_gather_160 (by decide) (fun c32 => ?_) (fun c32 => ?_)
    · have hq := hq.1 c32
      exact hK_193 M x2 _ _ _ hq hh (lv_sub hl [0, 1, 2] rfl)
    · have hq := hq.2 c32
      refine lv_aload_n hx hb dX3_gather_163 rfl (lv_at hl 0 rfl) ?_
      refine sy_get C hh (fun w h => mc (uX_fX3 w h)) 28 (by decide) (oX_28 Y) rfl 8 (by decide) (index := 37) (mc uX_60) (v := .ref (Y.2.1 31)) rfl dX3_gather_164 ?_
      refine lv_iload hx hb dX3_gather_167 (lv_at hl 3 rfl) ?_
      refine lv_iconst (v := (1 : Int32)) hx hb dX3_gather_169 (by decide) ?_
      refine lv_iadd hx hb dX3_gather_170 ?_
      refine lv_aload_n hx hb dX3_gather_171 rfl (lv_at hl 0 rfl) ?_
      refine sy_get C hh (fun w h => mc (uX_fX3 w h)) 28 (by decide) (oX_28 Y) rfl 8 (by decide) (index := 37) (mc uX_60) (v := .ref (Y.2.1 31)) rfl dX3_gather_172 ?_
      refine lv_iload hx hb dX3_gather_175 (lv_at hl 3 rfl) ?_
      obtain ⟨n33, hn33, en33, hq⟩ := hq
      refine sy_iald C hh 31 (by decide) (aX_31 Y) tX_31 hn33 en33 (by decide) dX3_gather_177 ?_
      refine lv_aload_n hx hb dX3_gather_178 rfl (lv_at hl 0 rfl) ?_
      refine sy_get C hh (fun w h => mc (uX_fX3 w h)) 28 (by decide) (oX_28 Y) rfl 3 (by decide) (index := 22) (mc uX_138) (v := .ref (Y.2.1 30)) rfl dX3_gather_179 ?_
      refine lv_iload hx hb dX3_gather_182 (lv_at hl 3 rfl) ?_
      obtain ⟨b34, hq⟩ := hq
      refine sy_iald C hh 30 (by decide) (aX_30 Y) tX_30 b34 en33 (by decide) dX3_gather_184 ?_
      refine lv_iadd hx hb dX3_gather_185 ?_
      obtain ⟨n35, hn35, en35, hq⟩ := hq
      refine sy_iast C hh 31 (by decide) (aX_31 Y) tX_31 hn35 en35 (by decide) dX3_gather_186 (fun H locs hh => ?_)
      refine lv_iinc (v := (x6 + (1 : Int32))) (lv' := [(6, .int (x6 + (1 : Int32))), (0, .ref (Y.2.1 28)), (2, .int x2), (3, .ref (Y.2.1 9))]) hx hb dX3_gather_187 hl (k := 3) rfl (sy_inc (by decide)) (by decide) rfl (fun ls hl => ?_)
      refine lv_goto (tgt := 154) hx hb dX3_gather_190 (by decide) ?_
      exact ih (mu M 31 n35 ((M 31 n33) + (M 30 n33))) x2 (x6 + (1 : Int32)) _ _ _ hq hh (lv_sub hl [1, 2, 3, 0] rfl)

set_option maxHeartbeats 4000000 in
set_option maxRecDepth 100000 in
theorem kX3_gather_39 (C : sy_C p m c cX3_gather 8 s args vsX3_gather RX3 meth none Y NX tfX) {Q : sy_M → Prop} :
    ∀ (M : sy_M) (x1 : Nat) (x2 : Int32) (s1 : Int32) (hx1 : iX10 x1) (H : Heap) (locs : List Loc) (ls : Array Slot), wX3_gather_39 Q M x1 x2 s1 → sy_H Y NX EX s H locs M → lv_has ls 8 [(0, .ref (Y.2.1 28)), (1, .ref (Y.2.1 x1)), (2, .int x2), (3, .ref (Y.2.1 9))] → W p l e ({ frames := 4, cells := 0, slots := 0, locals := 93 } : Room) s m args below meth c H locs 0 0 (sy_ZV below args s Y NX EX Q) (F0 m 39 ls [.int s1, .ref (Y.2.1 28)]) := by
  have hx := C.1.1
  have hb := C.1.2.1
  intro M x1 x2 s1 hx1 H locs ls hq hh hl
  unfold wX3_gather_39 at hq
  refine sy_put C hh (fun w h => mc (uX_fX3 w h)) tyX3 tyX3_ok nmX3 28 (by decide) (oX_28 Y) rfl 1 (by decide) (index := 15) (mc uX_136) rfl 1 s1 (ty := .int) (tyX3_ok 1 (by decide)) rfl rfl (Nat.le_of_ble_eq_true rfl) (pX3_1 Y _ _ _) dX3_gather_39 (fun H locs hh => ?_)
  refine lv_iconst (v := (0 : Int32)) hx hb dX3_gather_42 (by decide) ?_
  refine lv_istore (lv' := [(5, .int (0 : Int32)), (0, .ref (Y.2.1 28)), (1, .ref (Y.2.1 x1)), (2, .int x2), (3, .ref (Y.2.1 9))]) hx hb dX3_gather_43 hl (by decide) rfl (fun ls hl => ?_)
  refine lv_iload_n hx hb dX3_gather_45 rfl (lv_at hl 3 rfl) ?_
  refine lv_iconst (v := (1 : Int32)) hx hb dX3_gather_46 (by decide) ?_
  refine lv_iadd hx hb dX3_gather_47 ?_
  refine lv_istore (lv' := [(6, .int (x2 + (1 : Int32))), (5, .int (0 : Int32)), (0, .ref (Y.2.1 28)), (1, .ref (Y.2.1 x1)), (2, .int x2), (3, .ref (Y.2.1 9))]) hx hb dX3_gather_48 hl (by decide) rfl (fun ls hl => ?_)
  obtain ⟨n49, hq⟩ := hq
  refine kX3_gather_50 C (fun M28 x2_29 x5_30 H locs ls hq hh hl => ?_) n49 (mu M 28 1 s1) x1 x2 (0 : Int32) (x2 + (1 : Int32)) hx1 _ _ _ hq hh (lv_sub hl [2, 3, 4, 5, 1, 0] rfl)
  · refine lv_aload_n hx hb dX3_gather_136 rfl (lv_at hl 0 rfl) ?_
    refine sy_get C hh (fun w h => mc (uX_fX3 w h)) 28 (by decide) (oX_28 Y) rfl 1 (by decide) (index := 15) (mc uX_136) (v := .int (M28 28 1)) rfl dX3_gather_137 ?_
    refine lv_if_le (tgt := 151) hx hb dX3_gather_140 (by decide) (fun c31 => ?_) (fun c31 => ?_)
    · have hq := hq.1 c31
      refine lv_iconst (v := (0 : Int32)) hx hb dX3_gather_151 (by decide) ?_
      refine lv_istore (lv' := [(6, .int (0 : Int32)), (0, .ref (Y.2.1 28)), (2, .int x2_29), (3, .ref (Y.2.1 9)), (5, .int x5_30)]) hx hb dX3_gather_152 hl (by decide) rfl (fun ls hl => ?_)
      obtain ⟨n41, hq⟩ := hq
      refine kX3_gather_154 C (fun M36 x2_37 H locs ls hq hh hl => ?_) n41 M28 x2_29 (0 : Int32) _ _ _ hq hh (lv_sub hl [1, 2, 3, 0] rfl)
      · refine lv_aload_n hx hb dX3_gather_193 rfl (lv_at hl 0 rfl) ?_
        refine lv_aload_n hx hb dX3_gather_194 rfl (lv_at hl 2 rfl) ?_
        refine lv_aload_n hx hb dX3_gather_195 rfl (lv_at hl 2 rfl) ?_
        refine lv_iload_n hx hb dX3_gather_196 rfl (lv_at hl 1 rfl) ?_
        refine sy_cIV C hh (As := [.int x2_37]) (rest := [.ref (Y.2.1 9), .ref (Y.2.1 28)]) 9 (by decide) (oX_9 Y) rfl (mX2_latestCell l Y _ M36 x2_37 _ hq) (cwV 1 C.1.2.2.2.2 (sy_goodV uX_good uX_153 uX_118 uX_119 uX_114 uX_110 _) rfl rfl rfl hdX2_latestCell ⟨Nat.le_of_ble_eq_true rfl, Nat.le_of_ble_eq_true rfl⟩) rfl hl.1 rfl (Nat.le_of_ble_eq_true rfl) dX3_gather_197 (fun r39 M38 H locs hq hh => ?_)
        refine sy_cVV C hh (As := [.ref (Y.2.1 9), .int r39]) (rest := []) 28 (by decide) (oX_28 Y) rfl (mX3_setFrame l Y _ M38 r39 _ hq) (cwV 2 C.1.2.2.2.2 (sy_goodV uX_good uX_172 uX_173 uX_174 uX_70 uX_160 _) rfl rfl rfl hdX3_setFrame ⟨Nat.le_of_ble_eq_true rfl, Nat.le_of_ble_eq_true rfl⟩) rfl hl.1 rfl (Nat.le_of_ble_eq_true rfl) dX3_gather_200 (fun M40 H locs hq hh => ?_)
        exact sy_vret C hh dX3_gather_203 hq
    · have hq := hq.2 c31
      refine lv_aload_n hx hb dX3_gather_143 rfl (lv_at hl 0 rfl) ?_
      refine lv_iconst (v := (-1 : Int32)) hx hb dX3_gather_144 (by decide) ?_
      refine lv_iload hx hb dX3_gather_145 (lv_at hl 3 rfl) ?_
      refine lv_iconst (v := (0 : Int32)) hx hb dX3_gather_147 (by decide) ?_
      refine sy_cVV C hh (As := [.int (-1 : Int32), .int x5_30, .int (0 : Int32)]) (rest := []) 28 (by decide) (oX_28 Y) rfl (mX3_add l Y _ M28 (-1 : Int32) x5_30 (0 : Int32) _ hq) (cwV 3 C.1.2.2.2.2 (sy_goodV uX_good uX_169 uX_170 uX_171 uX_70 uX_159 _) rfl rfl rfl hdX3_add ⟨Nat.le_of_ble_eq_true rfl, Nat.le_of_ble_eq_true rfl⟩) rfl hl.1 rfl (Nat.le_of_ble_eq_true rfl) dX3_gather_148 (fun M42 H locs hq hh => ?_)
      refine lv_iconst (v := (0 : Int32)) hx hb dX3_gather_151 (by decide) ?_
      refine lv_istore (lv' := [(6, .int (0 : Int32)), (0, .ref (Y.2.1 28)), (2, .int x2_29), (3, .ref (Y.2.1 9)), (5, .int x5_30)]) hx hb dX3_gather_152 hl (by decide) rfl (fun ls hl => ?_)
      obtain ⟨n48, hq⟩ := hq
      refine kX3_gather_154 C (fun M43 x2_44 H locs ls hq hh hl => ?_) n48 M42 x2_29 (0 : Int32) _ _ _ hq hh (lv_sub hl [1, 2, 3, 0] rfl)
      · refine lv_aload_n hx hb dX3_gather_193 rfl (lv_at hl 0 rfl) ?_
        refine lv_aload_n hx hb dX3_gather_194 rfl (lv_at hl 2 rfl) ?_
        refine lv_aload_n hx hb dX3_gather_195 rfl (lv_at hl 2 rfl) ?_
        refine lv_iload_n hx hb dX3_gather_196 rfl (lv_at hl 1 rfl) ?_
        refine sy_cIV C hh (As := [.int x2_44]) (rest := [.ref (Y.2.1 9), .ref (Y.2.1 28)]) 9 (by decide) (oX_9 Y) rfl (mX2_latestCell l Y _ M43 x2_44 _ hq) (cwV 1 C.1.2.2.2.2 (sy_goodV uX_good uX_153 uX_118 uX_119 uX_114 uX_110 _) rfl rfl rfl hdX2_latestCell ⟨Nat.le_of_ble_eq_true rfl, Nat.le_of_ble_eq_true rfl⟩) rfl hl.1 rfl (Nat.le_of_ble_eq_true rfl) dX3_gather_197 (fun r46 M45 H locs hq hh => ?_)
        refine sy_cVV C hh (As := [.ref (Y.2.1 9), .int r46]) (rest := []) 28 (by decide) (oX_28 Y) rfl (mX3_setFrame l Y _ M45 r46 _ hq) (cwV 2 C.1.2.2.2.2 (sy_goodV uX_good uX_172 uX_173 uX_174 uX_70 uX_160 _) rfl rfl rfl hdX3_setFrame ⟨Nat.le_of_ble_eq_true rfl, Nat.le_of_ble_eq_true rfl⟩) rfl hl.1 rfl (Nat.le_of_ble_eq_true rfl) dX3_gather_200 (fun M47 H locs hq hh => ?_)
        exact sy_vret C hh dX3_gather_203 hq

set_option maxHeartbeats 4000000 in
set_option maxRecDepth 100000 in
theorem kX3_gather_24 (C : sy_C p m c cX3_gather 8 s args vsX3_gather RX3 meth none Y NX tfX) {Q : sy_M → Prop} :
    ∀ (M : sy_M) (x1 : Nat) (x2 : Int32) (s0 : Int32) (hx1 : iX10 x1) (H : Heap) (locs : List Loc) (ls : Array Slot), wX3_gather_24 Q M x1 x2 s0 → sy_H Y NX EX s H locs M → lv_has ls 8 [(0, .ref (Y.2.1 28)), (1, .ref (Y.2.1 x1)), (2, .int x2), (3, .ref (Y.2.1 9))] → W p l e ({ frames := 4, cells := 0, slots := 0, locals := 93 } : Room) s m args below meth c H locs 0 0 (sy_ZV below args s Y NX EX Q) (F0 m 24 ls [.int s0]) := by
  have hx := C.1.1
  have hb := C.1.2.1
  intro M x1 x2 s0 hx1 H locs ls hq hh hl
  unfold wX3_gather_24 at hq
  refine lv_istore (lv' := [(4, .int s0), (0, .ref (Y.2.1 28)), (1, .ref (Y.2.1 x1)), (2, .int x2), (3, .ref (Y.2.1 9))]) hx hb dX3_gather_24 hl (by decide) rfl (fun ls hl => ?_)
  refine lv_aload_n hx hb dX3_gather_26 rfl (lv_at hl 1 rfl) ?_
  refine lv_iload hx hb dX3_gather_27 (lv_at hl 0 rfl) ?_
  refine lv_iconst (v := (nI 2)) hx hb dX3_gather_29 (by decide) ?_
  refine lv_icmp_lt (tgt := 38) hx hb dX3_gather_30 (by decide) (fun c5 => ?_) (fun c5 => ?_)
  · have hq := hq.1 c5
    refine lv_iconst (v := (0 : Int32)) hx hb dX3_gather_38 (by decide) ?_
    refine kX3_gather_39 C  M x1 x2 (0 : Int32) hx1 _ _ _ hq hh (lv_sub hl [1, 2, 3, 4] rfl)
  · have hq := hq.2 c5
    refine lv_iload hx hb dX3_gather_33 (lv_at hl 0 rfl) ?_
    refine lv_goto (tgt := 39) hx hb dX3_gather_35 (by decide) ?_
    refine kX3_gather_39 C  M x1 x2 s0 hx1 _ _ _ hq hh (lv_sub hl [1, 2, 3, 4] rfl)

end
set_option maxHeartbeats 4000000 in
set_option maxRecDepth 100000 in
theorem mX3_gather (l : Launch) (Y : sy_Y) (sz : Nat) (M : sy_M) (p1 : Nat) (hp1 : iX10 p1) (a2 : Int32) (Q : sy_M → Prop) (hq : wX3_gather M p1 a2 Q) : Met l yX3_gather vsX3_gather ({ frames := 4, cells := 0, slots := 0, locals := 93 } : Room) (va_Pc [.ref (Y.2.1 28), .ref (Y.2.1 p1), .int a2, .ref (Y.2.1 9)] (sy_pre Y NX EX tfX sz M)) (sy_QV Y NX EX sz Q) 0 0 (sy_A NX Y.2.1 sz) := by
  refine sy_metV (by decide) rfl (Nat.le_of_ble_eq_true rfl) ?_
  intro p e s m args below meth c C ls hl hh
  have hx := C.1.1
  have hb := C.1.2.1
  have hl : lv_has ls 8 [(0, .ref (Y.2.1 28)), (1, .ref (Y.2.1 p1)), (2, .int a2), (3, .ref (Y.2.1 9))] := hl
  unfold wX3_gather at hq
  refine lv_aload_n hx hb dX3_gather_0 rfl (lv_at hl 0 rfl) ?_
  refine lv_iconst (v := (0 : Int32)) hx hb dX3_gather_1 (by decide) ?_
  refine sy_put C hh (fun w h => mc (uX_fX3 w h)) tyX3 tyX3_ok nmX3 28 (by decide) (oX_28 Y) rfl 0 (by decide) (index := 9) (mc uX_135) rfl 0 (0 : Int32) (ty := .int) (tyX3_ok 0 (by decide)) rfl rfl (Nat.le_of_ble_eq_true rfl) (pX3_0 Y _ _ _) dX3_gather_2 (fun H locs hh => ?_)
  refine lv_aload_n hx hb dX3_gather_5 rfl (lv_at hl 1 rfl) ?_
  refine sy_get C hh (fun w h => mc (uX_fX10 w h)) p1 (iX10_N hp1) (oX10 hp1) rfl 10 (by decide) (index := 40) (mc uX_165) (v := .ref (Y.2.1 (p1 + 9))) rfl dX3_gather_6 ?_
  refine lv_iload_n hx hb dX3_gather_9 rfl (lv_at hl 2 rfl) ?_
  obtain ⟨n1, hn1, en1, hq⟩ := hq
  refine sy_zald C hh (p1 + 9) (iX10_N9 hp1) (aX10_9 hp1) (tX10_9 hp1) hn1 en1 (by decide) dX3_gather_10 ?_
  refine lv_if_eq (tgt := 18) hx hb dX3_gather_11 (by decide) (fun c2 => ?_) (fun c2 => ?_)
  · have hq := hq.1 c2
    refine lv_aload_n hx hb dX3_gather_18 rfl (lv_at hl 1 rfl) ?_
    refine lv_iload_n hx hb dX3_gather_19 rfl (lv_at hl 2 rfl) ?_
    refine lv_aload_n hx hb dX3_gather_20 rfl (lv_at hl 3 rfl) ?_
    refine sy_cIS C hh (As := [.ref (Y.2.1 p1), .int a2, .ref (Y.2.1 9)]) (rest := []) (mX3_countSmall l Y _ (mu M 28 0 (0 : Int32)) p1 hp1 a2 _ hq) (va_cwS 3 C.1.2.2.2.2 (sy_goodS uX_good uX_167 uX_168 uX_70 uX_158 _) rfl rfl rfl hdX3_countSmall.2 ⟨Nat.le_of_ble_eq_true rfl, Nat.le_of_ble_eq_true rfl⟩) rfl hl.1 rfl (Nat.le_of_ble_eq_true rfl) dX3_gather_21 (fun r4 M3 H locs hq hh => ?_)
    refine kX3_gather_24 C  M3 p1 a2 r4 hp1 _ _ _ hq hh (lv_sub hl [0, 1, 2, 3] rfl)
  · have hq := hq.2 c2
    refine lv_iconst (v := (0 : Int32)) hx hb dX3_gather_14 (by decide) ?_
    refine lv_goto (tgt := 24) hx hb dX3_gather_15 (by decide) ?_
    refine kX3_gather_24 C  (mu M 28 0 (0 : Int32)) p1 a2 (0 : Int32) hp1 _ _ _ hq hh (lv_sub hl [0, 1, 2, 3] rfl)

