/-! AreaSetter$RowBreaker.findLeast(I)V -/
def wX8_findLeast_27 (K_73 : sy_M → Int32 → Int32 → Prop) (Q : sy_M → Prop) : Nat → sy_M → Int32 → Int32 → Int32 → Prop
  | 0, _, _, _, _ => False
  | n + 1, M, x1, x2, x3 => ((x1 < x3 → K_73 M x1 x2) ∧ (¬ x1 < x3 → ∃ n5 : Nat, n5 < 9 ∧ x2 = nI n5 ∧ ∃ n6 : Nat, n6 < 72 ∧ ((x2 * (nI 9)) + x3) = nI n6 ∧ ∃ n7 : Nat, n7 < 9 ∧ x3 = nI n7 ∧ wX8_findLeast_27 K_73 Q n (mu M 56 n5 (imin (M 56 n5) (imax (M 55 n6) (M 56 n7)))) x1 x2 (x3 + (1 : Int32))))
def wX8_findLeast_11 (Q : sy_M → Prop) : Nat → sy_M → Int32 → Int32 → Prop
  | 0, _, _, _ => False
  | n + 1, M, x1, x2 => ((x2 < 0 → Q M) ∧ (¬ x2 < 0 → ∃ n3 : Nat, n3 < 9 ∧ x2 = nI n3 ∧ ∃ n11 : Nat, wX8_findLeast_27 (fun (M8 : sy_M) (x1_9 : Int32) (x2_10 : Int32) => wX8_findLeast_11 Q n M8 x1_9 (x2_10 + (-1 : Int32))) Q n11 (mu M 56 n3 (nI 2147483647)) x1 x2 (x2 + (1 : Int32))))
def wX8_findLeast (M : sy_M) (a1 : Int32) (Q : sy_M → Prop) : Prop := ∃ n1 : Nat, n1 < 9 ∧ a1 = nI n1 ∧ ∃ n12 : Nat, wX8_findLeast_11  Q n12 (mu M 56 n1 (0 : Int32)) a1 (a1 - (1 : Int32))
section
variable {p : Program} {l : Launch} {e : Env} {s : State} {m : MethodId} {args : Array Value} {below : List Frame} {meth : Method} {c : Code} {Y : sy_Y}
set_option maxHeartbeats 4000000 in
set_option maxRecDepth 100000 in
theorem kX8_findLeast_27 (C : sy_C p m c cX8_findLeast 4 s args vsX8_findLeast RX8 meth none Y NX tfX) {Q : sy_M → Prop} {K_73 : sy_M → Int32 → Int32 → Prop} (hK_73 : ∀ (M : sy_M) (x1 : Int32) (x2 : Int32) (H : Heap) (locs : List Loc) (ls : Array Slot), K_73 M x1 x2 → sy_H Y NX EX s H locs M → lv_has ls 4 [(0, .ref (Y.2.1 54)), (1, .int x1), (2, .int x2)] → W p l e ({ frames := 1, cells := 0, slots := 0, locals := 21 } : Room) s m args below meth c H locs 0 0 (sy_ZV below args s Y NX EX Q) (F0 m 73 ls [])) :
    ∀ (n : Nat) (M : sy_M) (x1 : Int32) (x2 : Int32) (x3 : Int32) (H : Heap) (locs : List Loc) (ls : Array Slot), wX8_findLeast_27 K_73 Q n M x1 x2 x3 → sy_H Y NX EX s H locs M → lv_has ls 4 [(0, .ref (Y.2.1 54)), (1, .int x1), (2, .int x2), (3, .int x3)] → W p l e ({ frames := 1, cells := 0, slots := 0, locals := 21 } : Room) s m args below meth c H locs 0 0 (sy_ZV below args s Y NX EX Q) (F0 m 27 ls []) := by
  have hx := C.1.1
  have hb := C.1.2.1
  intro n
  induction n with
  | zero =>
    intro M x1 x2 x3 H locs ls hq hh hl
    unfold wX8_findLeast_27 at hq
    exact hq.elim
  | succ n ih =>
    intro M x1 x2 x3 H locs ls hq hh hl
    unfold wX8_findLeast_27 at hq
    refine lv_iload_n hx hb dX8_findLeast_27 rfl (lv_at hl 3 rfl) ?_
    refine lv_iload_n hx hb dX8_findLeast_28 rfl (lv_at hl 1 rfl) ?_
    refine lv_icmp_gt (tgt := 73) hx hb dX8_findLeast_29 (by decide) (fun c4 => ?_) (fun c4 => ?_)
    · have hq := hq.1 c4
      exact hK_73 M x1 x2 _ _ _ hq hh (lv_sub hl [0, 1, 2] rfl)
    · have hq := hq.2 c4
      refine lv_aload_n hx hb dX8_findLeast_32 rfl (lv_at hl 0 rfl) ?_
      refine sy_get C hh (fun w h => mc (uX_fX8 w h)) 54 (by decide) (oX_54 Y) rfl 2 (by decide) (index := 22) (mc uX_182) (v := .ref (Y.2.1 56)) rfl dX8_findLeast_33 ?_
      refine lv_iload_n hx hb dX8_findLeast_36 rfl (lv_at hl 2 rfl) ?_
      refine lv_aload_n hx hb dX8_findLeast_37 rfl (lv_at hl 0 rfl) ?_
      refine sy_get C hh (fun w h => mc (uX_fX8 w h)) 54 (by decide) (oX_54 Y) rfl 2 (by decide) (index := 22) (mc uX_182) (v := .ref (Y.2.1 56)) rfl dX8_findLeast_38 ?_
      refine lv_iload_n hx hb dX8_findLeast_41 rfl (lv_at hl 2 rfl) ?_
      obtain ⟨n5, hn5, en5, hq⟩ := hq
      refine sy_iald C hh 56 (by decide) (aX_56 Y) tX_56 hn5 en5 (by decide) dX8_findLeast_42 ?_
      refine lv_aload_n hx hb dX8_findLeast_43 rfl (lv_at hl 0 rfl) ?_
      refine sy_get C hh (fun w h => mc (uX_fX8 w h)) 54 (by decide) (oX_54 Y) rfl 1 (by decide) (index := 18) (mc uX_181) (v := .ref (Y.2.1 55)) rfl dX8_findLeast_44 ?_
      refine lv_iload_n hx hb dX8_findLeast_47 rfl (lv_at hl 2 rfl) ?_
      refine lv_bipush (v := (nI 9)) hx hb dX8_findLeast_48 (by decide) ?_
      refine lv_imul hx hb dX8_findLeast_50 ?_
      refine lv_iload_n hx hb dX8_findLeast_51 rfl (lv_at hl 3 rfl) ?_
      refine lv_iadd hx hb dX8_findLeast_52 ?_
      obtain ⟨n6, hn6, en6, hq⟩ := hq
      refine sy_iald C hh 55 (by decide) (aX_55 Y) tX_55 hn6 en6 (by decide) dX8_findLeast_53 ?_
      refine lv_aload_n hx hb dX8_findLeast_54 rfl (lv_at hl 0 rfl) ?_
      refine sy_get C hh (fun w h => mc (uX_fX8 w h)) 54 (by decide) (oX_54 Y) rfl 2 (by decide) (index := 22) (mc uX_182) (v := .ref (Y.2.1 56)) rfl dX8_findLeast_55 ?_
      refine lv_iload_n hx hb dX8_findLeast_58 rfl (lv_at hl 3 rfl) ?_
      obtain ⟨n7, hn7, en7, hq⟩ := hq
      refine sy_iald C hh 56 (by decide) (aX_56 Y) tX_56 hn7 en7 (by decide) dX8_findLeast_59 ?_
      refine sy_mmax C hl (index := 72) (mc uX_216) (mc uX_24) (mc uX_25) (mc uX_26) (by decide) (Nat.le_of_ble_eq_true rfl) dX8_findLeast_60 ?_
      refine sy_mmin C hl (index := 80) (mc uX_222) (mc uX_65) (mc uX_25) (mc uX_66) (by decide) (Nat.le_of_ble_eq_true rfl) dX8_findLeast_63 ?_
      refine sy_iast C hh 56 (by decide) (aX_56 Y) tX_56 hn5 en5 (by decide) dX8_findLeast_66 (fun H locs hh => ?_)
      refine lv_iinc (v := (x3 + (1 : Int32))) (lv' := [(3, .int (x3 + (1 : Int32))), (0, .ref (Y.2.1 54)), (1, .int x1), (2, .int x2)]) hx hb dX8_findLeast_67 hl (k := 3) rfl (sy_inc (by decide)) (by decide) rfl (fun ls hl => ?_)
      refine lv_goto (tgt := 27) hx hb dX8_findLeast_70 (by decide) ?_
      exact ih (mu M 56 n5 (imin (M 56 n5) (imax (M 55 n6) (M 56 n7)))) x1 x2 (x3 + (1 : Int32)) _ _ _ hq hh (lv_sub hl [1, 2, 3, 0] rfl)

set_option maxHeartbeats 4000000 in
set_option maxRecDepth 100000 in
theorem kX8_findLeast_11 (C : sy_C p m c cX8_findLeast 4 s args vsX8_findLeast RX8 meth none Y NX tfX) {Q : sy_M → Prop} :
    ∀ (n : Nat) (M : sy_M) (x1 : Int32) (x2 : Int32) (H : Heap) (locs : List Loc) (ls : Array Slot), wX8_findLeast_11 Q n M x1 x2 → sy_H Y NX EX s H locs M → lv_has ls 4 [(0, .ref (Y.2.1 54)), (1, .int x1), (2, .int x2)] → W p l e ({ frames := 1, cells := 0, slots := 0, locals := 21 } : Room) s m args below meth c H locs 0 0 (sy_ZV below args s Y NX EX Q) (F0 m 11 ls []) := by
  have hx := C.1.1
  have hb := C.1.2.1
  intro n
  induction n with
  | zero =>
    intro M x1 x2 H locs ls hq hh hl
    unfold wX8_findLeast_11 at hq
    exact hq.elim
  | succ n ih =>
    intro M x1 x2 H locs ls hq hh hl
    unfold wX8_findLeast_11 at hq
    refine lv_iload_n hx hb dX8_findLeast_11 rfl (lv_at hl 2 rfl) ?_
    refine lv_if_lt (tgt := 79) hx hb dX8_findLeast_12 (by decide) (fun c2 => ?_) (fun c2 => ?_)
    · have hq := hq.1 c2
      exact sy_vret C hh dX8_findLeast_79 hq
    · have hq := hq.2 c2
      refine lv_aload_n hx hb dX8_findLeast_15 rfl (lv_at hl 0 rfl) ?_
      refine sy_get C hh (fun w h => mc (uX_fX8 w h)) 54 (by decide) (oX_54 Y) rfl 2 (by decide) (index := 22) (mc uX_182) (v := .ref (Y.2.1 56)) rfl dX8_findLeast_16 ?_
      refine lv_iload_n hx hb dX8_findLeast_19 rfl (lv_at hl 2 rfl) ?_
      refine lv_ldc (v := (nI 2147483647)) hx hb C.1.2.2.2.1 (C.1.2.2.2.2 (.constant RX8 79 (nI 2147483647)) (mc uX_221)) dX8_findLeast_20 ?_
      obtain ⟨n3, hn3, en3, hq⟩ := hq
      refine sy_iast C hh 56 (by decide) (aX_56 Y) tX_56 hn3 en3 (by decide) dX8_findLeast_22 (fun H locs hh => ?_)
      refine lv_iload_n hx hb dX8_findLeast_23 rfl (lv_at hl 2 rfl) ?_
      refine lv_iconst (v := (1 : Int32)) hx hb dX8_findLeast_24 (by decide) ?_
      refine lv_iadd hx hb dX8_findLeast_25 ?_
      refine lv_istore_n (lv' := [(3, .int (x2 + (1 : Int32))), (0, .ref (Y.2.1 54)), (1, .int x1), (2, .int x2)]) hx hb dX8_findLeast_26 rfl hl (by decide) rfl (fun ls hl => ?_)
      obtain ⟨n11, hq⟩ := hq
      refine kX8_findLeast_27 C (fun M8 x1_9 x2_10 H locs ls hq hh hl => ?_) n11 (mu M 56 n3 (nI 2147483647)) x1 x2 (x2 + (1 : Int32)) _ _ _ hq hh (lv_sub hl [1, 2, 3, 0] rfl)
      · refine lv_iinc (v := (x2_10 + (-1 : Int32))) (lv' := [(2, .int (x2_10 + (-1 : Int32))), (0, .ref (Y.2.1 54)), (1, .int x1_9)]) hx hb dX8_findLeast_73 hl (k := 2) rfl (sy_inc (by decide)) (by decide) rfl (fun ls hl => ?_)
        refine lv_goto (tgt := 11) hx hb dX8_findLeast_76 (by decide) ?_
        exact ih M8 x1_9 (x2_10 + (-1 : Int32)) _ _ _ hq hh (lv_sub hl [1, 2, 0] rfl)

end
set_option maxHeartbeats 4000000 in
set_option maxRecDepth 100000 in
theorem mX8_findLeast (l : Launch) (Y : sy_Y) (sz : Nat) (M : sy_M) (a1 : Int32) (Q : sy_M → Prop) (hq : wX8_findLeast M a1 Q) : Met l yX8_findLeast vsX8_findLeast ({ frames := 1, cells := 0, slots := 0, locals := 21 } : Room) (va_Pc [.ref (Y.2.1 54), .int a1] (sy_pre Y NX EX tfX sz M)) (sy_QV Y NX EX sz Q) 0 0 (sy_A NX Y.2.1 sz) := by
  refine sy_metV (by decide) rfl (Nat.le_of_ble_eq_true rfl) ?_
  intro p e s m args below meth c C ls hl hh
  have hx := C.1.1
  have hb := C.1.2.1
  have hl : lv_has ls 4 [(0, .ref (Y.2.1 54)), (1, .int a1)] := hl
  unfold wX8_findLeast at hq
  refine lv_aload_n hx hb dX8_findLeast_0 rfl (lv_at hl 0 rfl) ?_
  refine sy_get C hh (fun w h => mc (uX_fX8 w h)) 54 (by decide) (oX_54 Y) rfl 2 (by decide) (index := 22) (mc uX_182) (v := .ref (Y.2.1 56)) rfl dX8_findLeast_1 ?_
  refine lv_iload_n hx hb dX8_findLeast_4 rfl (lv_at hl 1 rfl) ?_
  refine lv_iconst (v := (0 : Int32)) hx hb dX8_findLeast_5 (by decide) ?_
  obtain ⟨n1, hn1, en1, hq⟩ := hq
  refine sy_iast C hh 56 (by decide) (aX_56 Y) tX_56 hn1 en1 (by decide) dX8_findLeast_6 (fun H locs hh => ?_)
  refine lv_iload_n hx hb dX8_findLeast_7 rfl (lv_at hl 1 rfl) ?_
  refine lv_iconst (v := (1 : Int32)) hx hb dX8_findLeast_8 (by decide) ?_
  refine lv_isub hx hb dX8_findLeast_9 ?_
  refine lv_istore_n (lv' := [(2, .int (a1 - (1 : Int32))), (0, .ref (Y.2.1 54)), (1, .int a1)]) hx hb dX8_findLeast_10 rfl hl (by decide) rfl (fun ls hl => ?_)
  obtain ⟨n12, hq⟩ := hq
  refine kX8_findLeast_11 C  n12 (mu M 56 n1 (0 : Int32)) a1 (a1 - (1 : Int32)) _ _ _ hq hh (lv_sub hl [1, 2, 0] rfl)

/-! AreaSetter$RowBreaker.layRow(LAreaSetter$Items;II)V -/
def wX8_layRow_38 (Q : sy_M → Prop) : Nat → sy_M → Int32 → Int32 → Int32 → Int32 → Int32 → Prop
  | 0, _, _, _, _, _, _ => False
  | n + 1, M, x2, x3, x4, x5, x6 => ((x3 ≤ x6 → Q M) ∧ (¬ x3 ≤ x6 → wX3_begin M x6 (M 28 6) x2 x3 (fun r7 M6 => wX3_begin M6 (x6 + (1 : Int32)) (M6 28 6) x2 x3 (fun r9 M8 => wX5_put M8 40 x6 ((M8 28 4) + r7) ((M8 28 5) + x4) (r9 - r7) x5 (fun M10 => wX8_layRow_38 Q n M10 x2 x3 x4 x5 (x6 + (1 : Int32)))))))
def wX8_layRow (M : sy_M) (a2 : Int32) (a3 : Int32) (Q : sy_M → Prop) : Prop := wX3_begin M a2 (M 28 7) (0 : Int32) (M 28 0) (fun r2 M1 => wX3_begin M1 a3 (M1 28 7) (0 : Int32) (M1 28 0) (fun r4 M3 => ∃ n11 : Nat, wX8_layRow_38  Q n11 M3 a2 a3 r2 (r4 - r2) a2))
section
variable {p : Program} {l : Launch} {e : Env} {s : State} {m : MethodId} {args : Array Value} {below : List Frame} {meth : Method} {c : Code} {Y : sy_Y}
set_option maxHeartbeats 4000000 in
set_option maxRecDepth 100000 in
theorem kX8_layRow_38 (C : sy_C p m c cX8_layRow 9 s args vsX8_layRow RX8 meth none Y NX tfX) {Q : sy_M → Prop} :
    ∀ (n : Nat) (M : sy_M) (x2 : Int32) (x3 : Int32) (x4 : Int32) (x5 : Int32) (x6 : Int32) (H : Heap) (locs : List Loc) (ls : Array Slot), wX8_layRow_38 Q n M x2 x3 x4 x5 x6 → sy_H Y NX EX s H locs M → lv_has ls 9 [(0, .ref (Y.2.1 54)), (1, .ref (Y.2.1 28)), (2, .int x2), (3, .int x3), (4, .int x4), (5, .int x5), (6, .int x6)] → W p l e ({ frames := 2, cells := 0, slots := 0, locals := 51 } : Room) s m args below meth c H locs 0 0 (sy_ZV below args s Y NX EX Q) (F0 m 38 ls []) := by
  have hx := C.1.1
  have hb := C.1.2.1
  intro n
  induction n with
  | zero =>
    intro M x2 x3 x4 x5 x6 H locs ls hq hh hl
    unfold wX8_layRow_38 at hq
    exact hq.elim
  | succ n ih =>
    intro M x2 x3 x4 x5 x6 H locs ls hq hh hl
    unfold wX8_layRow_38 at hq
    refine lv_iload hx hb dX8_layRow_38 (lv_at hl 6 rfl) ?_
    refine lv_iload_n hx hb dX8_layRow_40 rfl (lv_at hl 3 rfl) ?_
    refine lv_icmp_ge (tgt := 111) hx hb dX8_layRow_41 (by decide) (fun c5 => ?_) (fun c5 => ?_)
    · have hq := hq.1 c5
      exact sy_vret C hh dX8_layRow_111 hq
    · have hq := hq.2 c5
      refine lv_aload_n hx hb dX8_layRow_44 rfl (lv_at hl 1 rfl) ?_
      refine lv_iload hx hb dX8_layRow_45 (lv_at hl 6 rfl) ?_
      refine lv_aload_n hx hb dX8_layRow_47 rfl (lv_at hl 1 rfl) ?_
      refine sy_get C hh (fun w h => mc (uX_fX3 w h)) 28 (by decide) (oX_28 Y) rfl 6 (by decide) (index := 62) (mc uX_214) (v := .int (M 28 6)) rfl dX8_layRow_48 ?_
      refine lv_iload_n hx hb dX8_layRow_51 rfl (lv_at hl 2 rfl) ?_
      refine lv_iload_n hx hb dX8_layRow_52 rfl (lv_at hl 3 rfl) ?_
      refine sy_cIV C hh (As := [.int x6, .int (M 28 6), .int x2, .int x3]) (rest := []) 28 (by decide) (oX_28 Y) rfl (mX3_begin l Y _ M x6 (M 28 6) x2 x3 _ hq) (cwV 4 C.1.2.2.2.2 (sy_goodV uX_good uX_217 uX_218 uX_219 uX_70 uX_176 _) rfl rfl rfl hdX3_begin ⟨Nat.le_of_ble_eq_true rfl, Nat.le_of_ble_eq_true rfl⟩) rfl hl.1 rfl (Nat.le_of_ble_eq_true rfl) dX8_layRow_53 (fun r7 M6 H locs hq hh => ?_)
      refine lv_istore (lv' := [(7, .int r7), (0, .ref (Y.2.1 54)), (1, .ref (Y.2.1 28)), (2, .int x2), (3, .int x3), (4, .int x4), (5, .int x5), (6, .int x6)]) hx hb dX8_layRow_56 hl (by decide) rfl (fun ls hl => ?_)
      refine lv_aload_n hx hb dX8_layRow_58 rfl (lv_at hl 2 rfl) ?_
      refine lv_iload hx hb dX8_layRow_59 (lv_at hl 7 rfl) ?_
      refine lv_iconst (v := (1 : Int32)) hx hb dX8_layRow_61 (by decide) ?_
      refine lv_iadd hx hb dX8_layRow_62 ?_
      refine lv_aload_n hx hb dX8_layRow_63 rfl (lv_at hl 2 rfl) ?_
      refine sy_get C hh (fun w h => mc (uX_fX3 w h)) 28 (by decide) (oX_28 Y) rfl 6 (by decide) (index := 62) (mc uX_214) (v := .int (M6 28 6)) rfl dX8_layRow_64 ?_
      refine lv_iload_n hx hb dX8_layRow_67 rfl (lv_at hl 3 rfl) ?_
      refine lv_iload_n hx hb dX8_layRow_68 rfl (lv_at hl 4 rfl) ?_
      refine sy_cIV C hh (As := [.int (x6 + (1 : Int32)), .int (M6 28 6), .int x2, .int x3]) (rest := []) 28 (by decide) (oX_28 Y) rfl (mX3_begin l Y _ M6 (x6 + (1 : Int32)) (M6 28 6) x2 x3 _ hq) (cwV 4 C.1.2.2.2.2 (sy_goodV uX_good uX_217 uX_218 uX_219 uX_70 uX_176 _) rfl rfl rfl hdX3_begin ⟨Nat.le_of_ble_eq_true rfl, Nat.le_of_ble_eq_true rfl⟩) rfl hl.1 rfl (Nat.le_of_ble_eq_true rfl) dX8_layRow_69 (fun r9 M8 H locs hq hh => ?_)
      refine lv_istore (lv' := [(8, .int r9), (7, .int r7), (0, .ref (Y.2.1 54)), (1, .ref (Y.2.1 28)), (2, .int x2), (3, .int x3), (4, .int x4), (5, .int x5), (6, .int x6)]) hx hb dX8_layRow_72 hl (by decide) rfl (fun ls hl => ?_)
      refine lv_aload_n hx hb dX8_layRow_74 rfl (lv_at hl 2 rfl) ?_
      refine sy_get C hh (fun w h => mc (uX_fX8 w h)) 54 (by decide) (oX_54 Y) rfl 0 (by decide) (index := 12) (mc uX_180) (v := .ref (Y.2.1 40)) rfl dX8_layRow_75 ?_
      refine lv_aload_n hx hb dX8_layRow_78 rfl (lv_at hl 3 rfl) ?_
      refine lv_iload hx hb dX8_layRow_79 (lv_at hl 8 rfl) ?_
      refine lv_aload_n hx hb dX8_layRow_81 rfl (lv_at hl 3 rfl) ?_
      refine sy_get C hh (fun w h => mc (uX_fX3 w h)) 28 (by decide) (oX_28 Y) rfl 4 (by decide) (index := 83) (mc uX_225) (v := .int (M8 28 4)) rfl dX8_layRow_82 ?_
      refine lv_iload hx hb dX8_layRow_85 (lv_at hl 1 rfl) ?_
      refine lv_iadd hx hb dX8_layRow_87 ?_
      refine lv_aload_n hx hb dX8_layRow_88 rfl (lv_at hl 3 rfl) ?_
      refine sy_get C hh (fun w h => mc (uX_fX3 w h)) 28 (by decide) (oX_28 Y) rfl 5 (by decide) (index := 86) (mc uX_226) (v := .int (M8 28 5)) rfl dX8_layRow_89 ?_
      refine lv_iload hx hb dX8_layRow_92 (lv_at hl 6 rfl) ?_
      refine lv_iadd hx hb dX8_layRow_94 ?_
      refine lv_iload hx hb dX8_layRow_95 (lv_at hl 0 rfl) ?_
      refine lv_iload hx hb dX8_layRow_97 (lv_at hl 1 rfl) ?_
      refine lv_isub hx hb dX8_layRow_99 ?_
      refine lv_iload hx hb dX8_layRow_100 (lv_at hl 7 rfl) ?_
      refine sy_cVV C hh (As := [.ref (Y.2.1 28), .int x6, .int ((M8 28 4) + r7), .int ((M8 28 5) + x4), .int (r9 - r7), .int x5]) (rest := []) 40 (by decide) (oX_40 Y) rfl (mX5_put l Y _ M8 40 iX5_40 x6 ((M8 28 4) + r7) ((M8 28 5) + x4) (r9 - r7) x5 _ hq) (cwV 6 C.1.2.2.2.2 (sy_goodV uX_good uX_227 uX_82 uX_83 uX_44 uX_51 _) rfl rfl rfl hdX5_put ⟨Nat.le_of_ble_eq_true rfl, Nat.le_of_ble_eq_true rfl⟩) rfl hl.1 rfl (Nat.le_of_ble_eq_true rfl) dX8_layRow_102 (fun M10 H locs hq hh => ?_)
      refine lv_iinc (v := (x6 + (1 : Int32))) (lv' := [(6, .int (x6 + (1 : Int32))), (8, .int r9), (7, .int r7), (0, .ref (Y.2.1 54)), (1, .ref (Y.2.1 28)), (2, .int x2), (3, .int x3), (4, .int x4), (5, .int x5)]) hx hb dX8_layRow_105 hl (k := 8) rfl (sy_inc (by decide)) (by decide) rfl (fun ls hl => ?_)
      refine lv_goto (tgt := 38) hx hb dX8_layRow_108 (by decide) ?_
      exact ih M10 x2 x3 x4 x5 (x6 + (1 : Int32)) _ _ _ hq hh (lv_sub hl [3, 4, 5, 6, 7, 8, 0] rfl)

end
set_option maxHeartbeats 4000000 in
set_option maxRecDepth 100000 in
theorem mX8_layRow (l : Launch) (Y : sy_Y) (sz : Nat) (M : sy_M) (a2 : Int32) (a3 : Int32) (Q : sy_M → Prop) (hq : wX8_layRow M a2 a3 Q) : Met l yX8_layRow vsX8_layRow ({ frames := 2, cells := 0, slots := 0, locals := 51 } : Room) (va_Pc [.ref (Y.2.1 54), .ref (Y.2.1 28), .int a2, .int a3] (sy_pre Y NX EX tfX sz M)) (sy_QV Y NX EX sz Q) 0 0 (sy_A NX Y.2.1 sz) := by
  refine sy_metV (by decide) rfl (Nat.le_of_ble_eq_true rfl) ?_
  intro p e s m args below meth c C ls hl hh
  have hx := C.1.1
  have hb := C.1.2.1
  have hl : lv_has ls 9 [(0, .ref (Y.2.1 54)), (1, .ref (Y.2.1 28)), (2, .int a2), (3, .int a3)] := hl
  unfold wX8_layRow at hq
  refine lv_aload_n hx hb dX8_layRow_0 rfl (lv_at hl 1 rfl) ?_
  refine lv_iload_n hx hb dX8_layRow_1 rfl (lv_at hl 2 rfl) ?_
  refine lv_aload_n hx hb dX8_layRow_2 rfl (lv_at hl 1 rfl) ?_
  refine sy_get C hh (fun w h => mc (uX_fX3 w h)) 28 (by decide) (oX_28 Y) rfl 7 (by decide) (index := 55) (mc uX_212) (v := .int (M 28 7)) rfl dX8_layRow_3 ?_
  refine lv_iconst (v := (0 : Int32)) hx hb dX8_layRow_6 (by decide) ?_
  refine lv_aload_n hx hb dX8_layRow_7 rfl (lv_at hl 1 rfl) ?_
  refine sy_get C hh (fun w h => mc (uX_fX3 w h)) 28 (by decide) (oX_28 Y) rfl 0 (by decide) (index := 28) (mc uX_213) (v := .int (M 28 0)) rfl dX8_layRow_8 ?_
  refine sy_cIV C hh (As := [.int a2, .int (M 28 7), .int (0 : Int32), .int (M 28 0)]) (rest := []) 28 (by decide) (oX_28 Y) rfl (mX3_begin l Y _ M a2 (M 28 7) (0 : Int32) (M 28 0) _ hq) (cwV 4 C.1.2.2.2.2 (sy_goodV uX_good uX_217 uX_218 uX_219 uX_70 uX_176 _) rfl rfl rfl hdX3_begin ⟨Nat.le_of_ble_eq_true rfl, Nat.le_of_ble_eq_true rfl⟩) rfl hl.1 rfl (Nat.le_of_ble_eq_true rfl) dX8_layRow_11 (fun r2 M1 H locs hq hh => ?_)
  refine lv_istore (lv' := [(4, .int r2), (0, .ref (Y.2.1 54)), (1, .ref (Y.2.1 28)), (2, .int a2), (3, .int a3)]) hx hb dX8_layRow_14 hl (by decide) rfl (fun ls hl => ?_)
  refine lv_aload_n hx hb dX8_layRow_16 rfl (lv_at hl 2 rfl) ?_
  refine lv_iload_n hx hb dX8_layRow_17 rfl (lv_at hl 4 rfl) ?_
  refine lv_aload_n hx hb dX8_layRow_18 rfl (lv_at hl 2 rfl) ?_
  refine sy_get C hh (fun w h => mc (uX_fX3 w h)) 28 (by decide) (oX_28 Y) rfl 7 (by decide) (index := 55) (mc uX_212) (v := .int (M1 28 7)) rfl dX8_layRow_19 ?_
  refine lv_iconst (v := (0 : Int32)) hx hb dX8_layRow_22 (by decide) ?_
  refine lv_aload_n hx hb dX8_layRow_23 rfl (lv_at hl 2 rfl) ?_
  refine sy_get C hh (fun w h => mc (uX_fX3 w h)) 28 (by decide) (oX_28 Y) rfl 0 (by decide) (index := 28) (mc uX_213) (v := .int (M1 28 0)) rfl dX8_layRow_24 ?_
  refine sy_cIV C hh (As := [.int a3, .int (M1 28 7), .int (0 : Int32), .int (M1 28 0)]) (rest := []) 28 (by decide) (oX_28 Y) rfl (mX3_begin l Y _ M1 a3 (M1 28 7) (0 : Int32) (M1 28 0) _ hq) (cwV 4 C.1.2.2.2.2 (sy_goodV uX_good uX_217 uX_218 uX_219 uX_70 uX_176 _) rfl rfl rfl hdX3_begin ⟨Nat.le_of_ble_eq_true rfl, Nat.le_of_ble_eq_true rfl⟩) rfl hl.1 rfl (Nat.le_of_ble_eq_true rfl) dX8_layRow_27 (fun r4 M3 H locs hq hh => ?_)
  refine lv_iload hx hb dX8_layRow_30 (lv_at hl 0 rfl) ?_
  refine lv_isub hx hb dX8_layRow_32 ?_
  refine lv_istore (lv' := [(5, .int (r4 - r2)), (4, .int r2), (0, .ref (Y.2.1 54)), (1, .ref (Y.2.1 28)), (2, .int a2), (3, .int a3)]) hx hb dX8_layRow_33 hl (by decide) rfl (fun ls hl => ?_)
  refine lv_iload_n hx hb dX8_layRow_35 rfl (lv_at hl 4 rfl) ?_
  refine lv_istore (lv' := [(6, .int a2), (5, .int (r4 - r2)), (4, .int r2), (0, .ref (Y.2.1 54)), (1, .ref (Y.2.1 28)), (2, .int a2), (3, .int a3)]) hx hb dX8_layRow_36 hl (by decide) rfl (fun ls hl => ?_)
  obtain ⟨n11, hq⟩ := hq
  refine kX8_layRow_38 C  n11 M3 a2 a3 r2 (r4 - r2) a2 _ _ _ hq hh (lv_sub hl [3, 4, 5, 6, 2, 1, 0] rfl)

/-! AreaSetter$RowBreaker.worstOfRow(LAreaSetter$Items;II)I -/
def wX8_worstOfRow_39 (Q : Int32 → sy_M → Prop) : Nat → sy_M → Int32 → Int32 → Int32 → Int32 → Int32 → Int32 → Prop
  | 0, _, _, _, _, _, _, _ => False
  | n + 1, M, x1, x2, x3, x4, x5, x6 => ((x2 ≤ x6 → Q x4 M) ∧ (¬ x2 ≤ x6 → wX3_begin M (x6 + (1 : Int32)) (M 28 6) x1 x2 (fun r7 M6 => ∃ n8 : Nat, n8 < 8 ∧ x6 = nI n8 ∧ wX11_shapeOf M6 (M6 30 n8) (r7 - x5) x3 (fun r10 M9 => wX8_worstOfRow_39 Q n M9 x1 x2 x3 (imax x4 r10) r7 (x6 + (1 : Int32))))))
def wX8_worstOfRow (M : sy_M) (a2 : Int32) (a3 : Int32) (Q : Int32 → sy_M → Prop) : Prop := wX3_begin M a3 (M 28 7) (0 : Int32) (M 28 0) (fun r2 M1 => wX3_begin M1 a2 (M1 28 7) (0 : Int32) (M1 28 0) (fun r4 M3 => ∃ n11 : Nat, wX8_worstOfRow_39  Q n11 M3 a2 a3 (r2 - r4) (0 : Int32) (0 : Int32) a2))
section
variable {p : Program} {l : Launch} {e : Env} {s : State} {m : MethodId} {args : Array Value} {below : List Frame} {meth : Method} {c : Code} {Y : sy_Y}
set_option maxHeartbeats 4000000 in
set_option maxRecDepth 100000 in
theorem kX8_worstOfRow_39 (C : sy_C p m c cX8_worstOfRow 8 s args vsX8_worstOfRow RX8 meth (some .int) Y NX tfX) {Q : Int32 → sy_M → Prop} :
    ∀ (n : Nat) (M : sy_M) (x1 : Int32) (x2 : Int32) (x3 : Int32) (x4 : Int32) (x5 : Int32) (x6 : Int32) (H : Heap) (locs : List Loc) (ls : Array Slot), wX8_worstOfRow_39 Q n M x1 x2 x3 x4 x5 x6 → sy_H Y NX EX s H locs M → lv_has ls 8 [(0, .ref (Y.2.1 28)), (1, .int x1), (2, .int x2), (3, .int x3), (4, .int x4), (5, .int x5), (6, .int x6)] → W p l e ({ frames := 2, cells := 0, slots := 0, locals := 46 } : Room) s m args below meth c H locs 0 0 (sy_ZI below args s Y NX EX Q) (F0 m 39 ls []) := by
  have hx := C.1.1
  have hb := C.1.2.1
  intro n
  induction n with
  | zero =>
    intro M x1 x2 x3 x4 x5 x6 H locs ls hq hh hl
    unfold wX8_worstOfRow_39 at hq
    exact hq.elim
  | succ n ih =>
    intro M x1 x2 x3 x4 x5 x6 H locs ls hq hh hl
    unfold wX8_worstOfRow_39 at hq
    refine lv_iload hx hb dX8_worstOfRow_39 (lv_at hl 6 rfl) ?_
    refine lv_iload_n hx hb dX8_worstOfRow_41 rfl (lv_at hl 2 rfl) ?_
    refine lv_icmp_ge (tgt := 94) hx hb dX8_worstOfRow_42 (by decide) (fun c5 => ?_) (fun c5 => ?_)
    · have hq := hq.1 c5
      refine lv_iload hx hb dX8_worstOfRow_94 (lv_at hl 4 rfl) ?_
      exact sy_iret C hh dX8_worstOfRow_96 hq
    · have hq := hq.2 c5
      refine lv_aload_n hx hb dX8_worstOfRow_45 rfl (lv_at hl 0 rfl) ?_
      refine lv_iload hx hb dX8_worstOfRow_46 (lv_at hl 6 rfl) ?_
      refine lv_iconst (v := (1 : Int32)) hx hb dX8_worstOfRow_48 (by decide) ?_
      refine lv_iadd hx hb dX8_worstOfRow_49 ?_
      refine lv_aload_n hx hb dX8_worstOfRow_50 rfl (lv_at hl 0 rfl) ?_
      refine sy_get C hh (fun w h => mc (uX_fX3 w h)) 28 (by decide) (oX_28 Y) rfl 6 (by decide) (index := 62) (mc uX_214) (v := .int (M 28 6)) rfl dX8_worstOfRow_51 ?_
      refine lv_iload_n hx hb dX8_worstOfRow_54 rfl (lv_at hl 1 rfl) ?_
      refine lv_iload_n hx hb dX8_worstOfRow_55 rfl (lv_at hl 2 rfl) ?_
      refine sy_cIV C hh (As := [.int (x6 + (1 : Int32)), .int (M 28 6), .int x1, .int x2]) (rest := []) 28 (by decide) (oX_28 Y) rfl (mX3_begin l Y _ M (x6 + (1 : Int32)) (M 28 6) x1 x2 _ hq) (cwV 4 C.1.2.2.2.2 (sy_goodV uX_good uX_217 uX_218 uX_219 uX_70 uX_176 _) rfl rfl rfl hdX3_begin ⟨Nat.le_of_ble_eq_true rfl, Nat.le_of_ble_eq_true rfl⟩) rfl hl.1 rfl (Nat.le_of_ble_eq_true rfl) dX8_worstOfRow_56 (fun r7 M6 H locs hq hh => ?_)
      refine lv_istore (lv' := [(7, .int r7), (0, .ref (Y.2.1 28)), (1, .int x1), (2, .int x2), (3, .int x3), (4, .int x4), (5, .int x5), (6, .int x6)]) hx hb dX8_worstOfRow_59 hl (by decide) rfl (fun ls hl => ?_)
      refine lv_iload hx hb dX8_worstOfRow_61 (lv_at hl 5 rfl) ?_
      refine lv_aload_n hx hb dX8_worstOfRow_63 rfl (lv_at hl 1 rfl) ?_
      refine sy_get C hh (fun w h => mc (uX_fX3 w h)) 28 (by decide) (oX_28 Y) rfl 3 (by decide) (index := 65) (mc uX_215) (v := .ref (Y.2.1 30)) rfl dX8_worstOfRow_64 ?_
      refine lv_iload hx hb dX8_worstOfRow_67 (lv_at hl 7 rfl) ?_
      obtain ⟨n8, hn8, en8, hq⟩ := hq
      refine sy_iald C hh 30 (by decide) (aX_30 Y) tX_30 hn8 en8 (by decide) dX8_worstOfRow_69 ?_
      refine lv_iload hx hb dX8_worstOfRow_70 (lv_at hl 0 rfl) ?_
      refine lv_iload hx hb dX8_worstOfRow_72 (lv_at hl 6 rfl) ?_
      refine lv_isub hx hb dX8_worstOfRow_74 ?_
      refine lv_iload_n hx hb dX8_worstOfRow_75 rfl (lv_at hl 4 rfl) ?_
      refine sy_cIN C hh (As := [.int (M6 30 n8), .int (r7 - x5), .int x3]) (rest := [.int x4]) (mX11_shapeOf l Y _ M6 (M6 30 n8) (r7 - x5) x3 _ hq) ⟨va_cnB 3 C.1.2.2.2.2 (sy_goodN uX_good uX_49 _) rfl rfl rfl (C.2.1.2.1 ("AreaSetter$RowBreaker", 68, yX11_shapeOf) (by simp)) (C.1.2.2.2.2 _ (mc uX_58)) hdX11_shapeOf.2 ⟨Nat.le_of_ble_eq_true rfl, Nat.le_of_ble_eq_true rfl⟩, C.1.2.2.2.2 _ (mc uX_57), trivial⟩ rfl hl.1 rfl (Nat.le_of_ble_eq_true rfl) dX8_worstOfRow_76 (fun r10 M9 H locs hq hh => ?_)
      refine sy_mmax C hl (index := 72) (mc uX_216) (mc uX_24) (mc uX_25) (mc uX_26) (by decide) (Nat.le_of_ble_eq_true rfl) dX8_worstOfRow_79 ?_
      refine lv_istore (lv' := [(4, .int (imax x4 r10)), (7, .int r7), (0, .ref (Y.2.1 28)), (1, .int x1), (2, .int x2), (3, .int x3), (5, .int x5), (6, .int x6)]) hx hb dX8_worstOfRow_82 hl (by decide) rfl (fun ls hl => ?_)
      refine lv_iload hx hb dX8_worstOfRow_84 (lv_at hl 1 rfl) ?_
      refine lv_istore (lv' := [(5, .int r7), (4, .int (imax x4 r10)), (7, .int r7), (0, .ref (Y.2.1 28)), (1, .int x1), (2, .int x2), (3, .int x3), (6, .int x6)]) hx hb dX8_worstOfRow_86 hl (by decide) rfl (fun ls hl => ?_)
      refine lv_iinc (v := (x6 + (1 : Int32))) (lv' := [(6, .int (x6 + (1 : Int32))), (5, .int r7), (4, .int (imax x4 r10)), (7, .int r7), (0, .ref (Y.2.1 28)), (1, .int x1), (2, .int x2), (3, .int x3)]) hx hb dX8_worstOfRow_88 hl (k := 7) rfl (sy_inc (by decide)) (by decide) rfl (fun ls hl => ?_)
      refine lv_goto (tgt := 39) hx hb dX8_worstOfRow_91 (by decide) ?_
      exact ih M9 x1 x2 x3 (imax x4 r10) r7 (x6 + (1 : Int32)) _ _ _ hq hh (lv_sub hl [4, 5, 6, 7, 2, 1, 0] rfl)

end
set_option maxHeartbeats 4000000 in
set_option maxRecDepth 100000 in
theorem mX8_worstOfRow (l : Launch) (Y : sy_Y) (sz : Nat) (M : sy_M) (a2 : Int32) (a3 : Int32) (Q : Int32 → sy_M → Prop) (hq : wX8_worstOfRow M a2 a3 Q) : Met l yX8_worstOfRow vsX8_worstOfRow ({ frames := 2, cells := 0, slots := 0, locals := 46 } : Room) (va_Pc [.ref (Y.2.1 28), .int a2, .int a3] (sy_pre Y NX EX tfX sz M)) (sy_QI Y NX EX sz Q) 0 0 (sy_A NX Y.2.1 sz) := by
  refine sy_metI (by decide) rfl (Nat.le_of_ble_eq_true rfl) ?_
  intro p e s m args below meth c C ls hl hh
  have hx := C.1.1
  have hb := C.1.2.1
  have hl : lv_has ls 8 [(0, .ref (Y.2.1 28)), (1, .int a2), (2, .int a3)] := hl
  unfold wX8_worstOfRow at hq
  refine lv_aload_n hx hb dX8_worstOfRow_0 rfl (lv_at hl 0 rfl) ?_
  refine lv_iload_n hx hb dX8_worstOfRow_1 rfl (lv_at hl 2 rfl) ?_
  refine lv_aload_n hx hb dX8_worstOfRow_2 rfl (lv_at hl 0 rfl) ?_
  refine sy_get C hh (fun w h => mc (uX_fX3 w h)) 28 (by decide) (oX_28 Y) rfl 7 (by decide) (index := 55) (mc uX_212) (v := .int (M 28 7)) rfl dX8_worstOfRow_3 ?_
  refine lv_iconst (v := (0 : Int32)) hx hb dX8_worstOfRow_6 (by decide) ?_
  refine lv_aload_n hx hb dX8_worstOfRow_7 rfl (lv_at hl 0 rfl) ?_
  refine sy_get C hh (fun w h => mc (uX_fX3 w h)) 28 (by decide) (oX_28 Y) rfl 0 (by decide) (index := 28) (mc uX_213) (v := .int (M 28 0)) rfl dX8_worstOfRow_8 ?_
  refine sy_cIV C hh (As := [.int a3, .int (M 28 7), .int (0 : Int32), .int (M 28 0)]) (rest := []) 28 (by decide) (oX_28 Y) rfl (mX3_begin l Y _ M a3 (M 28 7) (0 : Int32) (M 28 0) _ hq) (cwV 4 C.1.2.2.2.2 (sy_goodV uX_good uX_217 uX_218 uX_219 uX_70 uX_176 _) rfl rfl rfl hdX3_begin ⟨Nat.le_of_ble_eq_true rfl, Nat.le_of_ble_eq_true rfl⟩) rfl hl.1 rfl (Nat.le_of_ble_eq_true rfl) dX8_worstOfRow_11 (fun r2 M1 H locs hq hh => ?_)
  refine lv_aload_n hx hb dX8_worstOfRow_14 rfl (lv_at hl 0 rfl) ?_
  refine lv_iload_n hx hb dX8_worstOfRow_15 rfl (lv_at hl 1 rfl) ?_
  refine lv_aload_n hx hb dX8_worstOfRow_16 rfl (lv_at hl 0 rfl) ?_
  refine sy_get C hh (fun w h => mc (uX_fX3 w h)) 28 (by decide) (oX_28 Y) rfl 7 (by decide) (index := 55) (mc uX_212) (v := .int (M1 28 7)) rfl dX8_worstOfRow_17 ?_
  refine lv_iconst (v := (0 : Int32)) hx hb dX8_worstOfRow_20 (by decide) ?_
  refine lv_aload_n hx hb dX8_worstOfRow_21 rfl (lv_at hl 0 rfl) ?_
  refine sy_get C hh (fun w h => mc (uX_fX3 w h)) 28 (by decide) (oX_28 Y) rfl 0 (by decide) (index := 28) (mc uX_213) (v := .int (M1 28 0)) rfl dX8_worstOfRow_22 ?_
  refine sy_cIV C hh (As := [.int a2, .int (M1 28 7), .int (0 : Int32), .int (M1 28 0)]) (rest := [.int r2]) 28 (by decide) (oX_28 Y) rfl (mX3_begin l Y _ M1 a2 (M1 28 7) (0 : Int32) (M1 28 0) _ hq) (cwV 4 C.1.2.2.2.2 (sy_goodV uX_good uX_217 uX_218 uX_219 uX_70 uX_176 _) rfl rfl rfl hdX3_begin ⟨Nat.le_of_ble_eq_true rfl, Nat.le_of_ble_eq_true rfl⟩) rfl hl.1 rfl (Nat.le_of_ble_eq_true rfl) dX8_worstOfRow_25 (fun r4 M3 H locs hq hh => ?_)
  refine lv_isub hx hb dX8_worstOfRow_28 ?_
  refine lv_istore_n (lv' := [(3, .int (r2 - r4)), (0, .ref (Y.2.1 28)), (1, .int a2), (2, .int a3)]) hx hb dX8_worstOfRow_29 rfl hl (by decide) rfl (fun ls hl => ?_)
  refine lv_iconst (v := (0 : Int32)) hx hb dX8_worstOfRow_30 (by decide) ?_
  refine lv_istore (lv' := [(4, .int (0 : Int32)), (3, .int (r2 - r4)), (0, .ref (Y.2.1 28)), (1, .int a2), (2, .int a3)]) hx hb dX8_worstOfRow_31 hl (by decide) rfl (fun ls hl => ?_)
  refine lv_iconst (v := (0 : Int32)) hx hb dX8_worstOfRow_33 (by decide) ?_
  refine lv_istore (lv' := [(5, .int (0 : Int32)), (4, .int (0 : Int32)), (3, .int (r2 - r4)), (0, .ref (Y.2.1 28)), (1, .int a2), (2, .int a3)]) hx hb dX8_worstOfRow_34 hl (by decide) rfl (fun ls hl => ?_)
  refine lv_iload_n hx hb dX8_worstOfRow_36 rfl (lv_at hl 4 rfl) ?_
  refine lv_istore (lv' := [(6, .int a2), (5, .int (0 : Int32)), (4, .int (0 : Int32)), (3, .int (r2 - r4)), (0, .ref (Y.2.1 28)), (1, .int a2), (2, .int a3)]) hx hb dX8_worstOfRow_37 hl (by decide) rfl (fun ls hl => ?_)
  obtain ⟨n11, hq⟩ := hq
  refine kX8_worstOfRow_39 C  n11 M3 a2 a3 (r2 - r4) (0 : Int32) (0 : Int32) a2 _ _ _ hq hh (lv_sub hl [4, 5, 6, 3, 2, 1, 0] rfl)

/-! AreaSetter$RowBreaker.lay(LAreaSetter$Items;)V -/
def wX8_lay_18 (K_49 : sy_M → Int32 → Int32 → Prop) (Q : sy_M → Prop) : Nat → sy_M → Int32 → Int32 → Int32 → Prop
  | 0, _, _, _, _ => False
  | n + 1, M, x2, x3, x4 => ((x2 < x4 → K_49 M x2 x3) ∧ (¬ x2 < x4 → wX8_worstOfRow M x3 x4 (fun r4 M3 => ∃ n5 : Nat, n5 < 72 ∧ ((x3 * (nI 9)) + x4) = nI n5 ∧ wX8_lay_18 K_49 Q n (mu M3 55 n5 r4) x2 x3 (x4 + (1 : Int32)))))
def wX8_lay_9 (K_55 : sy_M → Int32 → Prop) (Q : sy_M → Prop) : Nat → sy_M → Int32 → Int32 → Prop
  | 0, _, _, _ => False
  | n + 1, M, x2, x3 => ((x3 < 0 → K_55 M x2) ∧ (¬ x3 < 0 → ∃ n9 : Nat, wX8_lay_18 (fun (M6 : sy_M) (x2_7 : Int32) (x3_8 : Int32) => wX8_lay_9 K_55 Q n M6 x2_7 (x3_8 + (-1 : Int32))) Q n9 M x2 x3 (x3 + (1 : Int32))))
def wX8_lay_78 (Q : sy_M → Prop) : Nat → sy_M → Int32 → Int32 → Int32 → Prop
  | 0, _, _, _, _ => False
  | n + 1, M, x2, x3, x4 => ((x2 ≤ x4 → Q M) ∧ (¬ x2 ≤ x4 → ((x2 ≤ x3 → Q M) ∧ (¬ x2 ≤ x3 → wX8_endOfRow M x3 x2 (fun r17 M16 => wX8_layRow M16 x3 r17 (fun M18 => wX8_lay_78 Q n M18 x2 r17 (x4 + (1 : Int32))))))))
def wX8_lay (M : sy_M)  (Q : sy_M → Prop) : Prop := ∃ n20 : Nat, wX8_lay_9 (fun (M10 : sy_M) (x2_11 : Int32) => wX8_findLeast M10 x2_11 (fun M12 => wX8_findFewest M12 x2_11 (fun M13 => ∃ n19 : Nat, wX8_lay_78  Q n19 (mu M13 40 0 (0 : Int32)) x2_11 (0 : Int32) (0 : Int32)))) Q n20 M (M 28 0) ((M 28 0) - (1 : Int32))
section
variable {p : Program} {l : Launch} {e : Env} {s : State} {m : MethodId} {args : Array Value} {below : List Frame} {meth : Method} {c : Code} {Y : sy_Y}
set_option maxHeartbeats 4000000 in
set_option maxRecDepth 100000 in
theorem kX8_lay_18 (C : sy_C p m c cX8_lay 6 s args vsX8_lay RX8 meth none Y NX tfX) {Q : sy_M → Prop} {K_49 : sy_M → Int32 → Int32 → Prop} (hK_49 : ∀ (M : sy_M) (x2 : Int32) (x3 : Int32) (H : Heap) (locs : List Loc) (ls : Array Slot), K_49 M x2 x3 → sy_H Y NX EX s H locs M → lv_has ls 6 [(0, .ref (Y.2.1 54)), (1, .ref (Y.2.1 28)), (2, .int x2), (3, .int x3)] → W p l e ({ frames := 3, cells := 0, slots := 0, locals := 79 } : Room) s m args below meth c H locs 0 0 (sy_ZV below args s Y NX EX Q) (F0 m 49 ls [])) :
    ∀ (n : Nat) (M : sy_M) (x2 : Int32) (x3 : Int32) (x4 : Int32) (H : Heap) (locs : List Loc) (ls : Array Slot), wX8_lay_18 K_49 Q n M x2 x3 x4 → sy_H Y NX EX s H locs M → lv_has ls 6 [(0, .ref (Y.2.1 54)), (1, .ref (Y.2.1 28)), (2, .int x2), (3, .int x3), (4, .int x4)] → W p l e ({ frames := 3, cells := 0, slots := 0, locals := 79 } : Room) s m args below meth c H locs 0 0 (sy_ZV below args s Y NX EX Q) (F0 m 18 ls []) := by
  have hx := C.1.1
  have hb := C.1.2.1
  intro n
  induction n with
  | zero =>
    intro M x2 x3 x4 H locs ls hq hh hl
    unfold wX8_lay_18 at hq
    exact hq.elim
  | succ n ih =>
    intro M x2 x3 x4 H locs ls hq hh hl
    unfold wX8_lay_18 at hq
    refine lv_iload hx hb dX8_lay_18 (lv_at hl 4 rfl) ?_
    refine lv_iload_n hx hb dX8_lay_20 rfl (lv_at hl 2 rfl) ?_
    refine lv_icmp_gt (tgt := 49) hx hb dX8_lay_21 (by decide) (fun c2 => ?_) (fun c2 => ?_)
    · have hq := hq.1 c2
      exact hK_49 M x2 x3 _ _ _ hq hh (lv_sub hl [0, 1, 2, 3] rfl)
    · have hq := hq.2 c2
      refine lv_aload_n hx hb dX8_lay_24 rfl (lv_at hl 0 rfl) ?_
      refine sy_get C hh (fun w h => mc (uX_fX8 w h)) 54 (by decide) (oX_54 Y) rfl 1 (by decide) (index := 18) (mc uX_181) (v := .ref (Y.2.1 55)) rfl dX8_lay_25 ?_
      refine lv_iload_n hx hb dX8_lay_28 rfl (lv_at hl 3 rfl) ?_
      refine lv_bipush (v := (nI 9)) hx hb dX8_lay_29 (by decide) ?_
      refine lv_imul hx hb dX8_lay_31 ?_
      refine lv_iload hx hb dX8_lay_32 (lv_at hl 4 rfl) ?_
      refine lv_iadd hx hb dX8_lay_34 ?_
      refine lv_aload_n hx hb dX8_lay_35 rfl (lv_at hl 1 rfl) ?_
      refine lv_iload_n hx hb dX8_lay_36 rfl (lv_at hl 3 rfl) ?_
      refine lv_iload hx hb dX8_lay_37 (lv_at hl 4 rfl) ?_
      refine sy_cIS C hh (As := [.ref (Y.2.1 28), .int x3, .int x4]) (rest := [.int ((x3 * (nI 9)) + x4), .ref (Y.2.1 55)]) (mX8_worstOfRow l Y _ M x3 x4 _ hq) (va_cwS 3 C.1.2.2.2.2 (sy_goodS uX_good uX_230 uX_231 uX_192 uX_211 _) rfl rfl rfl hdX8_worstOfRow.2 ⟨Nat.le_of_ble_eq_true rfl, Nat.le_of_ble_eq_true rfl⟩) rfl hl.1 rfl (Nat.le_of_ble_eq_true rfl) dX8_lay_39 (fun r4 M3 H locs hq hh => ?_)
      obtain ⟨n5, hn5, en5, hq⟩ := hq
      refine sy_iast C hh 55 (by decide) (aX_55 Y) tX_55 hn5 en5 (by decide) dX8_lay_42 (fun H locs hh => ?_)
      refine lv_iinc (v := (x4 + (1 : Int32))) (lv' := [(4, .int (x4 + (1 : Int32))), (0, .ref (Y.2.1 54)), (1, .ref (Y.2.1 28)), (2, .int x2), (3, .int x3)]) hx hb dX8_lay_43 hl (k := 4) rfl (sy_inc (by decide)) (by decide) rfl (fun ls hl => ?_)
      refine lv_goto (tgt := 18) hx hb dX8_lay_46 (by decide) ?_
      exact ih (mu M3 55 n5 r4) x2 x3 (x4 + (1 : Int32)) _ _ _ hq hh (lv_sub hl [1, 2, 3, 4, 0] rfl)

set_option maxHeartbeats 4000000 in
set_option maxRecDepth 100000 in
theorem kX8_lay_9 (C : sy_C p m c cX8_lay 6 s args vsX8_lay RX8 meth none Y NX tfX) {Q : sy_M → Prop} {K_55 : sy_M → Int32 → Prop} (hK_55 : ∀ (M : sy_M) (x2 : Int32) (H : Heap) (locs : List Loc) (ls : Array Slot), K_55 M x2 → sy_H Y NX EX s H locs M → lv_has ls 6 [(0, .ref (Y.2.1 54)), (1, .ref (Y.2.1 28)), (2, .int x2)] → W p l e ({ frames := 3, cells := 0, slots := 0, locals := 79 } : Room) s m args below meth c H locs 0 0 (sy_ZV below args s Y NX EX Q) (F0 m 55 ls [])) :
    ∀ (n : Nat) (M : sy_M) (x2 : Int32) (x3 : Int32) (H : Heap) (locs : List Loc) (ls : Array Slot), wX8_lay_9 K_55 Q n M x2 x3 → sy_H Y NX EX s H locs M → lv_has ls 6 [(0, .ref (Y.2.1 54)), (1, .ref (Y.2.1 28)), (2, .int x2), (3, .int x3)] → W p l e ({ frames := 3, cells := 0, slots := 0, locals := 79 } : Room) s m args below meth c H locs 0 0 (sy_ZV below args s Y NX EX Q) (F0 m 9 ls []) := by
  have hx := C.1.1
  have hb := C.1.2.1
  intro n
  induction n with
  | zero =>
    intro M x2 x3 H locs ls hq hh hl
    unfold wX8_lay_9 at hq
    exact hq.elim
  | succ n ih =>
    intro M x2 x3 H locs ls hq hh hl
    unfold wX8_lay_9 at hq
    refine lv_iload_n hx hb dX8_lay_9 rfl (lv_at hl 3 rfl) ?_
    refine lv_if_lt (tgt := 55) hx hb dX8_lay_10 (by decide) (fun c1 => ?_) (fun c1 => ?_)
    · have hq := hq.1 c1
      exact hK_55 M x2 _ _ _ hq hh (lv_sub hl [0, 1, 2] rfl)
    · have hq := hq.2 c1
      refine lv_iload_n hx hb dX8_lay_13 rfl (lv_at hl 3 rfl) ?_
      refine lv_iconst (v := (1 : Int32)) hx hb dX8_lay_14 (by decide) ?_
      refine lv_iadd hx hb dX8_lay_15 ?_
      refine lv_istore (lv' := [(4, .int (x3 + (1 : Int32))), (0, .ref (Y.2.1 54)), (1, .ref (Y.2.1 28)), (2, .int x2), (3, .int x3)]) hx hb dX8_lay_16 hl (by decide) rfl (fun ls hl => ?_)
      obtain ⟨n9, hq⟩ := hq
      refine kX8_lay_18 C (fun M6 x2_7 x3_8 H locs ls hq hh hl => ?_) n9 M x2 x3 (x3 + (1 : Int32)) _ _ _ hq hh (lv_sub hl [1, 2, 3, 4, 0] rfl)
      · refine lv_iinc (v := (x3_8 + (-1 : Int32))) (lv' := [(3, .int (x3_8 + (-1 : Int32))), (0, .ref (Y.2.1 54)), (1, .ref (Y.2.1 28)), (2, .int x2_7)]) hx hb dX8_lay_49 hl (k := 3) rfl (sy_inc (by decide)) (by decide) rfl (fun ls hl => ?_)
        refine lv_goto (tgt := 9) hx hb dX8_lay_52 (by decide) ?_
        exact ih M6 x2_7 (x3_8 + (-1 : Int32)) _ _ _ hq hh (lv_sub hl [1, 2, 3, 0] rfl)

set_option maxHeartbeats 4000000 in
set_option maxRecDepth 100000 in
theorem kX8_lay_78 (C : sy_C p m c cX8_lay 6 s args vsX8_lay RX8 meth none Y NX tfX) {Q : sy_M → Prop} :
    ∀ (n : Nat) (M : sy_M) (x2 : Int32) (x3 : Int32) (x4 : Int32) (H : Heap) (locs : List Loc) (ls : Array Slot), wX8_lay_78 Q n M x2 x3 x4 → sy_H Y NX EX s H locs M → lv_has ls 6 [(0, .ref (Y.2.1 54)), (1, .ref (Y.2.1 28)), (2, .int x2), (3, .int x3), (4, .int x4)] → W p l e ({ frames := 3, cells := 0, slots := 0, locals := 79 } : Room) s m args below meth c H locs 0 0 (sy_ZV below args s Y NX EX Q) (F0 m 78 ls []) := by
  have hx := C.1.1
  have hb := C.1.2.1
  intro n
  induction n with
  | zero =>
    intro M x2 x3 x4 H locs ls hq hh hl
    unfold wX8_lay_78 at hq
    exact hq.elim
  | succ n ih =>
    intro M x2 x3 x4 H locs ls hq hh hl
    unfold wX8_lay_78 at hq
    refine lv_iload hx hb dX8_lay_78 (lv_at hl 4 rfl) ?_
    refine lv_iload_n hx hb dX8_lay_80 rfl (lv_at hl 2 rfl) ?_
    refine lv_icmp_ge (tgt := 114) hx hb dX8_lay_81 (by decide) (fun c14 => ?_) (fun c14 => ?_)
    · have hq := hq.1 c14
      exact sy_vret C hh dX8_lay_114 hq
    · have hq := hq.2 c14
      refine lv_iload_n hx hb dX8_lay_84 rfl (lv_at hl 3 rfl) ?_
      refine lv_iload_n hx hb dX8_lay_85 rfl (lv_at hl 2 rfl) ?_
      refine lv_icmp_ge (tgt := 114) hx hb dX8_lay_86 (by decide) (fun c15 => ?_) (fun c15 => ?_)
      · have hq := hq.1 c15
        exact sy_vret C hh dX8_lay_114 hq
      · have hq := hq.2 c15
        refine lv_aload_n hx hb dX8_lay_89 rfl (lv_at hl 0 rfl) ?_
        refine lv_iload_n hx hb dX8_lay_90 rfl (lv_at hl 3 rfl) ?_
        refine lv_iload_n hx hb dX8_lay_91 rfl (lv_at hl 2 rfl) ?_
        refine sy_cIV C hh (As := [.int x3, .int x2]) (rest := []) 54 (by decide) (oX_54 Y) rfl (mX8_endOfRow l Y _ M x3 x2 _ hq) (cwV 2 C.1.2.2.2.2 (sy_goodV uX_good uX_238 uX_239 uX_240 uX_192 uX_224 _) rfl rfl rfl hdX8_endOfRow ⟨Nat.le_of_ble_eq_true rfl, Nat.le_of_ble_eq_true rfl⟩) rfl hl.1 rfl (Nat.le_of_ble_eq_true rfl) dX8_lay_92 (fun r17 M16 H locs hq hh => ?_)
        refine lv_istore (lv' := [(5, .int r17), (0, .ref (Y.2.1 54)), (1, .ref (Y.2.1 28)), (2, .int x2), (3, .int x3), (4, .int x4)]) hx hb dX8_lay_95 hl (by decide) rfl (fun ls hl => ?_)
        refine lv_aload_n hx hb dX8_lay_97 rfl (lv_at hl 1 rfl) ?_
        refine lv_aload_n hx hb dX8_lay_98 rfl (lv_at hl 2 rfl) ?_
        refine lv_iload_n hx hb dX8_lay_99 rfl (lv_at hl 4 rfl) ?_
        refine lv_iload hx hb dX8_lay_100 (lv_at hl 0 rfl) ?_
        refine sy_cVV C hh (As := [.ref (Y.2.1 28), .int x3, .int r17]) (rest := []) 54 (by decide) (oX_54 Y) rfl (mX8_layRow l Y _ M16 x3 r17 _ hq) (cwV 3 C.1.2.2.2.2 (sy_goodV uX_good uX_241 uX_242 uX_243 uX_192 uX_228 _) rfl rfl rfl hdX8_layRow ⟨Nat.le_of_ble_eq_true rfl, Nat.le_of_ble_eq_true rfl⟩) rfl hl.1 rfl (Nat.le_of_ble_eq_true rfl) dX8_lay_102 (fun M18 H locs hq hh => ?_)
        refine lv_iload hx hb dX8_lay_105 (lv_at hl 0 rfl) ?_
        refine lv_istore_n (lv' := [(3, .int r17), (5, .int r17), (0, .ref (Y.2.1 54)), (1, .ref (Y.2.1 28)), (2, .int x2), (4, .int x4)]) hx hb dX8_lay_107 rfl hl (by decide) rfl (fun ls hl => ?_)
        refine lv_iinc (v := (x4 + (1 : Int32))) (lv' := [(4, .int (x4 + (1 : Int32))), (3, .int r17), (5, .int r17), (0, .ref (Y.2.1 54)), (1, .ref (Y.2.1 28)), (2, .int x2)]) hx hb dX8_lay_108 hl (k := 5) rfl (sy_inc (by decide)) (by decide) rfl (fun ls hl => ?_)
        refine lv_goto (tgt := 78) hx hb dX8_lay_111 (by decide) ?_
        exact ih M18 x2 r17 (x4 + (1 : Int32)) _ _ _ hq hh (lv_sub hl [3, 4, 5, 1, 0] rfl)

end
set_option maxHeartbeats 4000000 in
set_option maxRecDepth 100000 in
theorem mX8_lay (l : Launch) (Y : sy_Y) (sz : Nat) (M : sy_M) (Q : sy_M → Prop) (hq : wX8_lay M  Q) : Met l yX8_lay vsX8_lay ({ frames := 3, cells := 0, slots := 0, locals := 79 } : Room) (va_Pc [.ref (Y.2.1 54), .ref (Y.2.1 28)] (sy_pre Y NX EX tfX sz M)) (sy_QV Y NX EX sz Q) 0 0 (sy_A NX Y.2.1 sz) := by
  refine sy_metV (by decide) rfl (Nat.le_of_ble_eq_true rfl) ?_
  intro p e s m args below meth c C ls hl hh
  have hx := C.1.1
  have hb := C.1.2.1
  have hl : lv_has ls 6 [(0, .ref (Y.2.1 54)), (1, .ref (Y.2.1 28))] := hl
  unfold wX8_lay at hq
  refine lv_aload_n hx hb dX8_lay_0 rfl (lv_at hl 1 rfl) ?_
  refine sy_get C hh (fun w h => mc (uX_fX3 w h)) 28 (by decide) (oX_28 Y) rfl 0 (by decide) (index := 28) (mc uX_213) (v := .int (M 28 0)) rfl dX8_lay_1 ?_
  refine lv_istore_n (lv' := [(2, .int (M 28 0)), (0, .ref (Y.2.1 54)), (1, .ref (Y.2.1 28))]) hx hb dX8_lay_4 rfl hl (by decide) rfl (fun ls hl => ?_)
  refine lv_iload_n hx hb dX8_lay_5 rfl (lv_at hl 0 rfl) ?_
  refine lv_iconst (v := (1 : Int32)) hx hb dX8_lay_6 (by decide) ?_
  refine lv_isub hx hb dX8_lay_7 ?_
  refine lv_istore_n (lv' := [(3, .int ((M 28 0) - (1 : Int32))), (2, .int (M 28 0)), (0, .ref (Y.2.1 54)), (1, .ref (Y.2.1 28))]) hx hb dX8_lay_8 rfl hl (by decide) rfl (fun ls hl => ?_)
  obtain ⟨n20, hq⟩ := hq
  refine kX8_lay_9 C (fun M10 x2_11 H locs ls hq hh hl => ?_) n20 M (M 28 0) ((M 28 0) - (1 : Int32)) _ _ _ hq hh (lv_sub hl [2, 3, 1, 0] rfl)
  · refine lv_aload_n hx hb dX8_lay_55 rfl (lv_at hl 0 rfl) ?_
    refine lv_iload_n hx hb dX8_lay_56 rfl (lv_at hl 2 rfl) ?_
    refine sy_cVV C hh (As := [.int x2_11]) (rest := []) 54 (by decide) (oX_54 Y) rfl (mX8_findLeast l Y _ M10 x2_11 _ hq) (cwV 1 C.1.2.2.2.2 (sy_goodV uX_good uX_232 uX_233 uX_234 uX_192 uX_220 _) rfl rfl rfl hdX8_findLeast ⟨Nat.le_of_ble_eq_true rfl, Nat.le_of_ble_eq_true rfl⟩) rfl hl.1 rfl (Nat.le_of_ble_eq_true rfl) dX8_lay_57 (fun M12 H locs hq hh => ?_)
    refine lv_aload_n hx hb dX8_lay_60 rfl (lv_at hl 0 rfl) ?_
    refine lv_iload_n hx hb dX8_lay_61 rfl (lv_at hl 2 rfl) ?_
    refine sy_cVV C hh (As := [.int x2_11]) (rest := []) 54 (by decide) (oX_54 Y) rfl (mX8_findFewest l Y _ M12 x2_11 _ hq) (cwV 1 C.1.2.2.2.2 (sy_goodV uX_good uX_235 uX_236 uX_237 uX_192 uX_223 _) rfl rfl rfl hdX8_findFewest ⟨Nat.le_of_ble_eq_true rfl, Nat.le_of_ble_eq_true rfl⟩) rfl hl.1 rfl (Nat.le_of_ble_eq_true rfl) dX8_lay_62 (fun M13 H locs hq hh => ?_)
    refine lv_aload_n hx hb dX8_lay_65 rfl (lv_at hl 0 rfl) ?_
    refine sy_get C hh (fun w h => mc (uX_fX8 w h)) 54 (by decide) (oX_54 Y) rfl 0 (by decide) (index := 12) (mc uX_180) (v := .ref (Y.2.1 40)) rfl dX8_lay_66 ?_
    refine lv_iconst (v := (0 : Int32)) hx hb dX8_lay_69 (by decide) ?_
    refine sy_put C hh (fun w h => mc (uX_fX5 w h)) tyX5 tyX5_ok nmX5 40 (by decide) (oX_40 Y) rfl 0 (by decide) (index := 45) (mc uX_229) rfl 0 (0 : Int32) (ty := .int) (tyX5_ok 0 (by decide)) rfl rfl (Nat.le_of_ble_eq_true rfl) (pX5_0 Y _ _ _) dX8_lay_70 (fun H locs hh => ?_)
    refine lv_iconst (v := (0 : Int32)) hx hb dX8_lay_73 (by decide) ?_
    refine lv_istore_n (lv' := [(3, .int (0 : Int32)), (0, .ref (Y.2.1 54)), (1, .ref (Y.2.1 28)), (2, .int x2_11)]) hx hb dX8_lay_74 rfl hl (by decide) rfl (fun ls hl => ?_)
    refine lv_iconst (v := (0 : Int32)) hx hb dX8_lay_75 (by decide) ?_
    refine lv_istore (lv' := [(4, .int (0 : Int32)), (3, .int (0 : Int32)), (0, .ref (Y.2.1 54)), (1, .ref (Y.2.1 28)), (2, .int x2_11)]) hx hb dX8_lay_76 hl (by decide) rfl (fun ls hl => ?_)
    obtain ⟨n19, hq⟩ := hq
    refine kX8_lay_78 C  n19 (mu M13 40 0 (0 : Int32)) x2_11 (0 : Int32) (0 : Int32) _ _ _ hq hh (lv_sub hl [2, 3, 4, 1, 0] rfl)

/-! AreaSetter$Layer.layAs(ILAreaSetter$Drawings;)I -/
def wX4_layAs_102 (K_45 : sy_M → Int32 → Int32 → Int32 → Int32 → Prop) (Q : Int32 → sy_M → Prop) (M : sy_M) (x4 : Int32) (x5 : Int32) (x6 : Int32) (x7 : Int32) : Prop := ∃ n9 : Nat, n9 < 3 ∧ x7 = nI n9 ∧ wX4_movesOf M ((33 + 7 * n9) + 1) (fun r11 M10 => ((x6 ≤ ((M (33 + 7 * n9) 0) + (((M 27 0) * r11) / (nI 100))) → K_45 M10 x4 x5 x6 (x7 + (1 : Int32))) ∧ (¬ x6 ≤ ((M (33 + 7 * n9) 0) + (((M 27 0) * r11) / (nI 100))) → K_45 M10 x7 x5 ((M (33 + 7 * n9) 0) + (((M 27 0) * r11) / (nI 100))) (x7 + (1 : Int32)))))
def wX4_layAs_45 (Q : Int32 → sy_M → Prop) : Nat → sy_M → Int32 → Int32 → Int32 → Int32 → Prop
  | 0, _, _, _, _, _ => False
  | n + 1, M, x4, x5, x6, x7 => ((x5 < x7 → Q x4 M) ∧ (¬ x5 < x7 → ((¬ x7 = (1 : Int32) → ((¬ x7 = (nI 2) → ∃ n7 : Nat, n7 < 3 ∧ (0 : Int32) = nI n7 ∧ wX4_laySlice M (33 + 7 * n7) (fun M8 => wX4_layAs_102 (fun (M13 : sy_M) (x4_14 : Int32) (x5_15 : Int32) (x6_16 : Int32) (x7_17 : Int32) => wX4_layAs_45 Q n M13 x4_14 x5_15 x6_16 x7_17) Q M8 x4 x5 x6 x7)) ∧ (x7 = (nI 2) → wX1_lay M (fun M18 => wX4_layAs_102 (fun (M19 : sy_M) (x4_20 : Int32) (x5_21 : Int32) (x6_22 : Int32) (x7_23 : Int32) => wX4_layAs_45 Q n M19 x4_20 x5_21 x6_22 x7_23) Q M18 x4 x5 x6 x7)))) ∧ (x7 = (1 : Int32) → wX8_lay M (fun M24 => wX4_layAs_102 (fun (M25 : sy_M) (x4_26 : Int32) (x5_27 : Int32) (x6_28 : Int32) (x7_29 : Int32) => wX4_layAs_45 Q n M25 x4_26 x5_27 x6_28 x7_29) Q M24 x4 x5 x6 x7)))))
def wX4_layAs_24 (Q : Int32 → sy_M → Prop) (M : sy_M) (x1 : Int32) (x3 : Int32) (s0 : Int32) : Prop := ((x3 = 0 → ∃ n30 : Nat, wX4_layAs_45  Q n30 M s0 x1 (nI 2147483647) s0) ∧ (¬ x3 = 0 → ∃ n31 : Nat, wX4_layAs_45  Q n31 M s0 (nI 2) (nI 2147483647) s0))
def wX4_layAs_14 (Q : Int32 → sy_M → Prop) (M : sy_M) (x1 : Int32) (s0 : Int32) : Prop := ((s0 = 0 → wX4_layAs_24  Q M x1 s0 x1) ∧ (¬ s0 = 0 → wX4_layAs_24  Q M x1 s0 (0 : Int32)))
def wX4_layAs_9 (Q : Int32 → sy_M → Prop) (M : sy_M) (x1 : Int32) : Prop := wX4_layAs_14  Q M x1 (1 : Int32)
def wX4_layAs (M : sy_M) (a1 : Int32) (Q : Int32 → sy_M → Prop) : Prop := ((a1 < 0 → wX4_layAs_9  Q M a1) ∧ (¬ a1 < 0 → ((a1 ≤ (nI 2) → wX4_layAs_14  Q M a1 (0 : Int32)) ∧ (¬ a1 ≤ (nI 2) → wX4_layAs_9  Q M a1))))
section
variable {p : Program} {l : Launch} {e : Env} {s : State} {m : MethodId} {args : Array Value} {below : List Frame} {meth : Method} {c : Code} {Y : sy_Y}
set_option maxHeartbeats 4000000 in
set_option maxRecDepth 100000 in
theorem kX4_layAs_102 (C : sy_C p m c cX4_layAs 9 s args vsX4_layAs RX4 meth (some .int) Y NX tfX) {Q : Int32 → sy_M → Prop} {K_45 : sy_M → Int32 → Int32 → Int32 → Int32 → Prop} (hK_45 : ∀ (M : sy_M) (x4 : Int32) (x5 : Int32) (x6 : Int32) (x7 : Int32) (H : Heap) (locs : List Loc) (ls : Array Slot), K_45 M x4 x5 x6 x7 → sy_H Y NX EX s H locs M → lv_has ls 9 [(0, .ref (Y.2.1 27)), (2, .ref (Y.2.1 9)), (4, .int x4), (5, .int x5), (6, .int x6), (7, .int x7)] → W p l e ({ frames := 38, cells := 0, slots := 0, locals := 1195 } : Room) s m args below meth c H locs 0 0 (sy_ZI below args s Y NX EX Q) (F0 m 45 ls [])) :
    ∀ (M : sy_M) (x4 : Int32) (x5 : Int32) (x6 : Int32) (x7 : Int32) (H : Heap) (locs : List Loc) (ls : Array Slot), wX4_layAs_102 K_45 Q M x4 x5 x6 x7 → sy_H Y NX EX s H locs M → lv_has ls 9 [(0, .ref (Y.2.1 27)), (2, .ref (Y.2.1 9)), (4, .int x4), (5, .int x5), (6, .int x6), (7, .int x7)] → W p l e ({ frames := 38, cells := 0, slots := 0, locals := 1195 } : Room) s m args below meth c H locs 0 0 (sy_ZI below args s Y NX EX Q) (F0 m 102 ls []) := by
  have hx := C.1.1
  have hb := C.1.2.1
  intro M x4 x5 x6 x7 H locs ls hq hh hl
  unfold wX4_layAs_102 at hq
  refine lv_aload_n hx hb dX4_layAs_102 rfl (lv_at hl 0 rfl) ?_
  refine sy_get C hh (fun w h => mc (uX_fX4 w h)) 27 (by decide) (oX_27 Y) rfl 4 (by decide) (index := 44) (mc uX_200) (v := .ref (Y.2.1 32)) rfl dX4_layAs_103 ?_
  refine lv_iload hx hb dX4_layAs_106 (lv_at hl 5 rfl) ?_
  obtain ⟨n9, hn9, en9, hq⟩ := hq
  refine sy_aald C hh 32 (by decide) (aX_32 Y) tX_32 hn9 en9 (by decide) dX4_layAs_108 rfl ?_
  refine sy_get C hh (fun w h => mc (uX_fX5 w h)) (33 + 7 * n9) (iX5_N (iX5_n hn9)) (oX5 (iX5_n hn9)) rfl 0 (by decide) (index := 94) (mc uX_205) (v := .int (M (33 + 7 * n9) 0)) rfl dX4_layAs_109 ?_
  refine lv_aload_n hx hb dX4_layAs_112 rfl (lv_at hl 0 rfl) ?_
  refine sy_get C hh (fun w h => mc (uX_fX4 w h)) 27 (by decide) (oX_27 Y) rfl 0 (by decide) (index := 9) (mc uX_186) (v := .int (M 27 0)) rfl dX4_layAs_113 ?_
  refine lv_aload_n hx hb dX4_layAs_116 rfl (lv_at hl 0 rfl) ?_
  refine lv_aload_n hx hb dX4_layAs_117 rfl (lv_at hl 0 rfl) ?_
  refine sy_get C hh (fun w h => mc (uX_fX4 w h)) 27 (by decide) (oX_27 Y) rfl 4 (by decide) (index := 44) (mc uX_200) (v := .ref (Y.2.1 32)) rfl dX4_layAs_118 ?_
  refine lv_iload hx hb dX4_layAs_121 (lv_at hl 5 rfl) ?_
  refine sy_aald C hh 32 (by decide) (aX_32 Y) tX_32 hn9 en9 (by decide) dX4_layAs_123 rfl ?_
  refine sy_get C hh (fun w h => mc (uX_fX5 w h)) (33 + 7 * n9) (iX5_N (iX5_n hn9)) (oX5 (iX5_n hn9)) rfl 1 (by decide) (index := 73) (mc uX_263) (v := .ref (Y.2.1 ((33 + 7 * n9) + 1))) rfl dX4_layAs_124 ?_
  refine lv_aload_n hx hb dX4_layAs_127 rfl (lv_at hl 1 rfl) ?_
  refine sy_cIV C hh (As := [.ref (Y.2.1 ((33 + 7 * n9) + 1)), .ref (Y.2.1 9)]) (rest := [.int (M 27 0), .int (M (33 + 7 * n9) 0)]) 27 (by decide) (oX_27 Y) rfl (mX4_movesOf l Y _ M ((33 + 7 * n9) + 1) (iX5_iX7 (iX5_n hn9)) _ hq) (cwV 2 C.1.2.2.2.2 (sy_goodV uX_good uX_274 uX_275 uX_276 uX_273 uX_253 _) rfl rfl rfl hdX4_movesOf ⟨Nat.le_of_ble_eq_true rfl, Nat.le_of_ble_eq_true rfl⟩) rfl hl.1 rfl (Nat.le_of_ble_eq_true rfl) dX4_layAs_128 (fun r11 M10 H locs hq hh => ?_)
  refine lv_imul hx hb dX4_layAs_131 ?_
  refine lv_bipush (v := (nI 100)) hx hb dX4_layAs_132 (by decide) ?_
  refine lv_idiv hx hb dX4_layAs_134 (by decide) ?_
  refine lv_iadd hx hb dX4_layAs_135 ?_
  refine lv_istore (lv' := [(8, .int ((M (33 + 7 * n9) 0) + (((M 27 0) * r11) / (nI 100)))), (0, .ref (Y.2.1 27)), (2, .ref (Y.2.1 9)), (4, .int x4), (5, .int x5), (6, .int x6), (7, .int x7)]) hx hb dX4_layAs_136 hl (by decide) rfl (fun ls hl => ?_)
  refine lv_iload hx hb dX4_layAs_138 (lv_at hl 0 rfl) ?_
  refine lv_iload hx hb dX4_layAs_140 (lv_at hl 5 rfl) ?_
  refine lv_icmp_ge (tgt := 153) hx hb dX4_layAs_142 (by decide) (fun c12 => ?_) (fun c12 => ?_)
  · have hq := hq.1 c12
    refine lv_iinc (v := (x7 + (1 : Int32))) (lv' := [(7, .int (x7 + (1 : Int32))), (8, .int ((M (33 + 7 * n9) 0) + (((M 27 0) * r11) / (nI 100)))), (0, .ref (Y.2.1 27)), (2, .ref (Y.2.1 9)), (4, .int x4), (5, .int x5), (6, .int x6)]) hx hb dX4_layAs_153 hl (k := 6) rfl (sy_inc (by decide)) (by decide) rfl (fun ls hl => ?_)
    refine lv_goto (tgt := 45) hx hb dX4_layAs_156 (by decide) ?_
    exact hK_45 M10 x4 x5 x6 (x7 + (1 : Int32)) _ _ _ hq hh (lv_sub hl [2, 3, 4, 5, 6, 0] rfl)
  · have hq := hq.2 c12
    refine lv_iload hx hb dX4_layAs_145 (lv_at hl 0 rfl) ?_
    refine lv_istore (lv' := [(6, .int ((M (33 + 7 * n9) 0) + (((M 27 0) * r11) / (nI 100)))), (8, .int ((M (33 + 7 * n9) 0) + (((M 27 0) * r11) / (nI 100)))), (0, .ref (Y.2.1 27)), (2, .ref (Y.2.1 9)), (4, .int x4), (5, .int x5), (7, .int x7)]) hx hb dX4_layAs_147 hl (by decide) rfl (fun ls hl => ?_)
    refine lv_iload hx hb dX4_layAs_149 (lv_at hl 6 rfl) ?_
    refine lv_istore (lv' := [(4, .int x7), (6, .int ((M (33 + 7 * n9) 0) + (((M 27 0) * r11) / (nI 100)))), (8, .int ((M (33 + 7 * n9) 0) + (((M 27 0) * r11) / (nI 100)))), (0, .ref (Y.2.1 27)), (2, .ref (Y.2.1 9)), (5, .int x5), (7, .int x7)]) hx hb dX4_layAs_151 hl (by decide) rfl (fun ls hl => ?_)
    refine lv_iinc (v := (x7 + (1 : Int32))) (lv' := [(7, .int (x7 + (1 : Int32))), (4, .int x7), (6, .int ((M (33 + 7 * n9) 0) + (((M 27 0) * r11) / (nI 100)))), (8, .int ((M (33 + 7 * n9) 0) + (((M 27 0) * r11) / (nI 100)))), (0, .ref (Y.2.1 27)), (2, .ref (Y.2.1 9)), (5, .int x5)]) hx hb dX4_layAs_153 hl (k := 6) rfl (sy_inc (by decide)) (by decide) rfl (fun ls hl => ?_)
    refine lv_goto (tgt := 45) hx hb dX4_layAs_156 (by decide) ?_
    exact hK_45 M10 x7 x5 ((M (33 + 7 * n9) 0) + (((M 27 0) * r11) / (nI 100))) (x7 + (1 : Int32)) _ _ _ hq hh (lv_sub hl [4, 5, 1, 6, 2, 0] rfl)

set_option maxHeartbeats 4000000 in
set_option maxRecDepth 100000 in
theorem kX4_layAs_45 (C : sy_C p m c cX4_layAs 9 s args vsX4_layAs RX4 meth (some .int) Y NX tfX) {Q : Int32 → sy_M → Prop} :
    ∀ (n : Nat) (M : sy_M) (x4 : Int32) (x5 : Int32) (x6 : Int32) (x7 : Int32) (H : Heap) (locs : List Loc) (ls : Array Slot), wX4_layAs_45 Q n M x4 x5 x6 x7 → sy_H Y NX EX s H locs M → lv_has ls 9 [(0, .ref (Y.2.1 27)), (2, .ref (Y.2.1 9)), (4, .int x4), (5, .int x5), (6, .int x6), (7, .int x7)] → W p l e ({ frames := 38, cells := 0, slots := 0, locals := 1195 } : Room) s m args below meth c H locs 0 0 (sy_ZI below args s Y NX EX Q) (F0 m 45 ls []) := by
  have hx := C.1.1
  have hb := C.1.2.1
  intro n
  induction n with
  | zero =>
    intro M x4 x5 x6 x7 H locs ls hq hh hl
    unfold wX4_layAs_45 at hq
    exact hq.elim
  | succ n ih =>
    intro M x4 x5 x6 x7 H locs ls hq hh hl
    unfold wX4_layAs_45 at hq
    refine lv_iload hx hb dX4_layAs_45 (lv_at hl 5 rfl) ?_
    refine lv_iload hx hb dX4_layAs_47 (lv_at hl 3 rfl) ?_
    refine lv_icmp_gt (tgt := 159) hx hb dX4_layAs_49 (by decide) (fun c4 => ?_) (fun c4 => ?_)
    · have hq := hq.1 c4
      refine lv_iload hx hb dX4_layAs_159 (lv_at hl 2 rfl) ?_
      exact sy_iret C hh dX4_layAs_161 hq
    · have hq := hq.2 c4
      refine lv_iload hx hb dX4_layAs_52 (lv_at hl 5 rfl) ?_
      refine lv_iconst (v := (1 : Int32)) hx hb dX4_layAs_54 (by decide) ?_
      refine lv_icmp_ne (tgt := 72) hx hb dX4_layAs_55 (by decide) (fun c5 => ?_) (fun c5 => ?_)
      · have hq := hq.1 c5
        refine lv_iload hx hb dX4_layAs_72 (lv_at hl 5 rfl) ?_
        refine lv_iconst (v := (nI 2)) hx hb dX4_layAs_74 (by decide) ?_
        refine lv_icmp_ne (tgt := 92) hx hb dX4_layAs_75 (by decide) (fun c6 => ?_) (fun c6 => ?_)
        · have hq := hq.1 c6
          refine lv_aload_n hx hb dX4_layAs_92 rfl (lv_at hl 0 rfl) ?_
          refine lv_aload_n hx hb dX4_layAs_93 rfl (lv_at hl 0 rfl) ?_
          refine sy_get C hh (fun w h => mc (uX_fX4 w h)) 27 (by decide) (oX_27 Y) rfl 4 (by decide) (index := 44) (mc uX_200) (v := .ref (Y.2.1 32)) rfl dX4_layAs_94 ?_
          refine lv_iconst (v := (0 : Int32)) hx hb dX4_layAs_97 (by decide) ?_
          obtain ⟨n7, hn7, en7, hq⟩ := hq
          refine sy_aald C hh 32 (by decide) (aX_32 Y) tX_32 hn7 en7 (by decide) dX4_layAs_98 rfl ?_
          refine sy_cVV C hh (As := [.ref (Y.2.1 (33 + 7 * n7))]) (rest := []) 27 (by decide) (oX_27 Y) rfl (mX4_laySlice l Y _ M (33 + 7 * n7) (iX5_n hn7) _ hq) (cwV 1 C.1.2.2.2.2 (sy_goodV uX_good uX_270 uX_271 uX_272 uX_273 uX_248 _) rfl rfl rfl hdX4_laySlice ⟨Nat.le_of_ble_eq_true rfl, Nat.le_of_ble_eq_true rfl⟩) rfl hl.1 rfl (Nat.le_of_ble_eq_true rfl) dX4_layAs_99 (fun M8 H locs hq hh => ?_)
          refine kX4_layAs_102 C (fun M13 x4_14 x5_15 x6_16 x7_17 H locs ls hq hh hl => ?_) M8 x4 x5 x6 x7 _ _ _ hq hh (lv_sub hl [0, 1, 2, 3, 4, 5] rfl)
          · exact ih M13 x4_14 x5_15 x6_16 x7_17 _ _ _ hq hh (lv_sub hl [0, 1, 2, 3, 4, 5] rfl)
        · have hq := hq.2 c6
          refine lv_aload_n hx hb dX4_layAs_78 rfl (lv_at hl 0 rfl) ?_
          refine sy_get C hh (fun w h => mc (uX_fX4 w h)) 27 (by decide) (oX_27 Y) rfl 3 (by decide) (index := 32) (mc uX_196) (v := .ref (Y.2.1 58)) rfl dX4_layAs_79 ?_
          refine lv_aload_n hx hb dX4_layAs_82 rfl (lv_at hl 0 rfl) ?_
          refine sy_get C hh (fun w h => mc (uX_fX4 w h)) 27 (by decide) (oX_27 Y) rfl 1 (by decide) (index := 18) (mc uX_189) (v := .ref (Y.2.1 28)) rfl dX4_layAs_83 ?_
          refine sy_cVV C hh (As := [.ref (Y.2.1 28)]) (rest := []) 58 (by decide) (oX_58 Y) rfl (mX1_lay l Y _ M  _ hq) (cwV 1 C.1.2.2.2.2 (sy_goodV uX_good uX_267 uX_268 uX_269 uX_73 uX_94 _) rfl rfl rfl hdX1_lay ⟨Nat.le_of_ble_eq_true rfl, Nat.le_of_ble_eq_true rfl⟩) rfl hl.1 rfl (Nat.le_of_ble_eq_true rfl) dX4_layAs_86 (fun M18 H locs hq hh => ?_)
          refine lv_goto (tgt := 102) hx hb dX4_layAs_89 (by decide) ?_
          refine kX4_layAs_102 C (fun M19 x4_20 x5_21 x6_22 x7_23 H locs ls hq hh hl => ?_) M18 x4 x5 x6 x7 _ _ _ hq hh (lv_sub hl [0, 1, 2, 3, 4, 5] rfl)
          · exact ih M19 x4_20 x5_21 x6_22 x7_23 _ _ _ hq hh (lv_sub hl [0, 1, 2, 3, 4, 5] rfl)
      · have hq := hq.2 c5
        refine lv_aload_n hx hb dX4_layAs_58 rfl (lv_at hl 0 rfl) ?_
        refine sy_get C hh (fun w h => mc (uX_fX4 w h)) 27 (by decide) (oX_27 Y) rfl 2 (by decide) (index := 25) (mc uX_193) (v := .ref (Y.2.1 54)) rfl dX4_layAs_59 ?_
        refine lv_aload_n hx hb dX4_layAs_62 rfl (lv_at hl 0 rfl) ?_
        refine sy_get C hh (fun w h => mc (uX_fX4 w h)) 27 (by decide) (oX_27 Y) rfl 1 (by decide) (index := 18) (mc uX_189) (v := .ref (Y.2.1 28)) rfl dX4_layAs_63 ?_
        refine sy_cVV C hh (As := [.ref (Y.2.1 28)]) (rest := []) 54 (by decide) (oX_54 Y) rfl (mX8_lay l Y _ M  _ hq) (cwV 1 C.1.2.2.2.2 (sy_goodV uX_good uX_264 uX_265 uX_266 uX_192 uX_244 _) rfl rfl rfl hdX8_lay ⟨Nat.le_of_ble_eq_true rfl, Nat.le_of_ble_eq_true rfl⟩) rfl hl.1 rfl (Nat.le_of_ble_eq_true rfl) dX4_layAs_66 (fun M24 H locs hq hh => ?_)
        refine lv_goto (tgt := 102) hx hb dX4_layAs_69 (by decide) ?_
        refine kX4_layAs_102 C (fun M25 x4_26 x5_27 x6_28 x7_29 H locs ls hq hh hl => ?_) M24 x4 x5 x6 x7 _ _ _ hq hh (lv_sub hl [0, 1, 2, 3, 4, 5] rfl)
        · exact ih M25 x4_26 x5_27 x6_28 x7_29 _ _ _ hq hh (lv_sub hl [0, 1, 2, 3, 4, 5] rfl)

set_option maxHeartbeats 4000000 in
set_option maxRecDepth 100000 in
theorem kX4_layAs_24 (C : sy_C p m c cX4_layAs 9 s args vsX4_layAs RX4 meth (some .int) Y NX tfX) {Q : Int32 → sy_M → Prop} :
    ∀ (M : sy_M) (x1 : Int32) (x3 : Int32) (s0 : Int32) (H : Heap) (locs : List Loc) (ls : Array Slot), wX4_layAs_24 Q M x1 x3 s0 → sy_H Y NX EX s H locs M → lv_has ls 9 [(0, .ref (Y.2.1 27)), (1, .int x1), (2, .ref (Y.2.1 9)), (3, .int x3)] → W p l e ({ frames := 38, cells := 0, slots := 0, locals := 1195 } : Room) s m args below meth c H locs 0 0 (sy_ZI below args s Y NX EX Q) (F0 m 24 ls [.int s0]) := by
  have hx := C.1.1
  have hb := C.1.2.1
  intro M x1 x3 s0 H locs ls hq hh hl
  unfold wX4_layAs_24 at hq
  refine lv_istore (lv' := [(4, .int s0), (0, .ref (Y.2.1 27)), (1, .int x1), (2, .ref (Y.2.1 9)), (3, .int x3)]) hx hb dX4_layAs_24 hl (by decide) rfl (fun ls hl => ?_)
  refine lv_iload_n hx hb dX4_layAs_26 rfl (lv_at hl 4 rfl) ?_
  refine lv_if_eq (tgt := 34) hx hb dX4_layAs_27 (by decide) (fun c3 => ?_) (fun c3 => ?_)
  · have hq := hq.1 c3
    refine lv_iload_n hx hb dX4_layAs_34 rfl (lv_at hl 2 rfl) ?_
    refine lv_istore (lv' := [(5, .int x1), (4, .int s0), (0, .ref (Y.2.1 27)), (1, .int x1), (2, .ref (Y.2.1 9)), (3, .int x3)]) hx hb dX4_layAs_35 hl (by decide) rfl (fun ls hl => ?_)
    refine lv_ldc (v := (nI 2147483647)) hx hb C.1.2.2.2.1 (C.1.2.2.2.2 (.constant RX4 128 (nI 2147483647)) (mc uX_262)) dX4_layAs_37 ?_
    refine lv_istore (lv' := [(6, .int (nI 2147483647)), (5, .int x1), (4, .int s0), (0, .ref (Y.2.1 27)), (1, .int x1), (2, .ref (Y.2.1 9)), (3, .int x3)]) hx hb dX4_layAs_39 hl (by decide) rfl (fun ls hl => ?_)
    refine lv_iload hx hb dX4_layAs_41 (lv_at hl 2 rfl) ?_
    refine lv_istore (lv' := [(7, .int s0), (6, .int (nI 2147483647)), (5, .int x1), (4, .int s0), (0, .ref (Y.2.1 27)), (1, .int x1), (2, .ref (Y.2.1 9)), (3, .int x3)]) hx hb dX4_layAs_43 hl (by decide) rfl (fun ls hl => ?_)
    obtain ⟨n30, hq⟩ := hq
    refine kX4_layAs_45 C  n30 M s0 x1 (nI 2147483647) s0 _ _ _ hq hh (lv_sub hl [4, 6, 3, 2, 1, 0] rfl)
  · have hq := hq.2 c3
    refine lv_iconst (v := (nI 2)) hx hb dX4_layAs_30 (by decide) ?_
    refine lv_goto (tgt := 35) hx hb dX4_layAs_31 (by decide) ?_
    refine lv_istore (lv' := [(5, .int (nI 2)), (4, .int s0), (0, .ref (Y.2.1 27)), (1, .int x1), (2, .ref (Y.2.1 9)), (3, .int x3)]) hx hb dX4_layAs_35 hl (by decide) rfl (fun ls hl => ?_)
    refine lv_ldc (v := (nI 2147483647)) hx hb C.1.2.2.2.1 (C.1.2.2.2.2 (.constant RX4 128 (nI 2147483647)) (mc uX_262)) dX4_layAs_37 ?_
    refine lv_istore (lv' := [(6, .int (nI 2147483647)), (5, .int (nI 2)), (4, .int s0), (0, .ref (Y.2.1 27)), (1, .int x1), (2, .ref (Y.2.1 9)), (3, .int x3)]) hx hb dX4_layAs_39 hl (by decide) rfl (fun ls hl => ?_)
    refine lv_iload hx hb dX4_layAs_41 (lv_at hl 2 rfl) ?_
    refine lv_istore (lv' := [(7, .int s0), (6, .int (nI 2147483647)), (5, .int (nI 2)), (4, .int s0), (0, .ref (Y.2.1 27)), (1, .int x1), (2, .ref (Y.2.1 9)), (3, .int x3)]) hx hb dX4_layAs_43 hl (by decide) rfl (fun ls hl => ?_)
    obtain ⟨n31, hq⟩ := hq
    refine kX4_layAs_45 C  n31 M s0 (nI 2) (nI 2147483647) s0 _ _ _ hq hh (lv_sub hl [4, 6, 3, 2, 1, 0] rfl)

set_option maxHeartbeats 4000000 in
set_option maxRecDepth 100000 in
theorem kX4_layAs_14 (C : sy_C p m c cX4_layAs 9 s args vsX4_layAs RX4 meth (some .int) Y NX tfX) {Q : Int32 → sy_M → Prop} :
    ∀ (M : sy_M) (x1 : Int32) (s0 : Int32) (H : Heap) (locs : List Loc) (ls : Array Slot), wX4_layAs_14 Q M x1 s0 → sy_H Y NX EX s H locs M → lv_has ls 9 [(0, .ref (Y.2.1 27)), (1, .int x1), (2, .ref (Y.2.1 9))] → W p l e ({ frames := 38, cells := 0, slots := 0, locals := 1195 } : Room) s m args below meth c H locs 0 0 (sy_ZI below args s Y NX EX Q) (F0 m 14 ls [.int s0]) := by
  have hx := C.1.1
  have hb := C.1.2.1
  intro M x1 s0 H locs ls hq hh hl
  unfold wX4_layAs_14 at hq
  refine lv_istore_n (lv' := [(3, .int s0), (0, .ref (Y.2.1 27)), (1, .int x1), (2, .ref (Y.2.1 9))]) hx hb dX4_layAs_14 rfl hl (by decide) rfl (fun ls hl => ?_)
  refine lv_iload_n hx hb dX4_layAs_15 rfl (lv_at hl 0 rfl) ?_
  refine lv_if_eq (tgt := 23) hx hb dX4_layAs_16 (by decide) (fun c2 => ?_) (fun c2 => ?_)
  · have hq := hq.1 c2
    refine lv_iload_n hx hb dX4_layAs_23 rfl (lv_at hl 2 rfl) ?_
    refine kX4_layAs_24 C  M x1 s0 x1 _ _ _ hq hh (lv_sub hl [1, 2, 3, 0] rfl)
  · have hq := hq.2 c2
    refine lv_iconst (v := (0 : Int32)) hx hb dX4_layAs_19 (by decide) ?_
    refine lv_goto (tgt := 24) hx hb dX4_layAs_20 (by decide) ?_
    refine kX4_layAs_24 C  M x1 s0 (0 : Int32) _ _ _ hq hh (lv_sub hl [1, 2, 3, 0] rfl)

set_option maxHeartbeats 4000000 in
set_option maxRecDepth 100000 in
theorem kX4_layAs_9 (C : sy_C p m c cX4_layAs 9 s args vsX4_layAs RX4 meth (some .int) Y NX tfX) {Q : Int32 → sy_M → Prop} :
    ∀ (M : sy_M) (x1 : Int32) (H : Heap) (locs : List Loc) (ls : Array Slot), wX4_layAs_9 Q M x1 → sy_H Y NX EX s H locs M → lv_has ls 9 [(0, .ref (Y.2.1 27)), (1, .int x1), (2, .ref (Y.2.1 9))] → W p l e ({ frames := 38, cells := 0, slots := 0, locals := 1195 } : Room) s m args below meth c H locs 0 0 (sy_ZI below args s Y NX EX Q) (F0 m 9 ls []) := by
  have hx := C.1.1
  have hb := C.1.2.1
  intro M x1 H locs ls hq hh hl
  unfold wX4_layAs_9 at hq
  refine lv_iconst (v := (1 : Int32)) hx hb dX4_layAs_9 (by decide) ?_
  refine lv_goto (tgt := 14) hx hb dX4_layAs_10 (by decide) ?_
  refine kX4_layAs_14 C  M x1 (1 : Int32) _ _ _ hq hh (lv_sub hl [0, 1, 2] rfl)

end
set_option maxHeartbeats 4000000 in
set_option maxRecDepth 100000 in
theorem mX4_layAs (l : Launch) (Y : sy_Y) (sz : Nat) (M : sy_M) (a1 : Int32) (Q : Int32 → sy_M → Prop) (hq : wX4_layAs M a1 Q) : Met l yX4_layAs vsX4_layAs ({ frames := 38, cells := 0, slots := 0, locals := 1195 } : Room) (va_Pc [.ref (Y.2.1 27), .int a1, .ref (Y.2.1 9)] (sy_pre Y NX EX tfX sz M)) (sy_QI Y NX EX sz Q) 0 0 (sy_A NX Y.2.1 sz) := by
  refine sy_metI (by decide) rfl (Nat.le_of_ble_eq_true rfl) ?_
  intro p e s m args below meth c C ls hl hh
  have hx := C.1.1
  have hb := C.1.2.1
  have hl : lv_has ls 9 [(0, .ref (Y.2.1 27)), (1, .int a1), (2, .ref (Y.2.1 9))] := hl
  unfold wX4_layAs at hq
  refine lv_iload_n hx hb dX4_layAs_0 rfl (lv_at hl 1 rfl) ?_
  refine lv_if_lt (tgt := 9) hx hb dX4_layAs_1 (by decide) (fun c1 => ?_) (fun c1 => ?_)
  · have hq := hq.1 c1
    refine kX4_layAs_9 C  M a1 _ _ _ hq hh (lv_sub hl [0, 1, 2] rfl)
  · have hq := hq.2 c1
    refine lv_iload_n hx hb dX4_layAs_4 rfl (lv_at hl 1 rfl) ?_
    refine lv_iconst (v := (nI 2)) hx hb dX4_layAs_5 (by decide) ?_
    refine lv_icmp_le (tgt := 13) hx hb dX4_layAs_6 (by decide) (fun c32 => ?_) (fun c32 => ?_)
    · have hq := hq.1 c32
      refine lv_iconst (v := (0 : Int32)) hx hb dX4_layAs_13 (by decide) ?_
      refine kX4_layAs_14 C  M a1 (0 : Int32) _ _ _ hq hh (lv_sub hl [0, 1, 2] rfl)
    · have hq := hq.2 c32
      refine kX4_layAs_9 C  M a1 _ _ _ hq hh (lv_sub hl [0, 1, 2] rfl)

