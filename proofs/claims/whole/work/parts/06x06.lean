/-! AreaSetter$Rectangles.distance(ILAreaSetter$Rectangles;I)I -/
def wX7_distance (M : sy_M) (p0 : Nat) (a1 : Int32) (p2 : Nat) (a3 : Int32) (Q : Int32 → sy_M → Prop) : Prop := ∃ n1 : Nat, n1 < (lX7 p0) ∧ a1 = nI n1 ∧ ∃ n2 : Nat, n2 < (lX7 p0) ∧ a1 = nI n2 ∧ ∃ n3 : Nat, n3 < (lX7 p2) ∧ a3 = nI n3 ∧ ∃ n4 : Nat, n4 < (lX7 p2) ∧ a3 = nI n4 ∧ ∃ n5 : Nat, n5 < (lX7 p0) ∧ a1 = nI n5 ∧ ∃ n6 : Nat, n6 < (lX7 p0) ∧ a1 = nI n6 ∧ ∃ n7 : Nat, n7 < (lX7 p2) ∧ a3 = nI n7 ∧ ∃ n8 : Nat, n8 < (lX7 p2) ∧ a3 = nI n8 ∧ ∃ n9 : Nat, n9 < (lX7 p0) ∧ a1 = nI n9 ∧ ∃ n10 : Nat, n10 < (lX7 p2) ∧ a3 = nI n10 ∧ ∃ n11 : Nat, n11 < (lX7 p0) ∧ a1 = nI n11 ∧ ∃ n12 : Nat, n12 < (lX7 p2) ∧ a3 = nI n12 ∧ Q ((((iabs ((M (p0 + 1) n9) - (M (p2 + 1) n10))) + (iabs ((M (p0 + 2) n11) - (M (p2 + 2) n12)))) + (iabs ((((M (p0 + 1) n1) + (M (p0 + 3) n2)) - (M (p2 + 1) n3)) - (M (p2 + 3) n4)))) + (iabs ((((M (p0 + 2) n5) + (M (p0 + 4) n6)) - (M (p2 + 2) n7)) - (M (p2 + 4) n8)))) M
section
variable {p : Program} {l : Launch} {e : Env} {s : State} {m : MethodId} {args : Array Value} {below : List Frame} {meth : Method} {c : Code} {Y : sy_Y}
end
set_option maxHeartbeats 4000000 in
set_option maxRecDepth 100000 in
theorem mX7_distance (l : Launch) (Y : sy_Y) (sz : Nat) (M : sy_M) (p0 : Nat) (hp0 : iX7 p0) (a1 : Int32) (p2 : Nat) (hp2 : iX7 p2) (a3 : Int32) (Q : Int32 → sy_M → Prop) (hq : wX7_distance M p0 a1 p2 a3 Q) : Met l yX7_distance vsX7_distance ({ frames := 1, cells := 0, slots := 0, locals := 21 } : Room) (va_Pc [.ref (Y.2.1 p0), .int a1, .ref (Y.2.1 p2), .int a3] (sy_pre Y NX EX tfX sz M)) (sy_QI Y NX EX sz Q) 0 0 (sy_A NX Y.2.1 sz) := by
  refine sy_metI (by decide) rfl (Nat.le_of_ble_eq_true rfl) ?_
  intro p e s m args below meth c C ls hl hh
  have hx := C.1.1
  have hb := C.1.2.1
  have hl : lv_has ls 6 [(0, .ref (Y.2.1 p0)), (1, .int a1), (2, .ref (Y.2.1 p2)), (3, .int a3)] := hl
  unfold wX7_distance at hq
  refine lv_aload_n hx hb dX7_distance_0 rfl (lv_at hl 0 rfl) ?_
  refine sy_get C hh (fun w h => mc (uX_fX7 w h)) p0 (iX7_N hp0) (oX7 hp0) rfl 0 (by decide) (index := 15) (mc uX_24) (v := .ref (Y.2.1 (p0 + 1))) rfl dX7_distance_1 ?_
  refine lv_iload_n hx hb dX7_distance_4 rfl (lv_at hl 1 rfl) ?_
  obtain ⟨n1, hn1, en1, hq⟩ := hq
  refine sy_iald C hh (p0 + 1) (iX7_N1 hp0) (aX7_1 hp0) (tX7_1 hp0) hn1 en1 (lX7_lt _) dX7_distance_5 ?_
  refine lv_aload_n hx hb dX7_distance_6 rfl (lv_at hl 0 rfl) ?_
  refine sy_get C hh (fun w h => mc (uX_fX7 w h)) p0 (iX7_N hp0) (oX7 hp0) rfl 2 (by decide) (index := 24) (mc uX_26) (v := .ref (Y.2.1 (p0 + 3))) rfl dX7_distance_7 ?_
  refine lv_iload_n hx hb dX7_distance_10 rfl (lv_at hl 1 rfl) ?_
  obtain ⟨n2, hn2, en2, hq⟩ := hq
  refine sy_iald C hh (p0 + 3) (iX7_N3 hp0) (aX7_3 hp0) (tX7_3 hp0) hn2 en2 (lX7_lt _) dX7_distance_11 ?_
  refine lv_iadd hx hb dX7_distance_12 ?_
  refine lv_aload_n hx hb dX7_distance_13 rfl (lv_at hl 2 rfl) ?_
  refine sy_get C hh (fun w h => mc (uX_fX7 w h)) p2 (iX7_N hp2) (oX7 hp2) rfl 0 (by decide) (index := 15) (mc uX_24) (v := .ref (Y.2.1 (p2 + 1))) rfl dX7_distance_14 ?_
  refine lv_iload_n hx hb dX7_distance_17 rfl (lv_at hl 3 rfl) ?_
  obtain ⟨n3, hn3, en3, hq⟩ := hq
  refine sy_iald C hh (p2 + 1) (iX7_N1 hp2) (aX7_1 hp2) (tX7_1 hp2) hn3 en3 (lX7_lt _) dX7_distance_18 ?_
  refine lv_isub hx hb dX7_distance_19 ?_
  refine lv_aload_n hx hb dX7_distance_20 rfl (lv_at hl 2 rfl) ?_
  refine sy_get C hh (fun w h => mc (uX_fX7 w h)) p2 (iX7_N hp2) (oX7 hp2) rfl 2 (by decide) (index := 24) (mc uX_26) (v := .ref (Y.2.1 (p2 + 3))) rfl dX7_distance_21 ?_
  refine lv_iload_n hx hb dX7_distance_24 rfl (lv_at hl 3 rfl) ?_
  obtain ⟨n4, hn4, en4, hq⟩ := hq
  refine sy_iald C hh (p2 + 3) (iX7_N3 hp2) (aX7_3 hp2) (tX7_3 hp2) hn4 en4 (lX7_lt _) dX7_distance_25 ?_
  refine lv_isub hx hb dX7_distance_26 ?_
  refine lv_istore (lv' := [(4, .int ((((M (p0 + 1) n1) + (M (p0 + 3) n2)) - (M (p2 + 1) n3)) - (M (p2 + 3) n4))), (0, .ref (Y.2.1 p0)), (1, .int a1), (2, .ref (Y.2.1 p2)), (3, .int a3)]) hx hb dX7_distance_27 hl (by decide) rfl (fun ls hl => ?_)
  refine lv_aload_n hx hb dX7_distance_29 rfl (lv_at hl 1 rfl) ?_
  refine sy_get C hh (fun w h => mc (uX_fX7 w h)) p0 (iX7_N hp0) (oX7 hp0) rfl 1 (by decide) (index := 21) (mc uX_25) (v := .ref (Y.2.1 (p0 + 2))) rfl dX7_distance_30 ?_
  refine lv_iload_n hx hb dX7_distance_33 rfl (lv_at hl 2 rfl) ?_
  obtain ⟨n5, hn5, en5, hq⟩ := hq
  refine sy_iald C hh (p0 + 2) (iX7_N2 hp0) (aX7_2 hp0) (tX7_2 hp0) hn5 en5 (lX7_lt _) dX7_distance_34 ?_
  refine lv_aload_n hx hb dX7_distance_35 rfl (lv_at hl 1 rfl) ?_
  refine sy_get C hh (fun w h => mc (uX_fX7 w h)) p0 (iX7_N hp0) (oX7 hp0) rfl 3 (by decide) (index := 27) (mc uX_27) (v := .ref (Y.2.1 (p0 + 4))) rfl dX7_distance_36 ?_
  refine lv_iload_n hx hb dX7_distance_39 rfl (lv_at hl 2 rfl) ?_
  obtain ⟨n6, hn6, en6, hq⟩ := hq
  refine sy_iald C hh (p0 + 4) (iX7_N4 hp0) (aX7_4 hp0) (tX7_4 hp0) hn6 en6 (lX7_lt _) dX7_distance_40 ?_
  refine lv_iadd hx hb dX7_distance_41 ?_
  refine lv_aload_n hx hb dX7_distance_42 rfl (lv_at hl 3 rfl) ?_
  refine sy_get C hh (fun w h => mc (uX_fX7 w h)) p2 (iX7_N hp2) (oX7 hp2) rfl 1 (by decide) (index := 21) (mc uX_25) (v := .ref (Y.2.1 (p2 + 2))) rfl dX7_distance_43 ?_
  refine lv_iload_n hx hb dX7_distance_46 rfl (lv_at hl 4 rfl) ?_
  obtain ⟨n7, hn7, en7, hq⟩ := hq
  refine sy_iald C hh (p2 + 2) (iX7_N2 hp2) (aX7_2 hp2) (tX7_2 hp2) hn7 en7 (lX7_lt _) dX7_distance_47 ?_
  refine lv_isub hx hb dX7_distance_48 ?_
  refine lv_aload_n hx hb dX7_distance_49 rfl (lv_at hl 3 rfl) ?_
  refine sy_get C hh (fun w h => mc (uX_fX7 w h)) p2 (iX7_N hp2) (oX7 hp2) rfl 3 (by decide) (index := 27) (mc uX_27) (v := .ref (Y.2.1 (p2 + 4))) rfl dX7_distance_50 ?_
  refine lv_iload_n hx hb dX7_distance_53 rfl (lv_at hl 4 rfl) ?_
  obtain ⟨n8, hn8, en8, hq⟩ := hq
  refine sy_iald C hh (p2 + 4) (iX7_N4 hp2) (aX7_4 hp2) (tX7_4 hp2) hn8 en8 (lX7_lt _) dX7_distance_54 ?_
  refine lv_isub hx hb dX7_distance_55 ?_
  refine lv_istore (lv' := [(5, .int ((((M (p0 + 2) n5) + (M (p0 + 4) n6)) - (M (p2 + 2) n7)) - (M (p2 + 4) n8))), (4, .int ((((M (p0 + 1) n1) + (M (p0 + 3) n2)) - (M (p2 + 1) n3)) - (M (p2 + 3) n4))), (0, .ref (Y.2.1 p0)), (1, .int a1), (2, .ref (Y.2.1 p2)), (3, .int a3)]) hx hb dX7_distance_56 hl (by decide) rfl (fun ls hl => ?_)
  refine lv_aload_n hx hb dX7_distance_58 rfl (lv_at hl 2 rfl) ?_
  refine sy_get C hh (fun w h => mc (uX_fX7 w h)) p0 (iX7_N hp0) (oX7 hp0) rfl 0 (by decide) (index := 15) (mc uX_24) (v := .ref (Y.2.1 (p0 + 1))) rfl dX7_distance_59 ?_
  refine lv_iload_n hx hb dX7_distance_62 rfl (lv_at hl 3 rfl) ?_
  obtain ⟨n9, hn9, en9, hq⟩ := hq
  refine sy_iald C hh (p0 + 1) (iX7_N1 hp0) (aX7_1 hp0) (tX7_1 hp0) hn9 en9 (lX7_lt _) dX7_distance_63 ?_
  refine lv_aload_n hx hb dX7_distance_64 rfl (lv_at hl 4 rfl) ?_
  refine sy_get C hh (fun w h => mc (uX_fX7 w h)) p2 (iX7_N hp2) (oX7 hp2) rfl 0 (by decide) (index := 15) (mc uX_24) (v := .ref (Y.2.1 (p2 + 1))) rfl dX7_distance_65 ?_
  refine lv_iload_n hx hb dX7_distance_68 rfl (lv_at hl 5 rfl) ?_
  obtain ⟨n10, hn10, en10, hq⟩ := hq
  refine sy_iald C hh (p2 + 1) (iX7_N1 hp2) (aX7_1 hp2) (tX7_1 hp2) hn10 en10 (lX7_lt _) dX7_distance_69 ?_
  refine lv_isub hx hb dX7_distance_70 ?_
  refine sy_mabs C hl (index := 37) (mc uX_249) (mc uX_250) (mc uX_31) (mc uX_251) (by decide) (Nat.le_of_ble_eq_true rfl) dX7_distance_71 ?_
  refine lv_aload_n hx hb dX7_distance_74 rfl (lv_at hl 2 rfl) ?_
  refine sy_get C hh (fun w h => mc (uX_fX7 w h)) p0 (iX7_N hp0) (oX7 hp0) rfl 1 (by decide) (index := 21) (mc uX_25) (v := .ref (Y.2.1 (p0 + 2))) rfl dX7_distance_75 ?_
  refine lv_iload_n hx hb dX7_distance_78 rfl (lv_at hl 3 rfl) ?_
  obtain ⟨n11, hn11, en11, hq⟩ := hq
  refine sy_iald C hh (p0 + 2) (iX7_N2 hp0) (aX7_2 hp0) (tX7_2 hp0) hn11 en11 (lX7_lt _) dX7_distance_79 ?_
  refine lv_aload_n hx hb dX7_distance_80 rfl (lv_at hl 4 rfl) ?_
  refine sy_get C hh (fun w h => mc (uX_fX7 w h)) p2 (iX7_N hp2) (oX7 hp2) rfl 1 (by decide) (index := 21) (mc uX_25) (v := .ref (Y.2.1 (p2 + 2))) rfl dX7_distance_81 ?_
  refine lv_iload_n hx hb dX7_distance_84 rfl (lv_at hl 5 rfl) ?_
  obtain ⟨n12, hn12, en12, hq⟩ := hq
  refine sy_iald C hh (p2 + 2) (iX7_N2 hp2) (aX7_2 hp2) (tX7_2 hp2) hn12 en12 (lX7_lt _) dX7_distance_85 ?_
  refine lv_isub hx hb dX7_distance_86 ?_
  refine sy_mabs C hl (index := 37) (mc uX_249) (mc uX_250) (mc uX_31) (mc uX_251) (by decide) (Nat.le_of_ble_eq_true rfl) dX7_distance_87 ?_
  refine lv_iadd hx hb dX7_distance_90 ?_
  refine lv_iload hx hb dX7_distance_91 (lv_at hl 1 rfl) ?_
  refine sy_mabs C hl (index := 37) (mc uX_249) (mc uX_250) (mc uX_31) (mc uX_251) (by decide) (Nat.le_of_ble_eq_true rfl) dX7_distance_93 ?_
  refine lv_iadd hx hb dX7_distance_96 ?_
  refine lv_iload hx hb dX7_distance_97 (lv_at hl 0 rfl) ?_
  refine sy_mabs C hl (index := 37) (mc uX_249) (mc uX_250) (mc uX_31) (mc uX_251) (by decide) (Nat.le_of_ble_eq_true rfl) dX7_distance_99 ?_
  refine lv_iadd hx hb dX7_distance_102 ?_
  exact sy_iret C hh dX7_distance_103 hq

/-! AreaSetter$Layer.movesOf(LAreaSetter$Rectangles;LAreaSetter$Drawings;)I -/
def wX4_movesOf_5 (Q : Int32 → sy_M → Prop) : Nat → sy_M → Nat → Int32 → Int32 → Prop
  | 0, _, _, _, _ => False
  | n + 1, M, x1, x3, x4 => (((M 28 0) ≤ x4 → Q x3 M) ∧ (¬ (M 28 0) ≤ x4 → (((M 9 0) ≤ (1 : Int32) → Q x3 M) ∧ (¬ (M 9 0) ≤ (1 : Int32) → ∃ n3 : Nat, n3 < 8 ∧ x4 = nI n3 ∧ ((¬ (M 29 n3) = (-1 : Int32) → ∃ n5 : Nat, n5 < 8 ∧ x4 = nI n5 ∧ wX2_cell M ((M 9 0) - (nI 2)) (M 29 n5) (fun r7 M6 => ∃ n8 : Nat, n8 < 2000 ∧ r7 = nI n8 ∧ (((M6 17 n8) = 0 → wX4_movesOf_5 Q n M6 x1 x3 (x4 + (1 : Int32))) ∧ (¬ (M6 17 n8) = 0 → wX7_distance M6 x1 x4 11 r7 (fun r11 M10 => wX4_movesOf_5 Q n M10 x1 (x3 + r11) (x4 + (1 : Int32))))))) ∧ ((M 29 n3) = (-1 : Int32) → wX4_movesOf_5 Q n M x1 x3 (x4 + (1 : Int32))))))))
def wX4_movesOf (M : sy_M) (p1 : Nat) (Q : Int32 → sy_M → Prop) : Prop := ∃ n12 : Nat, wX4_movesOf_5  Q n12 M p1 (0 : Int32) (0 : Int32)
section
variable {p : Program} {l : Launch} {e : Env} {s : State} {m : MethodId} {args : Array Value} {below : List Frame} {meth : Method} {c : Code} {Y : sy_Y}
set_option maxHeartbeats 4000000 in
set_option maxRecDepth 100000 in
theorem kX4_movesOf_5 (C : sy_C p m c cX4_movesOf 6 s args vsX4_movesOf RX4 meth (some .int) Y NX tfX) {Q : Int32 → sy_M → Prop} :
    ∀ (n : Nat) (M : sy_M) (x1 : Nat) (x3 : Int32) (x4 : Int32) (hx1 : iX7 x1) (H : Heap) (locs : List Loc) (ls : Array Slot), wX4_movesOf_5 Q n M x1 x3 x4 → sy_H Y NX EX s H locs M → lv_has ls 6 [(0, .ref (Y.2.1 27)), (1, .ref (Y.2.1 x1)), (2, .ref (Y.2.1 9)), (3, .int x3), (4, .int x4)] → W p l e ({ frames := 2, cells := 0, slots := 0, locals := 46 } : Room) s m args below meth c H locs 0 0 (sy_ZI below args s Y NX EX Q) (F0 m 5 ls []) := by
  have hx := C.1.1
  have hb := C.1.2.1
  intro n
  induction n with
  | zero =>
    intro M x1 x3 x4 hx1 H locs ls hq hh hl
    unfold wX4_movesOf_5 at hq
    exact hq.elim
  | succ n ih =>
    intro M x1 x3 x4 hx1 H locs ls hq hh hl
    unfold wX4_movesOf_5 at hq
    refine lv_iload hx hb dX4_movesOf_5 (lv_at hl 4 rfl) ?_
    refine lv_aload_n hx hb dX4_movesOf_7 rfl (lv_at hl 0 rfl) ?_
    refine sy_get C hh (fun w h => mc (uX_fX4 w h)) 27 (by decide) (oX_27 Y) rfl 1 (by decide) (index := 18) (mc uX_189) (v := .ref (Y.2.1 28)) rfl dX4_movesOf_8 ?_
    refine sy_get C hh (fun w h => mc (uX_fX3 w h)) 28 (by decide) (oX_28 Y) rfl 0 (by decide) (index := 47) (mc uX_206) (v := .int (M 28 0)) rfl dX4_movesOf_11 ?_
    refine lv_icmp_ge (tgt := 95) hx hb dX4_movesOf_14 (by decide) (fun c1 => ?_) (fun c1 => ?_)
    · have hq := hq.1 c1
      refine lv_iload_n hx hb dX4_movesOf_95 rfl (lv_at hl 3 rfl) ?_
      exact sy_iret C hh dX4_movesOf_96 hq
    · have hq := hq.2 c1
      refine lv_aload_n hx hb dX4_movesOf_17 rfl (lv_at hl 2 rfl) ?_
      refine sy_get C hh (fun w h => mc (uX_fX2 w h)) 9 (by decide) (oX_9 Y) rfl 0 (by decide) (index := 136) (mc uX_253) (v := .int (M 9 0)) rfl dX4_movesOf_18 ?_
      refine lv_iconst (v := (1 : Int32)) hx hb dX4_movesOf_21 (by decide) ?_
      refine lv_icmp_le (tgt := 95) hx hb dX4_movesOf_22 (by decide) (fun c2 => ?_) (fun c2 => ?_)
      · have hq := hq.1 c2
        refine lv_iload_n hx hb dX4_movesOf_95 rfl (lv_at hl 3 rfl) ?_
        exact sy_iret C hh dX4_movesOf_96 hq
      · have hq := hq.2 c2
        refine lv_aload_n hx hb dX4_movesOf_25 rfl (lv_at hl 0 rfl) ?_
        refine sy_get C hh (fun w h => mc (uX_fX4 w h)) 27 (by decide) (oX_27 Y) rfl 1 (by decide) (index := 18) (mc uX_189) (v := .ref (Y.2.1 28)) rfl dX4_movesOf_26 ?_
        refine sy_get C hh (fun w h => mc (uX_fX3 w h)) 28 (by decide) (oX_28 Y) rfl 2 (by decide) (index := 91) (mc uX_254) (v := .ref (Y.2.1 29)) rfl dX4_movesOf_29 ?_
        refine lv_iload hx hb dX4_movesOf_32 (lv_at hl 4 rfl) ?_
        obtain ⟨n3, hn3, en3, hq⟩ := hq
        refine sy_iald C hh 29 (by decide) (aX_29 Y) tX_29 hn3 en3 (by decide) dX4_movesOf_34 ?_
        refine lv_iconst (v := (-1 : Int32)) hx hb dX4_movesOf_35 (by decide) ?_
        refine lv_icmp_ne (tgt := 42) hx hb dX4_movesOf_36 (by decide) (fun c4 => ?_) (fun c4 => ?_)
        · have hq := hq.1 c4
          refine lv_aload_n hx hb dX4_movesOf_42 rfl (lv_at hl 2 rfl) ?_
          refine lv_aload_n hx hb dX4_movesOf_43 rfl (lv_at hl 2 rfl) ?_
          refine sy_get C hh (fun w h => mc (uX_fX2 w h)) 9 (by decide) (oX_9 Y) rfl 0 (by decide) (index := 136) (mc uX_253) (v := .int (M 9 0)) rfl dX4_movesOf_44 ?_
          refine lv_iconst (v := (nI 2)) hx hb dX4_movesOf_47 (by decide) ?_
          refine lv_isub hx hb dX4_movesOf_48 ?_
          refine lv_aload_n hx hb dX4_movesOf_49 rfl (lv_at hl 0 rfl) ?_
          refine sy_get C hh (fun w h => mc (uX_fX4 w h)) 27 (by decide) (oX_27 Y) rfl 1 (by decide) (index := 18) (mc uX_189) (v := .ref (Y.2.1 28)) rfl dX4_movesOf_50 ?_
          refine sy_get C hh (fun w h => mc (uX_fX3 w h)) 28 (by decide) (oX_28 Y) rfl 2 (by decide) (index := 91) (mc uX_254) (v := .ref (Y.2.1 29)) rfl dX4_movesOf_53 ?_
          refine lv_iload hx hb dX4_movesOf_56 (lv_at hl 4 rfl) ?_
          obtain ⟨n5, hn5, en5, hq⟩ := hq
          refine sy_iald C hh 29 (by decide) (aX_29 Y) tX_29 hn5 en5 (by decide) dX4_movesOf_58 ?_
          refine sy_cIV C hh (As := [.int ((M 9 0) - (nI 2)), .int (M 29 n5)]) (rest := []) 9 (by decide) (oX_9 Y) rfl (mX2_cell l Y _ M ((M 9 0) - (nI 2)) (M 29 n5) _ hq) (cwV 2 C.1.2.2.2.2 (sy_goodV uX_good uX_257 uX_110 uX_111 uX_112 uX_107 _) rfl rfl rfl hdX2_cell ⟨Nat.le_of_ble_eq_true rfl, Nat.le_of_ble_eq_true rfl⟩) rfl hl.1 rfl (Nat.le_of_ble_eq_true rfl) dX4_movesOf_59 (fun r7 M6 H locs hq hh => ?_)
          refine lv_istore (lv' := [(5, .int r7), (0, .ref (Y.2.1 27)), (1, .ref (Y.2.1 x1)), (2, .ref (Y.2.1 9)), (3, .int x3), (4, .int x4)]) hx hb dX4_movesOf_62 hl (by decide) rfl (fun ls hl => ?_)
          refine lv_aload_n hx hb dX4_movesOf_64 rfl (lv_at hl 3 rfl) ?_
          refine sy_get C hh (fun w h => mc (uX_fX2 w h)) 9 (by decide) (oX_9 Y) rfl 3 (by decide) (index := 142) (mc uX_255) (v := .ref (Y.2.1 17)) rfl dX4_movesOf_65 ?_
          refine lv_iload hx hb dX4_movesOf_68 (lv_at hl 0 rfl) ?_
          obtain ⟨n8, hn8, en8, hq⟩ := hq
          refine sy_zald C hh 17 (by decide) (aX_17 Y) tX_17 hn8 en8 (by decide) dX4_movesOf_70 ?_
          refine lv_if_eq (tgt := 89) hx hb dX4_movesOf_71 (by decide) (fun c9 => ?_) (fun c9 => ?_)
          · have hq := hq.1 c9
            refine lv_iinc (v := (x4 + (1 : Int32))) (lv' := [(4, .int (x4 + (1 : Int32))), (5, .int r7), (0, .ref (Y.2.1 27)), (1, .ref (Y.2.1 x1)), (2, .ref (Y.2.1 9)), (3, .int x3)]) hx hb dX4_movesOf_89 hl (k := 5) rfl (sy_inc (by decide)) (by decide) rfl (fun ls hl => ?_)
            refine lv_goto (tgt := 5) hx hb dX4_movesOf_92 (by decide) ?_
            exact ih M6 x1 x3 (x4 + (1 : Int32)) hx1 _ _ _ hq hh (lv_sub hl [2, 3, 4, 5, 0] rfl)
          · have hq := hq.2 c9
            refine lv_iload_n hx hb dX4_movesOf_74 rfl (lv_at hl 4 rfl) ?_
            refine lv_aload_n hx hb dX4_movesOf_75 rfl (lv_at hl 2 rfl) ?_
            refine lv_iload hx hb dX4_movesOf_76 (lv_at hl 5 rfl) ?_
            refine lv_aload_n hx hb dX4_movesOf_78 rfl (lv_at hl 3 rfl) ?_
            refine sy_get C hh (fun w h => mc (uX_fX2 w h)) 9 (by decide) (oX_9 Y) rfl 2 (by decide) (index := 146) (mc uX_256) (v := .ref (Y.2.1 11)) rfl dX4_movesOf_79 ?_
            refine lv_iload hx hb dX4_movesOf_82 (lv_at hl 0 rfl) ?_
            refine sy_cIV C hh (As := [.int x4, .ref (Y.2.1 11), .int r7]) (rest := [.int x3]) x1 (iX7_N hx1) (oX7 hx1) rfl (mX7_distance l Y _ M6 x1 hx1 x4 11 iX7_11 r7 _ hq) (cwV 3 C.1.2.2.2.2 (sy_goodV uX_good uX_258 uX_259 uX_260 uX_45 uX_248 _) rfl rfl rfl hdX7_distance ⟨Nat.le_of_ble_eq_true rfl, Nat.le_of_ble_eq_true rfl⟩) rfl hl.1 rfl (Nat.le_of_ble_eq_true rfl) dX4_movesOf_84 (fun r11 M10 H locs hq hh => ?_)
            refine lv_iadd hx hb dX4_movesOf_87 ?_
            refine lv_istore_n (lv' := [(3, .int (x3 + r11)), (5, .int r7), (0, .ref (Y.2.1 27)), (1, .ref (Y.2.1 x1)), (2, .ref (Y.2.1 9)), (4, .int x4)]) hx hb dX4_movesOf_88 rfl hl (by decide) rfl (fun ls hl => ?_)
            refine lv_iinc (v := (x4 + (1 : Int32))) (lv' := [(4, .int (x4 + (1 : Int32))), (3, .int (x3 + r11)), (5, .int r7), (0, .ref (Y.2.1 27)), (1, .ref (Y.2.1 x1)), (2, .ref (Y.2.1 9))]) hx hb dX4_movesOf_89 hl (k := 5) rfl (sy_inc (by decide)) (by decide) rfl (fun ls hl => ?_)
            refine lv_goto (tgt := 5) hx hb dX4_movesOf_92 (by decide) ?_
            exact ih M10 x1 (x3 + r11) (x4 + (1 : Int32)) hx1 _ _ _ hq hh (lv_sub hl [3, 4, 5, 1, 0] rfl)
        · have hq := hq.2 c4
          refine lv_goto (tgt := 89) hx hb dX4_movesOf_39 (by decide) ?_
          refine lv_iinc (v := (x4 + (1 : Int32))) (lv' := [(4, .int (x4 + (1 : Int32))), (0, .ref (Y.2.1 27)), (1, .ref (Y.2.1 x1)), (2, .ref (Y.2.1 9)), (3, .int x3)]) hx hb dX4_movesOf_89 hl (k := 4) rfl (sy_inc (by decide)) (by decide) rfl (fun ls hl => ?_)
          refine lv_goto (tgt := 5) hx hb dX4_movesOf_92 (by decide) ?_
          exact ih M x1 x3 (x4 + (1 : Int32)) hx1 _ _ _ hq hh (lv_sub hl [1, 2, 3, 4, 0] rfl)

end
set_option maxHeartbeats 4000000 in
set_option maxRecDepth 100000 in
theorem mX4_movesOf (l : Launch) (Y : sy_Y) (sz : Nat) (M : sy_M) (p1 : Nat) (hp1 : iX7 p1) (Q : Int32 → sy_M → Prop) (hq : wX4_movesOf M p1 Q) : Met l yX4_movesOf vsX4_movesOf ({ frames := 2, cells := 0, slots := 0, locals := 46 } : Room) (va_Pc [.ref (Y.2.1 27), .ref (Y.2.1 p1), .ref (Y.2.1 9)] (sy_pre Y NX EX tfX sz M)) (sy_QI Y NX EX sz Q) 0 0 (sy_A NX Y.2.1 sz) := by
  refine sy_metI (by decide) rfl (Nat.le_of_ble_eq_true rfl) ?_
  intro p e s m args below meth c C ls hl hh
  have hx := C.1.1
  have hb := C.1.2.1
  have hl : lv_has ls 6 [(0, .ref (Y.2.1 27)), (1, .ref (Y.2.1 p1)), (2, .ref (Y.2.1 9))] := hl
  unfold wX4_movesOf at hq
  refine lv_iconst (v := (0 : Int32)) hx hb dX4_movesOf_0 (by decide) ?_
  refine lv_istore_n (lv' := [(3, .int (0 : Int32)), (0, .ref (Y.2.1 27)), (1, .ref (Y.2.1 p1)), (2, .ref (Y.2.1 9))]) hx hb dX4_movesOf_1 rfl hl (by decide) rfl (fun ls hl => ?_)
  refine lv_iconst (v := (0 : Int32)) hx hb dX4_movesOf_2 (by decide) ?_
  refine lv_istore (lv' := [(4, .int (0 : Int32)), (3, .int (0 : Int32)), (0, .ref (Y.2.1 27)), (1, .ref (Y.2.1 p1)), (2, .ref (Y.2.1 9))]) hx hb dX4_movesOf_3 hl (by decide) rfl (fun ls hl => ?_)
  obtain ⟨n12, hq⟩ := hq
  refine kX4_movesOf_5 C  n12 M p1 (0 : Int32) (0 : Int32) hp1 _ _ _ hq hh (lv_sub hl [2, 3, 4, 1, 0] rfl)

/-! AreaSetter$RowBreaker.endOfRow(II)I -/
def wX8_endOfRow_2 (Q : Int32 → sy_M → Prop) : Nat → sy_M → Int32 → Int32 → Prop
  | 0, _, _, _ => False
  | n + 1, M, x1, x3 => ((x3 ≤ (x1 + (1 : Int32)) → Q (x1 + (1 : Int32)) M) ∧ (¬ x3 ≤ (x1 + (1 : Int32)) → ∃ n2 : Nat, n2 < 72 ∧ ((x1 * (nI 9)) + x3) = nI n2 ∧ ∃ n3 : Nat, n3 < 9 ∧ (0 : Int32) = nI n3 ∧ (((M 56 n3) < (M 55 n2) → wX8_endOfRow_2 Q n M x1 (x3 + (-1 : Int32))) ∧ (¬ (M 56 n3) < (M 55 n2) → ∃ n5 : Nat, n5 < 9 ∧ x3 = nI n5 ∧ ∃ n6 : Nat, n6 < 9 ∧ x1 = nI n6 ∧ ((¬ ((M 57 n5) + (1 : Int32)) = (M 57 n6) → wX8_endOfRow_2 Q n M x1 (x3 + (-1 : Int32))) ∧ (((M 57 n5) + (1 : Int32)) = (M 57 n6) → Q x3 M))))))
def wX8_endOfRow (M : sy_M) (a1 : Int32) (a2 : Int32) (Q : Int32 → sy_M → Prop) : Prop := ∃ n8 : Nat, wX8_endOfRow_2  Q n8 M a1 a2
section
variable {p : Program} {l : Launch} {e : Env} {s : State} {m : MethodId} {args : Array Value} {below : List Frame} {meth : Method} {c : Code} {Y : sy_Y}
set_option maxHeartbeats 4000000 in
set_option maxRecDepth 100000 in
theorem kX8_endOfRow_2 (C : sy_C p m c cX8_endOfRow 4 s args vsX8_endOfRow RX8 meth (some .int) Y NX tfX) {Q : Int32 → sy_M → Prop} :
    ∀ (n : Nat) (M : sy_M) (x1 : Int32) (x3 : Int32) (H : Heap) (locs : List Loc) (ls : Array Slot), wX8_endOfRow_2 Q n M x1 x3 → sy_H Y NX EX s H locs M → lv_has ls 4 [(0, .ref (Y.2.1 54)), (1, .int x1), (3, .int x3)] → W p l e ({ frames := 0, cells := 0, slots := 0, locals := 0 } : Room) s m args below meth c H locs 0 0 (sy_ZI below args s Y NX EX Q) (F0 m 2 ls []) := by
  have hx := C.1.1
  have hb := C.1.2.1
  intro n
  induction n with
  | zero =>
    intro M x1 x3 H locs ls hq hh hl
    unfold wX8_endOfRow_2 at hq
    exact hq.elim
  | succ n ih =>
    intro M x1 x3 H locs ls hq hh hl
    unfold wX8_endOfRow_2 at hq
    refine lv_iload_n hx hb dX8_endOfRow_2 rfl (lv_at hl 2 rfl) ?_
    refine lv_iload_n hx hb dX8_endOfRow_3 rfl (lv_at hl 1 rfl) ?_
    refine lv_iconst (v := (1 : Int32)) hx hb dX8_endOfRow_4 (by decide) ?_
    refine lv_iadd hx hb dX8_endOfRow_5 ?_
    refine lv_icmp_le (tgt := 54) hx hb dX8_endOfRow_6 (by decide) (fun c1 => ?_) (fun c1 => ?_)
    · have hq := hq.1 c1
      refine lv_iload_n hx hb dX8_endOfRow_54 rfl (lv_at hl 1 rfl) ?_
      refine lv_iconst (v := (1 : Int32)) hx hb dX8_endOfRow_55 (by decide) ?_
      refine lv_iadd hx hb dX8_endOfRow_56 ?_
      exact sy_iret C hh dX8_endOfRow_57 hq
    · have hq := hq.2 c1
      refine lv_aload_n hx hb dX8_endOfRow_9 rfl (lv_at hl 0 rfl) ?_
      refine sy_get C hh (fun w h => mc (uX_fX8 w h)) 54 (by decide) (oX_54 Y) rfl 0 (by decide) (index := 11) (mc uX_182) (v := .ref (Y.2.1 55)) rfl dX8_endOfRow_10 ?_
      refine lv_iload_n hx hb dX8_endOfRow_13 rfl (lv_at hl 1 rfl) ?_
      refine lv_bipush (v := (nI 9)) hx hb dX8_endOfRow_14 (by decide) ?_
      refine lv_imul hx hb dX8_endOfRow_16 ?_
      refine lv_iload_n hx hb dX8_endOfRow_17 rfl (lv_at hl 2 rfl) ?_
      refine lv_iadd hx hb dX8_endOfRow_18 ?_
      obtain ⟨n2, hn2, en2, hq⟩ := hq
      refine sy_iald C hh 55 (by decide) (aX_55 Y) tX_55 hn2 en2 (by decide) dX8_endOfRow_19 ?_
      refine lv_aload_n hx hb dX8_endOfRow_20 rfl (lv_at hl 0 rfl) ?_
      refine sy_get C hh (fun w h => mc (uX_fX8 w h)) 54 (by decide) (oX_54 Y) rfl 1 (by decide) (index := 15) (mc uX_183) (v := .ref (Y.2.1 56)) rfl dX8_endOfRow_21 ?_
      refine lv_iconst (v := (0 : Int32)) hx hb dX8_endOfRow_24 (by decide) ?_
      obtain ⟨n3, hn3, en3, hq⟩ := hq
      refine sy_iald C hh 56 (by decide) (aX_56 Y) tX_56 hn3 en3 (by decide) dX8_endOfRow_25 ?_
      refine lv_icmp_gt (tgt := 48) hx hb dX8_endOfRow_26 (by decide) (fun c4 => ?_) (fun c4 => ?_)
      · have hq := hq.1 c4
        refine lv_iinc (v := (x3 + (-1 : Int32))) (lv' := [(3, .int (x3 + (-1 : Int32))), (0, .ref (Y.2.1 54)), (1, .int x1)]) hx hb dX8_endOfRow_48 hl (k := 2) rfl (sy_inc (by decide)) (by decide) rfl (fun ls hl => ?_)
        refine lv_goto (tgt := 2) hx hb dX8_endOfRow_51 (by decide) ?_
        exact ih M x1 (x3 + (-1 : Int32)) _ _ _ hq hh (lv_sub hl [1, 2, 0] rfl)
      · have hq := hq.2 c4
        refine lv_aload_n hx hb dX8_endOfRow_29 rfl (lv_at hl 0 rfl) ?_
        refine sy_get C hh (fun w h => mc (uX_fX8 w h)) 54 (by decide) (oX_54 Y) rfl 2 (by decide) (index := 18) (mc uX_184) (v := .ref (Y.2.1 57)) rfl dX8_endOfRow_30 ?_
        refine lv_iload_n hx hb dX8_endOfRow_33 rfl (lv_at hl 2 rfl) ?_
        obtain ⟨n5, hn5, en5, hq⟩ := hq
        refine sy_iald C hh 57 (by decide) (aX_57 Y) tX_57 hn5 en5 (by decide) dX8_endOfRow_34 ?_
        refine lv_iconst (v := (1 : Int32)) hx hb dX8_endOfRow_35 (by decide) ?_
        refine lv_iadd hx hb dX8_endOfRow_36 ?_
        refine lv_aload_n hx hb dX8_endOfRow_37 rfl (lv_at hl 0 rfl) ?_
        refine sy_get C hh (fun w h => mc (uX_fX8 w h)) 54 (by decide) (oX_54 Y) rfl 2 (by decide) (index := 18) (mc uX_184) (v := .ref (Y.2.1 57)) rfl dX8_endOfRow_38 ?_
        refine lv_iload_n hx hb dX8_endOfRow_41 rfl (lv_at hl 1 rfl) ?_
        obtain ⟨n6, hn6, en6, hq⟩ := hq
        refine sy_iald C hh 57 (by decide) (aX_57 Y) tX_57 hn6 en6 (by decide) dX8_endOfRow_42 ?_
        refine lv_icmp_ne (tgt := 48) hx hb dX8_endOfRow_43 (by decide) (fun c7 => ?_) (fun c7 => ?_)
        · have hq := hq.1 c7
          refine lv_iinc (v := (x3 + (-1 : Int32))) (lv' := [(3, .int (x3 + (-1 : Int32))), (0, .ref (Y.2.1 54)), (1, .int x1)]) hx hb dX8_endOfRow_48 hl (k := 2) rfl (sy_inc (by decide)) (by decide) rfl (fun ls hl => ?_)
          refine lv_goto (tgt := 2) hx hb dX8_endOfRow_51 (by decide) ?_
          exact ih M x1 (x3 + (-1 : Int32)) _ _ _ hq hh (lv_sub hl [1, 2, 0] rfl)
        · have hq := hq.2 c7
          refine lv_iload_n hx hb dX8_endOfRow_46 rfl (lv_at hl 2 rfl) ?_
          exact sy_iret C hh dX8_endOfRow_47 hq

end
set_option maxHeartbeats 4000000 in
set_option maxRecDepth 100000 in
theorem mX8_endOfRow (l : Launch) (Y : sy_Y) (sz : Nat) (M : sy_M) (a1 : Int32) (a2 : Int32) (Q : Int32 → sy_M → Prop) (hq : wX8_endOfRow M a1 a2 Q) : Met l yX8_endOfRow vsX8_endOfRow ({ frames := 0, cells := 0, slots := 0, locals := 0 } : Room) (va_Pc [.ref (Y.2.1 54), .int a1, .int a2] (sy_pre Y NX EX tfX sz M)) (sy_QI Y NX EX sz Q) 0 0 (sy_A NX Y.2.1 sz) := by
  refine sy_metI (by decide) rfl (Nat.le_of_ble_eq_true rfl) ?_
  intro p e s m args below meth c C ls hl hh
  have hx := C.1.1
  have hb := C.1.2.1
  have hl : lv_has ls 4 [(0, .ref (Y.2.1 54)), (1, .int a1), (2, .int a2)] := hl
  unfold wX8_endOfRow at hq
  refine lv_iload_n hx hb dX8_endOfRow_0 rfl (lv_at hl 2 rfl) ?_
  refine lv_istore_n (lv' := [(3, .int a2), (0, .ref (Y.2.1 54)), (1, .int a1), (2, .int a2)]) hx hb dX8_endOfRow_1 rfl hl (by decide) rfl (fun ls hl => ?_)
  obtain ⟨n8, hq⟩ := hq
  refine kX8_endOfRow_2 C  n8 M a1 a2 _ _ _ hq hh (lv_sub hl [1, 2, 0] rfl)

/-! AreaSetter$RowBreaker.findFewest(I)V -/
def wX8_findFewest_27 (K_81 : sy_M → Int32 → Int32 → Prop) (Q : sy_M → Prop) : Nat → sy_M → Int32 → Int32 → Int32 → Prop
  | 0, _, _, _, _ => False
  | n + 1, M, x1, x2, x3 => ((x1 < x3 → K_81 M x1 x2) ∧ (¬ x1 < x3 → ∃ n5 : Nat, n5 < 72 ∧ ((x2 * (nI 9)) + x3) = nI n5 ∧ ∃ n6 : Nat, n6 < 9 ∧ (0 : Int32) = nI n6 ∧ (((M 56 n6) < (M 55 n5) → wX8_findFewest_27 K_81 Q n M x1 x2 (x3 + (1 : Int32))) ∧ (¬ (M 56 n6) < (M 55 n5) → ∃ n8 : Nat, n8 < 9 ∧ x2 = nI n8 ∧ ∃ n9 : Nat, n9 < 9 ∧ x3 = nI n9 ∧ ∃ n10 : Nat, n10 < 9 ∧ x2 = nI n10 ∧ wX8_findFewest_27 K_81 Q n (mu M 57 n10 (imin (M 57 n8) ((M 57 n9) + (1 : Int32)))) x1 x2 (x3 + (1 : Int32))))))
def wX8_findFewest_11 (Q : sy_M → Prop) : Nat → sy_M → Int32 → Int32 → Prop
  | 0, _, _, _ => False
  | n + 1, M, x1, x2 => ((x2 < 0 → Q M) ∧ (¬ x2 < 0 → ∃ n3 : Nat, n3 < 9 ∧ x2 = nI n3 ∧ ∃ n14 : Nat, wX8_findFewest_27 (fun (M11 : sy_M) (x1_12 : Int32) (x2_13 : Int32) => wX8_findFewest_11 Q n M11 x1_12 (x2_13 + (-1 : Int32))) Q n14 (mu M 57 n3 (nI 9)) x1 x2 (x2 + (1 : Int32))))
def wX8_findFewest (M : sy_M) (a1 : Int32) (Q : sy_M → Prop) : Prop := ∃ n1 : Nat, n1 < 9 ∧ a1 = nI n1 ∧ ∃ n15 : Nat, wX8_findFewest_11  Q n15 (mu M 57 n1 (0 : Int32)) a1 (a1 - (1 : Int32))
section
variable {p : Program} {l : Launch} {e : Env} {s : State} {m : MethodId} {args : Array Value} {below : List Frame} {meth : Method} {c : Code} {Y : sy_Y}
set_option maxHeartbeats 4000000 in
set_option maxRecDepth 100000 in
theorem kX8_findFewest_27 (C : sy_C p m c cX8_findFewest 4 s args vsX8_findFewest RX8 meth none Y NX tfX) {Q : sy_M → Prop} {K_81 : sy_M → Int32 → Int32 → Prop} (hK_81 : ∀ (M : sy_M) (x1 : Int32) (x2 : Int32) (H : Heap) (locs : List Loc) (ls : Array Slot), K_81 M x1 x2 → sy_H Y NX EX s H locs M → lv_has ls 4 [(0, .ref (Y.2.1 54)), (1, .int x1), (2, .int x2)] → W p l e ({ frames := 1, cells := 0, slots := 0, locals := 21 } : Room) s m args below meth c H locs 0 0 (sy_ZV below args s Y NX EX Q) (F0 m 81 ls [])) :
    ∀ (n : Nat) (M : sy_M) (x1 : Int32) (x2 : Int32) (x3 : Int32) (H : Heap) (locs : List Loc) (ls : Array Slot), wX8_findFewest_27 K_81 Q n M x1 x2 x3 → sy_H Y NX EX s H locs M → lv_has ls 4 [(0, .ref (Y.2.1 54)), (1, .int x1), (2, .int x2), (3, .int x3)] → W p l e ({ frames := 1, cells := 0, slots := 0, locals := 21 } : Room) s m args below meth c H locs 0 0 (sy_ZV below args s Y NX EX Q) (F0 m 27 ls []) := by
  have hx := C.1.1
  have hb := C.1.2.1
  intro n
  induction n with
  | zero =>
    intro M x1 x2 x3 H locs ls hq hh hl
    unfold wX8_findFewest_27 at hq
    exact hq.elim
  | succ n ih =>
    intro M x1 x2 x3 H locs ls hq hh hl
    unfold wX8_findFewest_27 at hq
    refine lv_iload_n hx hb dX8_findFewest_27 rfl (lv_at hl 3 rfl) ?_
    refine lv_iload_n hx hb dX8_findFewest_28 rfl (lv_at hl 1 rfl) ?_
    refine lv_icmp_gt (tgt := 81) hx hb dX8_findFewest_29 (by decide) (fun c4 => ?_) (fun c4 => ?_)
    · have hq := hq.1 c4
      exact hK_81 M x1 x2 _ _ _ hq hh (lv_sub hl [0, 1, 2] rfl)
    · have hq := hq.2 c4
      refine lv_aload_n hx hb dX8_findFewest_32 rfl (lv_at hl 0 rfl) ?_
      refine sy_get C hh (fun w h => mc (uX_fX8 w h)) 54 (by decide) (oX_54 Y) rfl 0 (by decide) (index := 11) (mc uX_182) (v := .ref (Y.2.1 55)) rfl dX8_findFewest_33 ?_
      refine lv_iload_n hx hb dX8_findFewest_36 rfl (lv_at hl 2 rfl) ?_
      refine lv_bipush (v := (nI 9)) hx hb dX8_findFewest_37 (by decide) ?_
      refine lv_imul hx hb dX8_findFewest_39 ?_
      refine lv_iload_n hx hb dX8_findFewest_40 rfl (lv_at hl 3 rfl) ?_
      refine lv_iadd hx hb dX8_findFewest_41 ?_
      obtain ⟨n5, hn5, en5, hq⟩ := hq
      refine sy_iald C hh 55 (by decide) (aX_55 Y) tX_55 hn5 en5 (by decide) dX8_findFewest_42 ?_
      refine lv_aload_n hx hb dX8_findFewest_43 rfl (lv_at hl 0 rfl) ?_
      refine sy_get C hh (fun w h => mc (uX_fX8 w h)) 54 (by decide) (oX_54 Y) rfl 1 (by decide) (index := 15) (mc uX_183) (v := .ref (Y.2.1 56)) rfl dX8_findFewest_44 ?_
      refine lv_iconst (v := (0 : Int32)) hx hb dX8_findFewest_47 (by decide) ?_
      obtain ⟨n6, hn6, en6, hq⟩ := hq
      refine sy_iald C hh 56 (by decide) (aX_56 Y) tX_56 hn6 en6 (by decide) dX8_findFewest_48 ?_
      refine lv_icmp_gt (tgt := 75) hx hb dX8_findFewest_49 (by decide) (fun c7 => ?_) (fun c7 => ?_)
      · have hq := hq.1 c7
        refine lv_iinc (v := (x3 + (1 : Int32))) (lv' := [(3, .int (x3 + (1 : Int32))), (0, .ref (Y.2.1 54)), (1, .int x1), (2, .int x2)]) hx hb dX8_findFewest_75 hl (k := 3) rfl (sy_inc (by decide)) (by decide) rfl (fun ls hl => ?_)
        refine lv_goto (tgt := 27) hx hb dX8_findFewest_78 (by decide) ?_
        exact ih M x1 x2 (x3 + (1 : Int32)) _ _ _ hq hh (lv_sub hl [1, 2, 3, 0] rfl)
      · have hq := hq.2 c7
        refine lv_aload_n hx hb dX8_findFewest_52 rfl (lv_at hl 0 rfl) ?_
        refine sy_get C hh (fun w h => mc (uX_fX8 w h)) 54 (by decide) (oX_54 Y) rfl 2 (by decide) (index := 18) (mc uX_184) (v := .ref (Y.2.1 57)) rfl dX8_findFewest_53 ?_
        refine lv_iload_n hx hb dX8_findFewest_56 rfl (lv_at hl 2 rfl) ?_
        refine lv_aload_n hx hb dX8_findFewest_57 rfl (lv_at hl 0 rfl) ?_
        refine sy_get C hh (fun w h => mc (uX_fX8 w h)) 54 (by decide) (oX_54 Y) rfl 2 (by decide) (index := 18) (mc uX_184) (v := .ref (Y.2.1 57)) rfl dX8_findFewest_58 ?_
        refine lv_iload_n hx hb dX8_findFewest_61 rfl (lv_at hl 2 rfl) ?_
        obtain ⟨n8, hn8, en8, hq⟩ := hq
        refine sy_iald C hh 57 (by decide) (aX_57 Y) tX_57 hn8 en8 (by decide) dX8_findFewest_62 ?_
        refine lv_aload_n hx hb dX8_findFewest_63 rfl (lv_at hl 0 rfl) ?_
        refine sy_get C hh (fun w h => mc (uX_fX8 w h)) 54 (by decide) (oX_54 Y) rfl 2 (by decide) (index := 18) (mc uX_184) (v := .ref (Y.2.1 57)) rfl dX8_findFewest_64 ?_
        refine lv_iload_n hx hb dX8_findFewest_67 rfl (lv_at hl 3 rfl) ?_
        obtain ⟨n9, hn9, en9, hq⟩ := hq
        refine sy_iald C hh 57 (by decide) (aX_57 Y) tX_57 hn9 en9 (by decide) dX8_findFewest_68 ?_
        refine lv_iconst (v := (1 : Int32)) hx hb dX8_findFewest_69 (by decide) ?_
        refine lv_iadd hx hb dX8_findFewest_70 ?_
        refine sy_mmin C hl (index := 75) (mc uX_222) (mc uX_30) (mc uX_31) (mc uX_32) (by decide) (Nat.le_of_ble_eq_true rfl) dX8_findFewest_71 ?_
        obtain ⟨n10, hn10, en10, hq⟩ := hq
        refine sy_iast C hh 57 (by decide) (aX_57 Y) tX_57 hn10 en10 (by decide) dX8_findFewest_74 (fun H locs hh => ?_)
        refine lv_iinc (v := (x3 + (1 : Int32))) (lv' := [(3, .int (x3 + (1 : Int32))), (0, .ref (Y.2.1 54)), (1, .int x1), (2, .int x2)]) hx hb dX8_findFewest_75 hl (k := 3) rfl (sy_inc (by decide)) (by decide) rfl (fun ls hl => ?_)
        refine lv_goto (tgt := 27) hx hb dX8_findFewest_78 (by decide) ?_
        exact ih (mu M 57 n10 (imin (M 57 n8) ((M 57 n9) + (1 : Int32)))) x1 x2 (x3 + (1 : Int32)) _ _ _ hq hh (lv_sub hl [1, 2, 3, 0] rfl)

set_option maxHeartbeats 4000000 in
set_option maxRecDepth 100000 in
theorem kX8_findFewest_11 (C : sy_C p m c cX8_findFewest 4 s args vsX8_findFewest RX8 meth none Y NX tfX) {Q : sy_M → Prop} :
    ∀ (n : Nat) (M : sy_M) (x1 : Int32) (x2 : Int32) (H : Heap) (locs : List Loc) (ls : Array Slot), wX8_findFewest_11 Q n M x1 x2 → sy_H Y NX EX s H locs M → lv_has ls 4 [(0, .ref (Y.2.1 54)), (1, .int x1), (2, .int x2)] → W p l e ({ frames := 1, cells := 0, slots := 0, locals := 21 } : Room) s m args below meth c H locs 0 0 (sy_ZV below args s Y NX EX Q) (F0 m 11 ls []) := by
  have hx := C.1.1
  have hb := C.1.2.1
  intro n
  induction n with
  | zero =>
    intro M x1 x2 H locs ls hq hh hl
    unfold wX8_findFewest_11 at hq
    exact hq.elim
  | succ n ih =>
    intro M x1 x2 H locs ls hq hh hl
    unfold wX8_findFewest_11 at hq
    refine lv_iload_n hx hb dX8_findFewest_11 rfl (lv_at hl 2 rfl) ?_
    refine lv_if_lt (tgt := 87) hx hb dX8_findFewest_12 (by decide) (fun c2 => ?_) (fun c2 => ?_)
    · have hq := hq.1 c2
      exact sy_vret C hh dX8_findFewest_87 hq
    · have hq := hq.2 c2
      refine lv_aload_n hx hb dX8_findFewest_15 rfl (lv_at hl 0 rfl) ?_
      refine sy_get C hh (fun w h => mc (uX_fX8 w h)) 54 (by decide) (oX_54 Y) rfl 2 (by decide) (index := 18) (mc uX_184) (v := .ref (Y.2.1 57)) rfl dX8_findFewest_16 ?_
      refine lv_iload_n hx hb dX8_findFewest_19 rfl (lv_at hl 2 rfl) ?_
      refine lv_bipush (v := (nI 9)) hx hb dX8_findFewest_20 (by decide) ?_
      obtain ⟨n3, hn3, en3, hq⟩ := hq
      refine sy_iast C hh 57 (by decide) (aX_57 Y) tX_57 hn3 en3 (by decide) dX8_findFewest_22 (fun H locs hh => ?_)
      refine lv_iload_n hx hb dX8_findFewest_23 rfl (lv_at hl 2 rfl) ?_
      refine lv_iconst (v := (1 : Int32)) hx hb dX8_findFewest_24 (by decide) ?_
      refine lv_iadd hx hb dX8_findFewest_25 ?_
      refine lv_istore_n (lv' := [(3, .int (x2 + (1 : Int32))), (0, .ref (Y.2.1 54)), (1, .int x1), (2, .int x2)]) hx hb dX8_findFewest_26 rfl hl (by decide) rfl (fun ls hl => ?_)
      obtain ⟨n14, hq⟩ := hq
      refine kX8_findFewest_27 C (fun M11 x1_12 x2_13 H locs ls hq hh hl => ?_) n14 (mu M 57 n3 (nI 9)) x1 x2 (x2 + (1 : Int32)) _ _ _ hq hh (lv_sub hl [1, 2, 3, 0] rfl)
      · refine lv_iinc (v := (x2_13 + (-1 : Int32))) (lv' := [(2, .int (x2_13 + (-1 : Int32))), (0, .ref (Y.2.1 54)), (1, .int x1_12)]) hx hb dX8_findFewest_81 hl (k := 2) rfl (sy_inc (by decide)) (by decide) rfl (fun ls hl => ?_)
        refine lv_goto (tgt := 11) hx hb dX8_findFewest_84 (by decide) ?_
        exact ih M11 x1_12 (x2_13 + (-1 : Int32)) _ _ _ hq hh (lv_sub hl [1, 2, 0] rfl)

end
set_option maxHeartbeats 4000000 in
set_option maxRecDepth 100000 in
theorem mX8_findFewest (l : Launch) (Y : sy_Y) (sz : Nat) (M : sy_M) (a1 : Int32) (Q : sy_M → Prop) (hq : wX8_findFewest M a1 Q) : Met l yX8_findFewest vsX8_findFewest ({ frames := 1, cells := 0, slots := 0, locals := 21 } : Room) (va_Pc [.ref (Y.2.1 54), .int a1] (sy_pre Y NX EX tfX sz M)) (sy_QV Y NX EX sz Q) 0 0 (sy_A NX Y.2.1 sz) := by
  refine sy_metV (by decide) rfl (Nat.le_of_ble_eq_true rfl) ?_
  intro p e s m args below meth c C ls hl hh
  have hx := C.1.1
  have hb := C.1.2.1
  have hl : lv_has ls 4 [(0, .ref (Y.2.1 54)), (1, .int a1)] := hl
  unfold wX8_findFewest at hq
  refine lv_aload_n hx hb dX8_findFewest_0 rfl (lv_at hl 0 rfl) ?_
  refine sy_get C hh (fun w h => mc (uX_fX8 w h)) 54 (by decide) (oX_54 Y) rfl 2 (by decide) (index := 18) (mc uX_184) (v := .ref (Y.2.1 57)) rfl dX8_findFewest_1 ?_
  refine lv_iload_n hx hb dX8_findFewest_4 rfl (lv_at hl 1 rfl) ?_
  refine lv_iconst (v := (0 : Int32)) hx hb dX8_findFewest_5 (by decide) ?_
  obtain ⟨n1, hn1, en1, hq⟩ := hq
  refine sy_iast C hh 57 (by decide) (aX_57 Y) tX_57 hn1 en1 (by decide) dX8_findFewest_6 (fun H locs hh => ?_)
  refine lv_iload_n hx hb dX8_findFewest_7 rfl (lv_at hl 1 rfl) ?_
  refine lv_iconst (v := (1 : Int32)) hx hb dX8_findFewest_8 (by decide) ?_
  refine lv_isub hx hb dX8_findFewest_9 ?_
  refine lv_istore_n (lv' := [(2, .int (a1 - (1 : Int32))), (0, .ref (Y.2.1 54)), (1, .int a1)]) hx hb dX8_findFewest_10 rfl hl (by decide) rfl (fun ls hl => ?_)
  obtain ⟨n15, hq⟩ := hq
  refine kX8_findFewest_11 C  n15 (mu M 57 n1 (0 : Int32)) a1 (a1 - (1 : Int32)) _ _ _ hq hh (lv_sub hl [1, 2, 0] rfl)

/-! AreaSetter$RowBreaker.findLeast(I)V -/
def wX8_findLeast_27 (K_73 : sy_M → Int32 → Int32 → Prop) (Q : sy_M → Prop) : Nat → sy_M → Int32 → Int32 → Int32 → Prop
  | 0, _, _, _, _ => False
  | n + 1, M, x1, x2, x3 => ((x1 < x3 → K_73 M x1 x2) ∧ (¬ x1 < x3 → ∃ n5 : Nat, n5 < 9 ∧ x2 = nI n5 ∧ ∃ n6 : Nat, n6 < 72 ∧ ((x2 * (nI 9)) + x3) = nI n6 ∧ ∃ n7 : Nat, n7 < 9 ∧ x3 = nI n7 ∧ ∃ n8 : Nat, n8 < 9 ∧ x2 = nI n8 ∧ wX8_findLeast_27 K_73 Q n (mu M 56 n8 (imin (M 56 n5) (imax (M 55 n6) (M 56 n7)))) x1 x2 (x3 + (1 : Int32))))
def wX8_findLeast_11 (Q : sy_M → Prop) : Nat → sy_M → Int32 → Int32 → Prop
  | 0, _, _, _ => False
  | n + 1, M, x1, x2 => ((x2 < 0 → Q M) ∧ (¬ x2 < 0 → ∃ n3 : Nat, n3 < 9 ∧ x2 = nI n3 ∧ ∃ n12 : Nat, wX8_findLeast_27 (fun (M9 : sy_M) (x1_10 : Int32) (x2_11 : Int32) => wX8_findLeast_11 Q n M9 x1_10 (x2_11 + (-1 : Int32))) Q n12 (mu M 56 n3 (nI 2147483647)) x1 x2 (x2 + (1 : Int32))))
def wX8_findLeast (M : sy_M) (a1 : Int32) (Q : sy_M → Prop) : Prop := ∃ n1 : Nat, n1 < 9 ∧ a1 = nI n1 ∧ ∃ n13 : Nat, wX8_findLeast_11  Q n13 (mu M 56 n1 (0 : Int32)) a1 (a1 - (1 : Int32))
section
variable {p : Program} {l : Launch} {e : Env} {s : State} {m : MethodId} {args : Array Value} {below : List Frame} {meth : Method} {c : Code} {Y : sy_Y}
set_option maxHeartbeats 4000000 in
set_option maxRecDepth 100000 in
theorem kX8_findLeast_27 (C : sy_C p m c cX8_findLeast 4 s args vsX8_findLeast RX8 meth none Y NX tfX) {Q : sy_M → Prop} {K_73 : sy_M → Int32 → Int32 → Prop} (hK_73 : ∀ (M : sy_M) (x1 : Int32) (x2 : Int32) (H : Heap) (locs : List Loc) (ls : Array Slot), K_73 M x1 x2 → sy_H Y NX EX s H locs M → lv_has ls 4 [(0, .ref (Y.2.1 54)), (1, .int x1), (2, .int x2)] → W p l e ({ frames := 1, cells := 0, slots := 0, locals := 21 } : Room) s m args below meth c H locs 0 0 (sy_ZV below args s Y NX EX Q) (F0 m 73 ls [])) :
    ∀ (n : Nat) (M : sy_M) (x1 : Int32) (x2 : Int32) (x3 : Int32) (H : Heap) (locs : List Loc) (ls : Array Slot), wX8_findLeast_27 K_73 Q n M x1 x2 x3 → sy_H Y NX EX s H locs M → lv_has ls 4 [(0, .ref (Y.2.1 54)), (1, .int x1), (2, .int x2), (3, .int x3)] → W p l e ({ frames := 1, cells := 0, slots := 0, locals := 21 } : Room) s m args below meth c H locs 0 0 (sy_ZV below args s Y NX EX Q) (F0 m 27 ls []) := by
  have hx := C.1.1
  have hb := C.1.2.1
  intro n
  induction n with
  | zero =>
    intro M x1 x2 x3 H locs ls hq hh hl
    unfold wX8_findLeast_27 at hq
    exact hq.elim
  | succ n ih =>
    intro M x1 x2 x3 H locs ls hq hh hl
    unfold wX8_findLeast_27 at hq
    refine lv_iload_n hx hb dX8_findLeast_27 rfl (lv_at hl 3 rfl) ?_
    refine lv_iload_n hx hb dX8_findLeast_28 rfl (lv_at hl 1 rfl) ?_
    refine lv_icmp_gt (tgt := 73) hx hb dX8_findLeast_29 (by decide) (fun c4 => ?_) (fun c4 => ?_)
    · have hq := hq.1 c4
      exact hK_73 M x1 x2 _ _ _ hq hh (lv_sub hl [0, 1, 2] rfl)
    · have hq := hq.2 c4
      refine lv_aload_n hx hb dX8_findLeast_32 rfl (lv_at hl 0 rfl) ?_
      refine sy_get C hh (fun w h => mc (uX_fX8 w h)) 54 (by decide) (oX_54 Y) rfl 1 (by decide) (index := 15) (mc uX_183) (v := .ref (Y.2.1 56)) rfl dX8_findLeast_33 ?_
      refine lv_iload_n hx hb dX8_findLeast_36 rfl (lv_at hl 2 rfl) ?_
      refine lv_aload_n hx hb dX8_findLeast_37 rfl (lv_at hl 0 rfl) ?_
      refine sy_get C hh (fun w h => mc (uX_fX8 w h)) 54 (by decide) (oX_54 Y) rfl 1 (by decide) (index := 15) (mc uX_183) (v := .ref (Y.2.1 56)) rfl dX8_findLeast_38 ?_
      refine lv_iload_n hx hb dX8_findLeast_41 rfl (lv_at hl 2 rfl) ?_
      obtain ⟨n5, hn5, en5, hq⟩ := hq
      refine sy_iald C hh 56 (by decide) (aX_56 Y) tX_56 hn5 en5 (by decide) dX8_findLeast_42 ?_
      refine lv_aload_n hx hb dX8_findLeast_43 rfl (lv_at hl 0 rfl) ?_
      refine sy_get C hh (fun w h => mc (uX_fX8 w h)) 54 (by decide) (oX_54 Y) rfl 0 (by decide) (index := 11) (mc uX_182) (v := .ref (Y.2.1 55)) rfl dX8_findLeast_44 ?_
      refine lv_iload_n hx hb dX8_findLeast_47 rfl (lv_at hl 2 rfl) ?_
      refine lv_bipush (v := (nI 9)) hx hb dX8_findLeast_48 (by decide) ?_
      refine lv_imul hx hb dX8_findLeast_50 ?_
      refine lv_iload_n hx hb dX8_findLeast_51 rfl (lv_at hl 3 rfl) ?_
      refine lv_iadd hx hb dX8_findLeast_52 ?_
      obtain ⟨n6, hn6, en6, hq⟩ := hq
      refine sy_iald C hh 55 (by decide) (aX_55 Y) tX_55 hn6 en6 (by decide) dX8_findLeast_53 ?_
      refine lv_aload_n hx hb dX8_findLeast_54 rfl (lv_at hl 0 rfl) ?_
      refine sy_get C hh (fun w h => mc (uX_fX8 w h)) 54 (by decide) (oX_54 Y) rfl 1 (by decide) (index := 15) (mc uX_183) (v := .ref (Y.2.1 56)) rfl dX8_findLeast_55 ?_
      refine lv_iload_n hx hb dX8_findLeast_58 rfl (lv_at hl 3 rfl) ?_
      obtain ⟨n7, hn7, en7, hq⟩ := hq
      refine sy_iald C hh 56 (by decide) (aX_56 Y) tX_56 hn7 en7 (by decide) dX8_findLeast_59 ?_
      refine sy_mmax C hl (index := 67) (mc uX_215) (mc uX_35) (mc uX_31) (mc uX_36) (by decide) (Nat.le_of_ble_eq_true rfl) dX8_findLeast_60 ?_
      refine sy_mmin C hl (index := 75) (mc uX_222) (mc uX_30) (mc uX_31) (mc uX_32) (by decide) (Nat.le_of_ble_eq_true rfl) dX8_findLeast_63 ?_
      obtain ⟨n8, hn8, en8, hq⟩ := hq
      refine sy_iast C hh 56 (by decide) (aX_56 Y) tX_56 hn8 en8 (by decide) dX8_findLeast_66 (fun H locs hh => ?_)
      refine lv_iinc (v := (x3 + (1 : Int32))) (lv' := [(3, .int (x3 + (1 : Int32))), (0, .ref (Y.2.1 54)), (1, .int x1), (2, .int x2)]) hx hb dX8_findLeast_67 hl (k := 3) rfl (sy_inc (by decide)) (by decide) rfl (fun ls hl => ?_)
      refine lv_goto (tgt := 27) hx hb dX8_findLeast_70 (by decide) ?_
      exact ih (mu M 56 n8 (imin (M 56 n5) (imax (M 55 n6) (M 56 n7)))) x1 x2 (x3 + (1 : Int32)) _ _ _ hq hh (lv_sub hl [1, 2, 3, 0] rfl)

set_option maxHeartbeats 4000000 in
set_option maxRecDepth 100000 in
theorem kX8_findLeast_11 (C : sy_C p m c cX8_findLeast 4 s args vsX8_findLeast RX8 meth none Y NX tfX) {Q : sy_M → Prop} :
    ∀ (n : Nat) (M : sy_M) (x1 : Int32) (x2 : Int32) (H : Heap) (locs : List Loc) (ls : Array Slot), wX8_findLeast_11 Q n M x1 x2 → sy_H Y NX EX s H locs M → lv_has ls 4 [(0, .ref (Y.2.1 54)), (1, .int x1), (2, .int x2)] → W p l e ({ frames := 1, cells := 0, slots := 0, locals := 21 } : Room) s m args below meth c H locs 0 0 (sy_ZV below args s Y NX EX Q) (F0 m 11 ls []) := by
  have hx := C.1.1
  have hb := C.1.2.1
  intro n
  induction n with
  | zero =>
    intro M x1 x2 H locs ls hq hh hl
    unfold wX8_findLeast_11 at hq
    exact hq.elim
  | succ n ih =>
    intro M x1 x2 H locs ls hq hh hl
    unfold wX8_findLeast_11 at hq
    refine lv_iload_n hx hb dX8_findLeast_11 rfl (lv_at hl 2 rfl) ?_
    refine lv_if_lt (tgt := 79) hx hb dX8_findLeast_12 (by decide) (fun c2 => ?_) (fun c2 => ?_)
    · have hq := hq.1 c2
      exact sy_vret C hh dX8_findLeast_79 hq
    · have hq := hq.2 c2
      refine lv_aload_n hx hb dX8_findLeast_15 rfl (lv_at hl 0 rfl) ?_
      refine sy_get C hh (fun w h => mc (uX_fX8 w h)) 54 (by decide) (oX_54 Y) rfl 1 (by decide) (index := 15) (mc uX_183) (v := .ref (Y.2.1 56)) rfl dX8_findLeast_16 ?_
      refine lv_iload_n hx hb dX8_findLeast_19 rfl (lv_at hl 2 rfl) ?_
      refine lv_ldc (v := (nI 2147483647)) hx hb C.1.2.2.2.1 (C.1.2.2.2.2 (.constant RX8 74 (nI 2147483647)) (mc uX_221)) dX8_findLeast_20 ?_
      obtain ⟨n3, hn3, en3, hq⟩ := hq
      refine sy_iast C hh 56 (by decide) (aX_56 Y) tX_56 hn3 en3 (by decide) dX8_findLeast_22 (fun H locs hh => ?_)
      refine lv_iload_n hx hb dX8_findLeast_23 rfl (lv_at hl 2 rfl) ?_
      refine lv_iconst (v := (1 : Int32)) hx hb dX8_findLeast_24 (by decide) ?_
      refine lv_iadd hx hb dX8_findLeast_25 ?_
      refine lv_istore_n (lv' := [(3, .int (x2 + (1 : Int32))), (0, .ref (Y.2.1 54)), (1, .int x1), (2, .int x2)]) hx hb dX8_findLeast_26 rfl hl (by decide) rfl (fun ls hl => ?_)
      obtain ⟨n12, hq⟩ := hq
      refine kX8_findLeast_27 C (fun M9 x1_10 x2_11 H locs ls hq hh hl => ?_) n12 (mu M 56 n3 (nI 2147483647)) x1 x2 (x2 + (1 : Int32)) _ _ _ hq hh (lv_sub hl [1, 2, 3, 0] rfl)
      · refine lv_iinc (v := (x2_11 + (-1 : Int32))) (lv' := [(2, .int (x2_11 + (-1 : Int32))), (0, .ref (Y.2.1 54)), (1, .int x1_10)]) hx hb dX8_findLeast_73 hl (k := 2) rfl (sy_inc (by decide)) (by decide) rfl (fun ls hl => ?_)
        refine lv_goto (tgt := 11) hx hb dX8_findLeast_76 (by decide) ?_
        exact ih M9 x1_10 (x2_11 + (-1 : Int32)) _ _ _ hq hh (lv_sub hl [1, 2, 0] rfl)

end
set_option maxHeartbeats 4000000 in
set_option maxRecDepth 100000 in
theorem mX8_findLeast (l : Launch) (Y : sy_Y) (sz : Nat) (M : sy_M) (a1 : Int32) (Q : sy_M → Prop) (hq : wX8_findLeast M a1 Q) : Met l yX8_findLeast vsX8_findLeast ({ frames := 1, cells := 0, slots := 0, locals := 21 } : Room) (va_Pc [.ref (Y.2.1 54), .int a1] (sy_pre Y NX EX tfX sz M)) (sy_QV Y NX EX sz Q) 0 0 (sy_A NX Y.2.1 sz) := by
  refine sy_metV (by decide) rfl (Nat.le_of_ble_eq_true rfl) ?_
  intro p e s m args below meth c C ls hl hh
  have hx := C.1.1
  have hb := C.1.2.1
  have hl : lv_has ls 4 [(0, .ref (Y.2.1 54)), (1, .int a1)] := hl
  unfold wX8_findLeast at hq
  refine lv_aload_n hx hb dX8_findLeast_0 rfl (lv_at hl 0 rfl) ?_
  refine sy_get C hh (fun w h => mc (uX_fX8 w h)) 54 (by decide) (oX_54 Y) rfl 1 (by decide) (index := 15) (mc uX_183) (v := .ref (Y.2.1 56)) rfl dX8_findLeast_1 ?_
  refine lv_iload_n hx hb dX8_findLeast_4 rfl (lv_at hl 1 rfl) ?_
  refine lv_iconst (v := (0 : Int32)) hx hb dX8_findLeast_5 (by decide) ?_
  obtain ⟨n1, hn1, en1, hq⟩ := hq
  refine sy_iast C hh 56 (by decide) (aX_56 Y) tX_56 hn1 en1 (by decide) dX8_findLeast_6 (fun H locs hh => ?_)
  refine lv_iload_n hx hb dX8_findLeast_7 rfl (lv_at hl 1 rfl) ?_
  refine lv_iconst (v := (1 : Int32)) hx hb dX8_findLeast_8 (by decide) ?_
  refine lv_isub hx hb dX8_findLeast_9 ?_
  refine lv_istore_n (lv' := [(2, .int (a1 - (1 : Int32))), (0, .ref (Y.2.1 54)), (1, .int a1)]) hx hb dX8_findLeast_10 rfl hl (by decide) rfl (fun ls hl => ?_)
  obtain ⟨n13, hq⟩ := hq
  refine kX8_findLeast_11 C  n13 (mu M 56 n1 (0 : Int32)) a1 (a1 - (1 : Int32)) _ _ _ hq hh (lv_sub hl [1, 2, 0] rfl)

/-! AreaSetter$RowBreaker.layRow(LAreaSetter$Items;LAreaSetter$Plan;II)V -/
def wX8_layRow_38 (Q : sy_M → Prop) : Nat → sy_M → Nat → Int32 → Int32 → Int32 → Int32 → Int32 → Prop
  | 0, _, _, _, _, _, _, _ => False
  | n + 1, M, x1, x2, x3, x4, x5, x6 => ((x3 ≤ x6 → Q M) ∧ (¬ x3 ≤ x6 → wX3_begin M x6 (M 28 6) x2 x3 (fun r7 M6 => wX3_begin M6 (x6 + (1 : Int32)) (M6 28 6) x2 x3 (fun r9 M8 => wX5_put M8 x1 x6 ((M8 28 4) + r7) ((M8 28 5) + x4) (r9 - r7) x5 (fun M10 => wX8_layRow_38 Q n M10 x1 x2 x3 x4 x5 (x6 + (1 : Int32)))))))
def wX8_layRow (M : sy_M) (p2 : Nat) (a3 : Int32) (a4 : Int32) (Q : sy_M → Prop) : Prop := wX3_begin M a3 (M 28 7) (0 : Int32) (M 28 0) (fun r2 M1 => wX3_begin M1 a4 (M1 28 7) (0 : Int32) (M1 28 0) (fun r4 M3 => ∃ n11 : Nat, wX8_layRow_38  Q n11 M3 p2 a3 a4 r2 (r4 - r2) a3))
section
variable {p : Program} {l : Launch} {e : Env} {s : State} {m : MethodId} {args : Array Value} {below : List Frame} {meth : Method} {c : Code} {Y : sy_Y}
set_option maxHeartbeats 4000000 in
set_option maxRecDepth 100000 in
theorem kX8_layRow_38 (C : sy_C p m c cX8_layRow 9 s args vsX8_layRow RX8 meth none Y NX tfX) {Q : sy_M → Prop} :
    ∀ (n : Nat) (M : sy_M) (x1 : Nat) (x2 : Int32) (x3 : Int32) (x4 : Int32) (x5 : Int32) (x6 : Int32) (hx1 : iX5 x1) (H : Heap) (locs : List Loc) (ls : Array Slot), wX8_layRow_38 Q n M x1 x2 x3 x4 x5 x6 → sy_H Y NX EX s H locs M → lv_has ls 9 [(0, .ref (Y.2.1 28)), (1, .ref (Y.2.1 x1)), (2, .int x2), (3, .int x3), (4, .int x4), (5, .int x5), (6, .int x6)] → W p l e ({ frames := 3, cells := 0, slots := 0, locals := 70 } : Room) s m args below meth c H locs 0 0 (sy_ZV below args s Y NX EX Q) (F0 m 38 ls []) := by
  have hx := C.1.1
  have hb := C.1.2.1
  intro n
  induction n with
  | zero =>
    intro M x1 x2 x3 x4 x5 x6 hx1 H locs ls hq hh hl
    unfold wX8_layRow_38 at hq
    exact hq.elim
  | succ n ih =>
    intro M x1 x2 x3 x4 x5 x6 hx1 H locs ls hq hh hl
    unfold wX8_layRow_38 at hq
    refine lv_iload hx hb dX8_layRow_38 (lv_at hl 6 rfl) ?_
    refine lv_iload_n hx hb dX8_layRow_40 rfl (lv_at hl 3 rfl) ?_
    refine lv_icmp_ge (tgt := 108) hx hb dX8_layRow_41 (by decide) (fun c5 => ?_) (fun c5 => ?_)
    · have hq := hq.1 c5
      exact sy_vret C hh dX8_layRow_108 hq
    · have hq := hq.2 c5
      refine lv_aload_n hx hb dX8_layRow_44 rfl (lv_at hl 0 rfl) ?_
      refine lv_iload hx hb dX8_layRow_45 (lv_at hl 6 rfl) ?_
      refine lv_aload_n hx hb dX8_layRow_47 rfl (lv_at hl 0 rfl) ?_
      refine sy_get C hh (fun w h => mc (uX_fX3 w h)) 28 (by decide) (oX_28 Y) rfl 6 (by decide) (index := 57) (mc uX_213) (v := .int (M 28 6)) rfl dX8_layRow_48 ?_
      refine lv_iload_n hx hb dX8_layRow_51 rfl (lv_at hl 2 rfl) ?_
      refine lv_iload_n hx hb dX8_layRow_52 rfl (lv_at hl 3 rfl) ?_
      refine sy_cIV C hh (As := [.int x6, .int (M 28 6), .int x2, .int x3]) (rest := []) 28 (by decide) (oX_28 Y) rfl (mX3_begin l Y _ M x6 (M 28 6) x2 x3 _ hq) (cwV 4 C.1.2.2.2.2 (sy_goodV uX_good uX_216 uX_217 uX_218 uX_58 uX_174 _) rfl rfl rfl hdX3_begin ⟨Nat.le_of_ble_eq_true rfl, Nat.le_of_ble_eq_true rfl⟩) rfl hl.1 rfl (Nat.le_of_ble_eq_true rfl) dX8_layRow_53 (fun r7 M6 H locs hq hh => ?_)
      refine lv_istore (lv' := [(7, .int r7), (0, .ref (Y.2.1 28)), (1, .ref (Y.2.1 x1)), (2, .int x2), (3, .int x3), (4, .int x4), (5, .int x5), (6, .int x6)]) hx hb dX8_layRow_56 hl (by decide) rfl (fun ls hl => ?_)
      refine lv_aload_n hx hb dX8_layRow_58 rfl (lv_at hl 1 rfl) ?_
      refine lv_iload hx hb dX8_layRow_59 (lv_at hl 7 rfl) ?_
      refine lv_iconst (v := (1 : Int32)) hx hb dX8_layRow_61 (by decide) ?_
      refine lv_iadd hx hb dX8_layRow_62 ?_
      refine lv_aload_n hx hb dX8_layRow_63 rfl (lv_at hl 1 rfl) ?_
      refine sy_get C hh (fun w h => mc (uX_fX3 w h)) 28 (by decide) (oX_28 Y) rfl 6 (by decide) (index := 57) (mc uX_213) (v := .int (M6 28 6)) rfl dX8_layRow_64 ?_
      refine lv_iload_n hx hb dX8_layRow_67 rfl (lv_at hl 3 rfl) ?_
      refine lv_iload_n hx hb dX8_layRow_68 rfl (lv_at hl 4 rfl) ?_
      refine sy_cIV C hh (As := [.int (x6 + (1 : Int32)), .int (M6 28 6), .int x2, .int x3]) (rest := []) 28 (by decide) (oX_28 Y) rfl (mX3_begin l Y _ M6 (x6 + (1 : Int32)) (M6 28 6) x2 x3 _ hq) (cwV 4 C.1.2.2.2.2 (sy_goodV uX_good uX_216 uX_217 uX_218 uX_58 uX_174 _) rfl rfl rfl hdX3_begin ⟨Nat.le_of_ble_eq_true rfl, Nat.le_of_ble_eq_true rfl⟩) rfl hl.1 rfl (Nat.le_of_ble_eq_true rfl) dX8_layRow_69 (fun r9 M8 H locs hq hh => ?_)
      refine lv_istore (lv' := [(8, .int r9), (7, .int r7), (0, .ref (Y.2.1 28)), (1, .ref (Y.2.1 x1)), (2, .int x2), (3, .int x3), (4, .int x4), (5, .int x5), (6, .int x6)]) hx hb dX8_layRow_72 hl (by decide) rfl (fun ls hl => ?_)
      refine lv_aload_n hx hb dX8_layRow_74 rfl (lv_at hl 3 rfl) ?_
      refine lv_aload_n hx hb dX8_layRow_75 rfl (lv_at hl 2 rfl) ?_
      refine lv_iload hx hb dX8_layRow_76 (lv_at hl 8 rfl) ?_
      refine lv_aload_n hx hb dX8_layRow_78 rfl (lv_at hl 2 rfl) ?_
      refine sy_get C hh (fun w h => mc (uX_fX3 w h)) 28 (by decide) (oX_28 Y) rfl 4 (by decide) (index := 78) (mc uX_225) (v := .int (M8 28 4)) rfl dX8_layRow_79 ?_
      refine lv_iload hx hb dX8_layRow_82 (lv_at hl 1 rfl) ?_
      refine lv_iadd hx hb dX8_layRow_84 ?_
      refine lv_aload_n hx hb dX8_layRow_85 rfl (lv_at hl 2 rfl) ?_
      refine sy_get C hh (fun w h => mc (uX_fX3 w h)) 28 (by decide) (oX_28 Y) rfl 5 (by decide) (index := 81) (mc uX_226) (v := .int (M8 28 5)) rfl dX8_layRow_86 ?_
      refine lv_iload hx hb dX8_layRow_89 (lv_at hl 6 rfl) ?_
      refine lv_iadd hx hb dX8_layRow_91 ?_
      refine lv_iload hx hb dX8_layRow_92 (lv_at hl 0 rfl) ?_
      refine lv_iload hx hb dX8_layRow_94 (lv_at hl 1 rfl) ?_
      refine lv_isub hx hb dX8_layRow_96 ?_
      refine lv_iload hx hb dX8_layRow_97 (lv_at hl 7 rfl) ?_
      refine sy_cVV C hh (As := [.ref (Y.2.1 28), .int x6, .int ((M8 28 4) + r7), .int ((M8 28 5) + x4), .int (r9 - r7), .int x5]) (rest := []) x1 (iX5_N hx1) (oX5 hx1) rfl (mX5_put l Y _ M8 x1 hx1 x6 ((M8 28 4) + r7) ((M8 28 5) + x4) (r9 - r7) x5 _ hq) (cwV 6 C.1.2.2.2.2 (sy_goodV uX_good uX_227 uX_73 uX_74 uX_75 uX_37 _) rfl rfl rfl hdX5_put ⟨Nat.le_of_ble_eq_true rfl, Nat.le_of_ble_eq_true rfl⟩) rfl hl.1 rfl (Nat.le_of_ble_eq_true rfl) dX8_layRow_99 (fun M10 H locs hq hh => ?_)
      refine lv_iinc (v := (x6 + (1 : Int32))) (lv' := [(6, .int (x6 + (1 : Int32))), (8, .int r9), (7, .int r7), (0, .ref (Y.2.1 28)), (1, .ref (Y.2.1 x1)), (2, .int x2), (3, .int x3), (4, .int x4), (5, .int x5)]) hx hb dX8_layRow_102 hl (k := 8) rfl (sy_inc (by decide)) (by decide) rfl (fun ls hl => ?_)
      refine lv_goto (tgt := 38) hx hb dX8_layRow_105 (by decide) ?_
      exact ih M10 x1 x2 x3 x4 x5 (x6 + (1 : Int32)) hx1 _ _ _ hq hh (lv_sub hl [3, 4, 5, 6, 7, 8, 0] rfl)

end
set_option maxHeartbeats 4000000 in
set_option maxRecDepth 100000 in
theorem mX8_layRow (l : Launch) (Y : sy_Y) (sz : Nat) (M : sy_M) (p2 : Nat) (hp2 : iX5 p2) (a3 : Int32) (a4 : Int32) (Q : sy_M → Prop) (hq : wX8_layRow M p2 a3 a4 Q) : Met l yX8_layRow vsX8_layRow ({ frames := 3, cells := 0, slots := 0, locals := 70 } : Room) (va_Pc [.ref (Y.2.1 28), .ref (Y.2.1 p2), .int a3, .int a4] (sy_pre Y NX EX tfX sz M)) (sy_QV Y NX EX sz Q) 0 0 (sy_A NX Y.2.1 sz) := by
  refine sy_metV (by decide) rfl (Nat.le_of_ble_eq_true rfl) ?_
  intro p e s m args below meth c C ls hl hh
  have hx := C.1.1
  have hb := C.1.2.1
  have hl : lv_has ls 9 [(0, .ref (Y.2.1 28)), (1, .ref (Y.2.1 p2)), (2, .int a3), (3, .int a4)] := hl
  unfold wX8_layRow at hq
  refine lv_aload_n hx hb dX8_layRow_0 rfl (lv_at hl 0 rfl) ?_
  refine lv_iload_n hx hb dX8_layRow_1 rfl (lv_at hl 2 rfl) ?_
  refine lv_aload_n hx hb dX8_layRow_2 rfl (lv_at hl 0 rfl) ?_
  refine sy_get C hh (fun w h => mc (uX_fX3 w h)) 28 (by decide) (oX_28 Y) rfl 7 (by decide) (index := 50) (mc uX_211) (v := .int (M 28 7)) rfl dX8_layRow_3 ?_
  refine lv_iconst (v := (0 : Int32)) hx hb dX8_layRow_6 (by decide) ?_
  refine lv_aload_n hx hb dX8_layRow_7 rfl (lv_at hl 0 rfl) ?_
  refine sy_get C hh (fun w h => mc (uX_fX3 w h)) 28 (by decide) (oX_28 Y) rfl 0 (by decide) (index := 21) (mc uX_212) (v := .int (M 28 0)) rfl dX8_layRow_8 ?_
  refine sy_cIV C hh (As := [.int a3, .int (M 28 7), .int (0 : Int32), .int (M 28 0)]) (rest := []) 28 (by decide) (oX_28 Y) rfl (mX3_begin l Y _ M a3 (M 28 7) (0 : Int32) (M 28 0) _ hq) (cwV 4 C.1.2.2.2.2 (sy_goodV uX_good uX_216 uX_217 uX_218 uX_58 uX_174 _) rfl rfl rfl hdX3_begin ⟨Nat.le_of_ble_eq_true rfl, Nat.le_of_ble_eq_true rfl⟩) rfl hl.1 rfl (Nat.le_of_ble_eq_true rfl) dX8_layRow_11 (fun r2 M1 H locs hq hh => ?_)
  refine lv_istore (lv' := [(4, .int r2), (0, .ref (Y.2.1 28)), (1, .ref (Y.2.1 p2)), (2, .int a3), (3, .int a4)]) hx hb dX8_layRow_14 hl (by decide) rfl (fun ls hl => ?_)
  refine lv_aload_n hx hb dX8_layRow_16 rfl (lv_at hl 1 rfl) ?_
  refine lv_iload_n hx hb dX8_layRow_17 rfl (lv_at hl 4 rfl) ?_
  refine lv_aload_n hx hb dX8_layRow_18 rfl (lv_at hl 1 rfl) ?_
  refine sy_get C hh (fun w h => mc (uX_fX3 w h)) 28 (by decide) (oX_28 Y) rfl 7 (by decide) (index := 50) (mc uX_211) (v := .int (M1 28 7)) rfl dX8_layRow_19 ?_
  refine lv_iconst (v := (0 : Int32)) hx hb dX8_layRow_22 (by decide) ?_
  refine lv_aload_n hx hb dX8_layRow_23 rfl (lv_at hl 1 rfl) ?_
  refine sy_get C hh (fun w h => mc (uX_fX3 w h)) 28 (by decide) (oX_28 Y) rfl 0 (by decide) (index := 21) (mc uX_212) (v := .int (M1 28 0)) rfl dX8_layRow_24 ?_
  refine sy_cIV C hh (As := [.int a4, .int (M1 28 7), .int (0 : Int32), .int (M1 28 0)]) (rest := []) 28 (by decide) (oX_28 Y) rfl (mX3_begin l Y _ M1 a4 (M1 28 7) (0 : Int32) (M1 28 0) _ hq) (cwV 4 C.1.2.2.2.2 (sy_goodV uX_good uX_216 uX_217 uX_218 uX_58 uX_174 _) rfl rfl rfl hdX3_begin ⟨Nat.le_of_ble_eq_true rfl, Nat.le_of_ble_eq_true rfl⟩) rfl hl.1 rfl (Nat.le_of_ble_eq_true rfl) dX8_layRow_27 (fun r4 M3 H locs hq hh => ?_)
  refine lv_iload hx hb dX8_layRow_30 (lv_at hl 0 rfl) ?_
  refine lv_isub hx hb dX8_layRow_32 ?_
  refine lv_istore (lv' := [(5, .int (r4 - r2)), (4, .int r2), (0, .ref (Y.2.1 28)), (1, .ref (Y.2.1 p2)), (2, .int a3), (3, .int a4)]) hx hb dX8_layRow_33 hl (by decide) rfl (fun ls hl => ?_)
  refine lv_iload_n hx hb dX8_layRow_35 rfl (lv_at hl 4 rfl) ?_
  refine lv_istore (lv' := [(6, .int a3), (5, .int (r4 - r2)), (4, .int r2), (0, .ref (Y.2.1 28)), (1, .ref (Y.2.1 p2)), (2, .int a3), (3, .int a4)]) hx hb dX8_layRow_36 hl (by decide) rfl (fun ls hl => ?_)
  obtain ⟨n11, hq⟩ := hq
  refine kX8_layRow_38 C  n11 M3 p2 a3 a4 r2 (r4 - r2) a3 hp2 _ _ _ hq hh (lv_sub hl [3, 4, 5, 6, 2, 1, 0] rfl)

/-! AreaSetter$RowBreaker.worstOfRow(LAreaSetter$Items;II)I -/
def wX8_worstOfRow_39 (Q : Int32 → sy_M → Prop) : Nat → sy_M → Int32 → Int32 → Int32 → Int32 → Int32 → Int32 → Prop
  | 0, _, _, _, _, _, _, _ => False
  | n + 1, M, x1, x2, x3, x4, x5, x6 => ((x2 ≤ x6 → Q x4 M) ∧ (¬ x2 ≤ x6 → wX3_begin M (x6 + (1 : Int32)) (M 28 6) x1 x2 (fun r7 M6 => ∃ n8 : Nat, n8 < 8 ∧ x6 = nI n8 ∧ wX11_shapeOf M6 (M6 30 n8) (r7 - x5) x3 (fun r10 M9 => wX8_worstOfRow_39 Q n M9 x1 x2 x3 (imax x4 r10) r7 (x6 + (1 : Int32))))))
def wX8_worstOfRow (M : sy_M) (a2 : Int32) (a3 : Int32) (Q : Int32 → sy_M → Prop) : Prop := wX3_begin M a3 (M 28 7) (0 : Int32) (M 28 0) (fun r2 M1 => wX3_begin M1 a2 (M1 28 7) (0 : Int32) (M1 28 0) (fun r4 M3 => ∃ n11 : Nat, wX8_worstOfRow_39  Q n11 M3 a2 a3 (r2 - r4) (0 : Int32) (0 : Int32) a2))
section
variable {p : Program} {l : Launch} {e : Env} {s : State} {m : MethodId} {args : Array Value} {below : List Frame} {meth : Method} {c : Code} {Y : sy_Y}
set_option maxHeartbeats 4000000 in
set_option maxRecDepth 100000 in
theorem kX8_worstOfRow_39 (C : sy_C p m c cX8_worstOfRow 8 s args vsX8_worstOfRow RX8 meth (some .int) Y NX tfX) {Q : Int32 → sy_M → Prop} :
    ∀ (n : Nat) (M : sy_M) (x1 : Int32) (x2 : Int32) (x3 : Int32) (x4 : Int32) (x5 : Int32) (x6 : Int32) (H : Heap) (locs : List Loc) (ls : Array Slot), wX8_worstOfRow_39 Q n M x1 x2 x3 x4 x5 x6 → sy_H Y NX EX s H locs M → lv_has ls 8 [(0, .ref (Y.2.1 28)), (1, .int x1), (2, .int x2), (3, .int x3), (4, .int x4), (5, .int x5), (6, .int x6)] → W p l e ({ frames := 2, cells := 0, slots := 0, locals := 46 } : Room) s m args below meth c H locs 0 0 (sy_ZI below args s Y NX EX Q) (F0 m 39 ls []) := by
  have hx := C.1.1
  have hb := C.1.2.1
  intro n
  induction n with
  | zero =>
    intro M x1 x2 x3 x4 x5 x6 H locs ls hq hh hl
    unfold wX8_worstOfRow_39 at hq
    exact hq.elim
  | succ n ih =>
    intro M x1 x2 x3 x4 x5 x6 H locs ls hq hh hl
    unfold wX8_worstOfRow_39 at hq
    refine lv_iload hx hb dX8_worstOfRow_39 (lv_at hl 6 rfl) ?_
    refine lv_iload_n hx hb dX8_worstOfRow_41 rfl (lv_at hl 2 rfl) ?_
    refine lv_icmp_ge (tgt := 94) hx hb dX8_worstOfRow_42 (by decide) (fun c5 => ?_) (fun c5 => ?_)
    · have hq := hq.1 c5
      refine lv_iload hx hb dX8_worstOfRow_94 (lv_at hl 4 rfl) ?_
      exact sy_iret C hh dX8_worstOfRow_96 hq
    · have hq := hq.2 c5
      refine lv_aload_n hx hb dX8_worstOfRow_45 rfl (lv_at hl 0 rfl) ?_
      refine lv_iload hx hb dX8_worstOfRow_46 (lv_at hl 6 rfl) ?_
      refine lv_iconst (v := (1 : Int32)) hx hb dX8_worstOfRow_48 (by decide) ?_
      refine lv_iadd hx hb dX8_worstOfRow_49 ?_
      refine lv_aload_n hx hb dX8_worstOfRow_50 rfl (lv_at hl 0 rfl) ?_
      refine sy_get C hh (fun w h => mc (uX_fX3 w h)) 28 (by decide) (oX_28 Y) rfl 6 (by decide) (index := 57) (mc uX_213) (v := .int (M 28 6)) rfl dX8_worstOfRow_51 ?_
      refine lv_iload_n hx hb dX8_worstOfRow_54 rfl (lv_at hl 1 rfl) ?_
      refine lv_iload_n hx hb dX8_worstOfRow_55 rfl (lv_at hl 2 rfl) ?_
      refine sy_cIV C hh (As := [.int (x6 + (1 : Int32)), .int (M 28 6), .int x1, .int x2]) (rest := []) 28 (by decide) (oX_28 Y) rfl (mX3_begin l Y _ M (x6 + (1 : Int32)) (M 28 6) x1 x2 _ hq) (cwV 4 C.1.2.2.2.2 (sy_goodV uX_good uX_216 uX_217 uX_218 uX_58 uX_174 _) rfl rfl rfl hdX3_begin ⟨Nat.le_of_ble_eq_true rfl, Nat.le_of_ble_eq_true rfl⟩) rfl hl.1 rfl (Nat.le_of_ble_eq_true rfl) dX8_worstOfRow_56 (fun r7 M6 H locs hq hh => ?_)
      refine lv_istore (lv' := [(7, .int r7), (0, .ref (Y.2.1 28)), (1, .int x1), (2, .int x2), (3, .int x3), (4, .int x4), (5, .int x5), (6, .int x6)]) hx hb dX8_worstOfRow_59 hl (by decide) rfl (fun ls hl => ?_)
      refine lv_iload hx hb dX8_worstOfRow_61 (lv_at hl 5 rfl) ?_
      refine lv_aload_n hx hb dX8_worstOfRow_63 rfl (lv_at hl 1 rfl) ?_
      refine sy_get C hh (fun w h => mc (uX_fX3 w h)) 28 (by decide) (oX_28 Y) rfl 3 (by decide) (index := 60) (mc uX_214) (v := .ref (Y.2.1 30)) rfl dX8_worstOfRow_64 ?_
      refine lv_iload hx hb dX8_worstOfRow_67 (lv_at hl 7 rfl) ?_
      obtain ⟨n8, hn8, en8, hq⟩ := hq
      refine sy_iald C hh 30 (by decide) (aX_30 Y) tX_30 hn8 en8 (by decide) dX8_worstOfRow_69 ?_
      refine lv_iload hx hb dX8_worstOfRow_70 (lv_at hl 0 rfl) ?_
      refine lv_iload hx hb dX8_worstOfRow_72 (lv_at hl 6 rfl) ?_
      refine lv_isub hx hb dX8_worstOfRow_74 ?_
      refine lv_iload_n hx hb dX8_worstOfRow_75 rfl (lv_at hl 4 rfl) ?_
      refine sy_cIN C hh (As := [.int (M6 30 n8), .int (r7 - x5), .int x3]) (rest := [.int x4]) (mX11_shapeOf l Y _ M6 (M6 30 n8) (r7 - x5) x3 _ hq) ⟨va_cnB 3 C.1.2.2.2.2 (sy_goodN uX_good uX_28 _) rfl rfl rfl (C.2.1.2.1 ("AreaSetter$RowBreaker", 63, yX11_shapeOf) (by simp)) (C.1.2.2.2.2 _ (mc uX_47)) hdX11_shapeOf.2 ⟨Nat.le_of_ble_eq_true rfl, Nat.le_of_ble_eq_true rfl⟩, C.1.2.2.2.2 _ (mc uX_46), trivial⟩ rfl hl.1 rfl (Nat.le_of_ble_eq_true rfl) dX8_worstOfRow_76 (fun r10 M9 H locs hq hh => ?_)
      refine sy_mmax C hl (index := 67) (mc uX_215) (mc uX_35) (mc uX_31) (mc uX_36) (by decide) (Nat.le_of_ble_eq_true rfl) dX8_worstOfRow_79 ?_
      refine lv_istore (lv' := [(4, .int (imax x4 r10)), (7, .int r7), (0, .ref (Y.2.1 28)), (1, .int x1), (2, .int x2), (3, .int x3), (5, .int x5), (6, .int x6)]) hx hb dX8_worstOfRow_82 hl (by decide) rfl (fun ls hl => ?_)
      refine lv_iload hx hb dX8_worstOfRow_84 (lv_at hl 1 rfl) ?_
      refine lv_istore (lv' := [(5, .int r7), (4, .int (imax x4 r10)), (7, .int r7), (0, .ref (Y.2.1 28)), (1, .int x1), (2, .int x2), (3, .int x3), (6, .int x6)]) hx hb dX8_worstOfRow_86 hl (by decide) rfl (fun ls hl => ?_)
      refine lv_iinc (v := (x6 + (1 : Int32))) (lv' := [(6, .int (x6 + (1 : Int32))), (5, .int r7), (4, .int (imax x4 r10)), (7, .int r7), (0, .ref (Y.2.1 28)), (1, .int x1), (2, .int x2), (3, .int x3)]) hx hb dX8_worstOfRow_88 hl (k := 7) rfl (sy_inc (by decide)) (by decide) rfl (fun ls hl => ?_)
      refine lv_goto (tgt := 39) hx hb dX8_worstOfRow_91 (by decide) ?_
      exact ih M9 x1 x2 x3 (imax x4 r10) r7 (x6 + (1 : Int32)) _ _ _ hq hh (lv_sub hl [4, 5, 6, 7, 2, 1, 0] rfl)

end
set_option maxHeartbeats 4000000 in
set_option maxRecDepth 100000 in
theorem mX8_worstOfRow (l : Launch) (Y : sy_Y) (sz : Nat) (M : sy_M) (a2 : Int32) (a3 : Int32) (Q : Int32 → sy_M → Prop) (hq : wX8_worstOfRow M a2 a3 Q) : Met l yX8_worstOfRow vsX8_worstOfRow ({ frames := 2, cells := 0, slots := 0, locals := 46 } : Room) (va_Pc [.ref (Y.2.1 28), .int a2, .int a3] (sy_pre Y NX EX tfX sz M)) (sy_QI Y NX EX sz Q) 0 0 (sy_A NX Y.2.1 sz) := by
  refine sy_metI (by decide) rfl (Nat.le_of_ble_eq_true rfl) ?_
  intro p e s m args below meth c C ls hl hh
  have hx := C.1.1
  have hb := C.1.2.1
  have hl : lv_has ls 8 [(0, .ref (Y.2.1 28)), (1, .int a2), (2, .int a3)] := hl
  unfold wX8_worstOfRow at hq
  refine lv_aload_n hx hb dX8_worstOfRow_0 rfl (lv_at hl 0 rfl) ?_
  refine lv_iload_n hx hb dX8_worstOfRow_1 rfl (lv_at hl 2 rfl) ?_
  refine lv_aload_n hx hb dX8_worstOfRow_2 rfl (lv_at hl 0 rfl) ?_
  refine sy_get C hh (fun w h => mc (uX_fX3 w h)) 28 (by decide) (oX_28 Y) rfl 7 (by decide) (index := 50) (mc uX_211) (v := .int (M 28 7)) rfl dX8_worstOfRow_3 ?_
  refine lv_iconst (v := (0 : Int32)) hx hb dX8_worstOfRow_6 (by decide) ?_
  refine lv_aload_n hx hb dX8_worstOfRow_7 rfl (lv_at hl 0 rfl) ?_
  refine sy_get C hh (fun w h => mc (uX_fX3 w h)) 28 (by decide) (oX_28 Y) rfl 0 (by decide) (index := 21) (mc uX_212) (v := .int (M 28 0)) rfl dX8_worstOfRow_8 ?_
  refine sy_cIV C hh (As := [.int a3, .int (M 28 7), .int (0 : Int32), .int (M 28 0)]) (rest := []) 28 (by decide) (oX_28 Y) rfl (mX3_begin l Y _ M a3 (M 28 7) (0 : Int32) (M 28 0) _ hq) (cwV 4 C.1.2.2.2.2 (sy_goodV uX_good uX_216 uX_217 uX_218 uX_58 uX_174 _) rfl rfl rfl hdX3_begin ⟨Nat.le_of_ble_eq_true rfl, Nat.le_of_ble_eq_true rfl⟩) rfl hl.1 rfl (Nat.le_of_ble_eq_true rfl) dX8_worstOfRow_11 (fun r2 M1 H locs hq hh => ?_)
  refine lv_aload_n hx hb dX8_worstOfRow_14 rfl (lv_at hl 0 rfl) ?_
  refine lv_iload_n hx hb dX8_worstOfRow_15 rfl (lv_at hl 1 rfl) ?_
  refine lv_aload_n hx hb dX8_worstOfRow_16 rfl (lv_at hl 0 rfl) ?_
  refine sy_get C hh (fun w h => mc (uX_fX3 w h)) 28 (by decide) (oX_28 Y) rfl 7 (by decide) (index := 50) (mc uX_211) (v := .int (M1 28 7)) rfl dX8_worstOfRow_17 ?_
  refine lv_iconst (v := (0 : Int32)) hx hb dX8_worstOfRow_20 (by decide) ?_
  refine lv_aload_n hx hb dX8_worstOfRow_21 rfl (lv_at hl 0 rfl) ?_
  refine sy_get C hh (fun w h => mc (uX_fX3 w h)) 28 (by decide) (oX_28 Y) rfl 0 (by decide) (index := 21) (mc uX_212) (v := .int (M1 28 0)) rfl dX8_worstOfRow_22 ?_
  refine sy_cIV C hh (As := [.int a2, .int (M1 28 7), .int (0 : Int32), .int (M1 28 0)]) (rest := [.int r2]) 28 (by decide) (oX_28 Y) rfl (mX3_begin l Y _ M1 a2 (M1 28 7) (0 : Int32) (M1 28 0) _ hq) (cwV 4 C.1.2.2.2.2 (sy_goodV uX_good uX_216 uX_217 uX_218 uX_58 uX_174 _) rfl rfl rfl hdX3_begin ⟨Nat.le_of_ble_eq_true rfl, Nat.le_of_ble_eq_true rfl⟩) rfl hl.1 rfl (Nat.le_of_ble_eq_true rfl) dX8_worstOfRow_25 (fun r4 M3 H locs hq hh => ?_)
  refine lv_isub hx hb dX8_worstOfRow_28 ?_
  refine lv_istore_n (lv' := [(3, .int (r2 - r4)), (0, .ref (Y.2.1 28)), (1, .int a2), (2, .int a3)]) hx hb dX8_worstOfRow_29 rfl hl (by decide) rfl (fun ls hl => ?_)
  refine lv_iconst (v := (0 : Int32)) hx hb dX8_worstOfRow_30 (by decide) ?_
  refine lv_istore (lv' := [(4, .int (0 : Int32)), (3, .int (r2 - r4)), (0, .ref (Y.2.1 28)), (1, .int a2), (2, .int a3)]) hx hb dX8_worstOfRow_31 hl (by decide) rfl (fun ls hl => ?_)
  refine lv_iconst (v := (0 : Int32)) hx hb dX8_worstOfRow_33 (by decide) ?_
  refine lv_istore (lv' := [(5, .int (0 : Int32)), (4, .int (0 : Int32)), (3, .int (r2 - r4)), (0, .ref (Y.2.1 28)), (1, .int a2), (2, .int a3)]) hx hb dX8_worstOfRow_34 hl (by decide) rfl (fun ls hl => ?_)
  refine lv_iload_n hx hb dX8_worstOfRow_36 rfl (lv_at hl 4 rfl) ?_
  refine lv_istore (lv' := [(6, .int a2), (5, .int (0 : Int32)), (4, .int (0 : Int32)), (3, .int (r2 - r4)), (0, .ref (Y.2.1 28)), (1, .int a2), (2, .int a3)]) hx hb dX8_worstOfRow_37 hl (by decide) rfl (fun ls hl => ?_)
  obtain ⟨n11, hq⟩ := hq
  refine kX8_worstOfRow_39 C  n11 M3 a2 a3 (r2 - r4) (0 : Int32) (0 : Int32) a2 _ _ _ hq hh (lv_sub hl [4, 5, 6, 3, 2, 1, 0] rfl)

