/-! AreaSetter$Items.countSmall(LAreaSetter$Tree;ILAreaSetter$Drawings;)I -/
def wX3_countSmall_7 (Q : Int32 → sy_M → Prop) : Nat → sy_M → Nat → Int32 → Int32 → Int32 → Prop
  | 0, _, _, _, _, _ => False
  | n + 1, M, x0, x1, x3, x4 => (((M x0 0) ≤ x4 → Q x3 M) ∧ (¬ (M x0 0) ≤ x4 → ∃ n2 : Nat, n2 < 40 ∧ x4 = nI n2 ∧ ((¬ (M (x0 + 1) n2) = x1 → wX3_countSmall_7 Q n M x0 x1 x3 (x4 + (1 : Int32))) ∧ ((M (x0 + 1) n2) = x1 → wX3_isSmall M x0 x4 (fun r5 M4 => ((r5 = 0 → wX3_countSmall_7 Q n M4 x0 x1 x3 (x4 + (1 : Int32))) ∧ (¬ r5 = 0 → wX3_countSmall_7 Q n M4 x0 x1 (x3 + (1 : Int32)) (x4 + (1 : Int32)))))))))
def wX3_countSmall (M : sy_M) (p1 : Nat) (a2 : Int32) (Q : Int32 → sy_M → Prop) : Prop := ∃ n7 : Nat, wX3_countSmall_7  Q n7 M p1 a2 (0 : Int32) (a2 + (1 : Int32))
section
variable {p : Program} {l : Launch} {e : Env} {s : State} {m : MethodId} {args : Array Value} {below : List Frame} {meth : Method} {c : Code} {Y : sy_Y}
set_option maxHeartbeats 4000000 in
set_option maxRecDepth 100000 in
theorem kX3_countSmall_7 (C : sy_C p m c cX3_countSmall 5 s args vsX3_countSmall RX3 meth (some .int) Y NX tfX) {Q : Int32 → sy_M → Prop} :
    ∀ (n : Nat) (M : sy_M) (x0 : Nat) (x1 : Int32) (x3 : Int32) (x4 : Int32) (hx0 : iX10 x0) (H : Heap) (locs : List Loc) (ls : Array Slot), wX3_countSmall_7 Q n M x0 x1 x3 x4 → sy_H Y NX EX s H locs M → lv_has ls 5 [(0, .ref (Y.2.1 x0)), (1, .int x1), (2, .ref (Y.2.1 9)), (3, .int x3), (4, .int x4)] → W p l e ({ frames := 3, cells := 0, slots := 0, locals := 69 } : Room) s m args below meth c H locs 0 0 (sy_ZI below args s Y NX EX Q) (F0 m 7 ls []) := by
  have hx := C.1.1
  have hb := C.1.2.1
  intro n
  induction n with
  | zero =>
    intro M x0 x1 x3 x4 hx0 H locs ls hq hh hl
    unfold wX3_countSmall_7 at hq
    exact hq.elim
  | succ n ih =>
    intro M x0 x1 x3 x4 hx0 H locs ls hq hh hl
    unfold wX3_countSmall_7 at hq
    refine lv_iload hx hb dX3_countSmall_7 (lv_at hl 4 rfl) ?_
    refine lv_aload_n hx hb dX3_countSmall_9 rfl (lv_at hl 0 rfl) ?_
    refine sy_get C hh (fun w h => mc (uX_fX10 w h)) x0 (iX10_N hx0) (oX10 hx0) rfl 0 (by decide) (index := 50) (mc uX_153) (v := .int (M x0 0)) rfl dX3_countSmall_10 ?_
    refine lv_icmp_ge (tgt := 46) hx hb dX3_countSmall_13 (by decide) (fun c1 => ?_) (fun c1 => ?_)
    · have hq := hq.1 c1
      refine lv_iload_n hx hb dX3_countSmall_46 rfl (lv_at hl 3 rfl) ?_
      exact sy_iret C hh dX3_countSmall_47 hq
    · have hq := hq.2 c1
      refine lv_aload_n hx hb dX3_countSmall_16 rfl (lv_at hl 0 rfl) ?_
      refine sy_get C hh (fun w h => mc (uX_fX10 w h)) x0 (iX10_N hx0) (oX10 hx0) rfl 2 (by decide) (index := 52) (mc uX_142) (v := .ref (Y.2.1 (x0 + 1))) rfl dX3_countSmall_17 ?_
      refine lv_iload hx hb dX3_countSmall_20 (lv_at hl 4 rfl) ?_
      obtain ⟨n2, hn2, en2, hq⟩ := hq
      refine sy_iald C hh (x0 + 1) (iX10_N1 hx0) (aX10_1 hx0) (tX10_1 hx0) hn2 en2 (by decide) dX3_countSmall_22 ?_
      refine lv_iload_n hx hb dX3_countSmall_23 rfl (lv_at hl 1 rfl) ?_
      refine lv_icmp_ne (tgt := 40) hx hb dX3_countSmall_24 (by decide) (fun c3 => ?_) (fun c3 => ?_)
      · have hq := hq.1 c3
        refine lv_iinc (v := (x4 + (1 : Int32))) (lv' := [(4, .int (x4 + (1 : Int32))), (0, .ref (Y.2.1 x0)), (1, .int x1), (2, .ref (Y.2.1 9)), (3, .int x3)]) hx hb dX3_countSmall_40 hl (k := 4) rfl (sy_inc (by decide)) (by decide) rfl (fun ls hl => ?_)
        refine lv_goto (tgt := 7) hx hb dX3_countSmall_43 (by decide) ?_
        exact ih M x0 x1 x3 (x4 + (1 : Int32)) hx0 _ _ _ hq hh (lv_sub hl [1, 2, 3, 4, 0] rfl)
      · have hq := hq.2 c3
        refine lv_aload_n hx hb dX3_countSmall_27 rfl (lv_at hl 0 rfl) ?_
        refine lv_iload hx hb dX3_countSmall_28 (lv_at hl 4 rfl) ?_
        refine lv_aload_n hx hb dX3_countSmall_30 rfl (lv_at hl 2 rfl) ?_
        refine sy_cIS C hh (As := [.ref (Y.2.1 x0), .int x4, .ref (Y.2.1 9)]) (rest := []) (mX3_isSmall l Y _ M x0 hx0 x4 _ hq) (va_cwS 3 C.1.2.2.2.2 (sy_goodS uX_good uX_154 uX_155 uX_58 uX_152 _) rfl rfl rfl hdX3_isSmall.2 ⟨Nat.le_of_ble_eq_true rfl, Nat.le_of_ble_eq_true rfl⟩) rfl hl.1 rfl (Nat.le_of_ble_eq_true rfl) dX3_countSmall_31 (fun r5 M4 H locs hq hh => ?_)
        refine lv_if_eq (tgt := 40) hx hb dX3_countSmall_34 (by decide) (fun c6 => ?_) (fun c6 => ?_)
        · have hq := hq.1 c6
          refine lv_iinc (v := (x4 + (1 : Int32))) (lv' := [(4, .int (x4 + (1 : Int32))), (0, .ref (Y.2.1 x0)), (1, .int x1), (2, .ref (Y.2.1 9)), (3, .int x3)]) hx hb dX3_countSmall_40 hl (k := 4) rfl (sy_inc (by decide)) (by decide) rfl (fun ls hl => ?_)
          refine lv_goto (tgt := 7) hx hb dX3_countSmall_43 (by decide) ?_
          exact ih M4 x0 x1 x3 (x4 + (1 : Int32)) hx0 _ _ _ hq hh (lv_sub hl [1, 2, 3, 4, 0] rfl)
        · have hq := hq.2 c6
          refine lv_iinc (v := (x3 + (1 : Int32))) (lv' := [(3, .int (x3 + (1 : Int32))), (0, .ref (Y.2.1 x0)), (1, .int x1), (2, .ref (Y.2.1 9)), (4, .int x4)]) hx hb dX3_countSmall_37 hl (k := 3) rfl (sy_inc (by decide)) (by decide) rfl (fun ls hl => ?_)
          refine lv_iinc (v := (x4 + (1 : Int32))) (lv' := [(4, .int (x4 + (1 : Int32))), (3, .int (x3 + (1 : Int32))), (0, .ref (Y.2.1 x0)), (1, .int x1), (2, .ref (Y.2.1 9))]) hx hb dX3_countSmall_40 hl (k := 4) rfl (sy_inc (by decide)) (by decide) rfl (fun ls hl => ?_)
          refine lv_goto (tgt := 7) hx hb dX3_countSmall_43 (by decide) ?_
          exact ih M4 x0 x1 (x3 + (1 : Int32)) (x4 + (1 : Int32)) hx0 _ _ _ hq hh (lv_sub hl [2, 3, 4, 1, 0] rfl)

end
set_option maxHeartbeats 4000000 in
set_option maxRecDepth 100000 in
theorem mX3_countSmall (l : Launch) (Y : sy_Y) (sz : Nat) (M : sy_M) (p1 : Nat) (hp1 : iX10 p1) (a2 : Int32) (Q : Int32 → sy_M → Prop) (hq : wX3_countSmall M p1 a2 Q) : Met l yX3_countSmall vsX3_countSmall ({ frames := 3, cells := 0, slots := 0, locals := 69 } : Room) (va_Pc [.ref (Y.2.1 p1), .int a2, .ref (Y.2.1 9)] (sy_pre Y NX EX tfX sz M)) (sy_QI Y NX EX sz Q) 0 0 (sy_A NX Y.2.1 sz) := by
  refine sy_metI (by decide) rfl (Nat.le_of_ble_eq_true rfl) ?_
  intro p e s m args below meth c C ls hl hh
  have hx := C.1.1
  have hb := C.1.2.1
  have hl : lv_has ls 5 [(0, .ref (Y.2.1 p1)), (1, .int a2), (2, .ref (Y.2.1 9))] := hl
  unfold wX3_countSmall at hq
  refine lv_iconst (v := (0 : Int32)) hx hb dX3_countSmall_0 (by decide) ?_
  refine lv_istore_n (lv' := [(3, .int (0 : Int32)), (0, .ref (Y.2.1 p1)), (1, .int a2), (2, .ref (Y.2.1 9))]) hx hb dX3_countSmall_1 rfl hl (by decide) rfl (fun ls hl => ?_)
  refine lv_iload_n hx hb dX3_countSmall_2 rfl (lv_at hl 2 rfl) ?_
  refine lv_iconst (v := (1 : Int32)) hx hb dX3_countSmall_3 (by decide) ?_
  refine lv_iadd hx hb dX3_countSmall_4 ?_
  refine lv_istore (lv' := [(4, .int (a2 + (1 : Int32))), (3, .int (0 : Int32)), (0, .ref (Y.2.1 p1)), (1, .int a2), (2, .ref (Y.2.1 9))]) hx hb dX3_countSmall_5 hl (by decide) rfl (fun ls hl => ?_)
  obtain ⟨n7, hq⟩ := hq
  refine kX3_countSmall_7 C  n7 M p1 a2 (0 : Int32) (a2 + (1 : Int32)) hp1 _ _ _ hq hh (lv_sub hl [2, 3, 4, 1, 0] rfl)

/-! AreaSetter$Items.setFrame(LAreaSetter$Drawings;I)V -/
def wX3_setFrame (M : sy_M) (a2 : Int32) (Q : sy_M → Prop) : Prop := ∃ n1 : Nat, n1 < 2000 ∧ a2 = nI n1 ∧ ∃ n2 : Nat, n2 < 2000 ∧ a2 = nI n2 ∧ ∃ n3 : Nat, n3 < 2000 ∧ a2 = nI n3 ∧ ∃ n4 : Nat, n4 < 2000 ∧ a2 = nI n4 ∧ Q (mu (mu (mu (mu M 28 4 (M 12 n1)) 28 5 ((mu M 28 4 (M 12 n1)) 13 n2)) 28 6 ((mu (mu M 28 4 (M 12 n1)) 28 5 ((mu M 28 4 (M 12 n1)) 13 n2)) 14 n3)) 28 7 ((mu (mu (mu M 28 4 (M 12 n1)) 28 5 ((mu M 28 4 (M 12 n1)) 13 n2)) 28 6 ((mu (mu M 28 4 (M 12 n1)) 28 5 ((mu M 28 4 (M 12 n1)) 13 n2)) 14 n3)) 15 n4))
section
variable {p : Program} {l : Launch} {e : Env} {s : State} {m : MethodId} {args : Array Value} {below : List Frame} {meth : Method} {c : Code} {Y : sy_Y}
end
set_option maxHeartbeats 4000000 in
set_option maxRecDepth 100000 in
theorem mX3_setFrame (l : Launch) (Y : sy_Y) (sz : Nat) (M : sy_M) (a2 : Int32) (Q : sy_M → Prop) (hq : wX3_setFrame M a2 Q) : Met l yX3_setFrame vsX3_setFrame ({ frames := 0, cells := 0, slots := 0, locals := 0 } : Room) (va_Pc [.ref (Y.2.1 28), .ref (Y.2.1 9), .int a2] (sy_pre Y NX EX tfX sz M)) (sy_QV Y NX EX sz Q) 0 0 (sy_A NX Y.2.1 sz) := by
  refine sy_metV (by decide) rfl (Nat.le_of_ble_eq_true rfl) ?_
  intro p e s m args below meth c C ls hl hh
  have hx := C.1.1
  have hb := C.1.2.1
  have hl : lv_has ls 3 [(0, .ref (Y.2.1 28)), (1, .ref (Y.2.1 9)), (2, .int a2)] := hl
  unfold wX3_setFrame at hq
  refine lv_aload_n hx hb dX3_setFrame_0 rfl (lv_at hl 0 rfl) ?_
  refine lv_aload_n hx hb dX3_setFrame_1 rfl (lv_at hl 1 rfl) ?_
  refine sy_get C hh (fun w h => mc (uX_fX2 w h)) 9 (by decide) (oX_9 Y) rfl 2 (by decide) (index := 55) (mc uX_143) (v := .ref (Y.2.1 11)) rfl dX3_setFrame_2 ?_
  refine sy_get C hh (fun w h => mc (uX_fX7 w h)) 11 (by decide) (oX_11 Y) rfl 0 (by decide) (index := 82) (mc uX_159) (v := .ref (Y.2.1 12)) rfl dX3_setFrame_5 ?_
  refine lv_iload_n hx hb dX3_setFrame_8 rfl (lv_at hl 2 rfl) ?_
  obtain ⟨n1, hn1, en1, hq⟩ := hq
  refine sy_iald C hh 12 (by decide) (aX_12 Y) tX_12 hn1 en1 (by decide) dX3_setFrame_9 ?_
  refine sy_put C hh (fun w h => mc (uX_fX3 w h)) tyX3 tyX3_ok nmX3 28 (by decide) (oX_28 Y) rfl 4 (by decide) (index := 25) (mc uX_137) rfl (M 12 n1) (ty := .int) (tyX3_ok 4 (by decide)) rfl rfl (Nat.le_of_ble_eq_true rfl) (pX3_4 Y _ _ _) dX3_setFrame_10 (fun H locs hh => ?_)
  refine lv_aload_n hx hb dX3_setFrame_13 rfl (lv_at hl 0 rfl) ?_
  refine lv_aload_n hx hb dX3_setFrame_14 rfl (lv_at hl 1 rfl) ?_
  refine sy_get C hh (fun w h => mc (uX_fX2 w h)) 9 (by decide) (oX_9 Y) rfl 2 (by decide) (index := 55) (mc uX_143) (v := .ref (Y.2.1 11)) rfl dX3_setFrame_15 ?_
  refine sy_get C hh (fun w h => mc (uX_fX7 w h)) 11 (by decide) (oX_11 Y) rfl 1 (by decide) (index := 84) (mc uX_160) (v := .ref (Y.2.1 13)) rfl dX3_setFrame_18 ?_
  refine lv_iload_n hx hb dX3_setFrame_21 rfl (lv_at hl 2 rfl) ?_
  obtain ⟨n2, hn2, en2, hq⟩ := hq
  refine sy_iald C hh 13 (by decide) (aX_13 Y) tX_13 hn2 en2 (by decide) dX3_setFrame_22 ?_
  refine sy_put C hh (fun w h => mc (uX_fX3 w h)) tyX3 tyX3_ok nmX3 28 (by decide) (oX_28 Y) rfl 5 (by decide) (index := 28) (mc uX_138) rfl ((mu M 28 4 (M 12 n1)) 13 n2) (ty := .int) (tyX3_ok 5 (by decide)) rfl rfl (Nat.le_of_ble_eq_true rfl) (pX3_5 Y _ _ _) dX3_setFrame_23 (fun H locs hh => ?_)
  refine lv_aload_n hx hb dX3_setFrame_26 rfl (lv_at hl 0 rfl) ?_
  refine lv_aload_n hx hb dX3_setFrame_27 rfl (lv_at hl 1 rfl) ?_
  refine sy_get C hh (fun w h => mc (uX_fX2 w h)) 9 (by decide) (oX_9 Y) rfl 2 (by decide) (index := 55) (mc uX_143) (v := .ref (Y.2.1 11)) rfl dX3_setFrame_28 ?_
  refine sy_get C hh (fun w h => mc (uX_fX7 w h)) 11 (by decide) (oX_11 Y) rfl 2 (by decide) (index := 86) (mc uX_161) (v := .ref (Y.2.1 14)) rfl dX3_setFrame_31 ?_
  refine lv_iload_n hx hb dX3_setFrame_34 rfl (lv_at hl 2 rfl) ?_
  obtain ⟨n3, hn3, en3, hq⟩ := hq
  refine sy_iald C hh 14 (by decide) (aX_14 Y) tX_14 hn3 en3 (by decide) dX3_setFrame_35 ?_
  refine sy_put C hh (fun w h => mc (uX_fX3 w h)) tyX3 tyX3_ok nmX3 28 (by decide) (oX_28 Y) rfl 6 (by decide) (index := 31) (mc uX_139) rfl ((mu (mu M 28 4 (M 12 n1)) 28 5 ((mu M 28 4 (M 12 n1)) 13 n2)) 14 n3) (ty := .int) (tyX3_ok 6 (by decide)) rfl rfl (Nat.le_of_ble_eq_true rfl) (pX3_6 Y _ _ _) dX3_setFrame_36 (fun H locs hh => ?_)
  refine lv_aload_n hx hb dX3_setFrame_39 rfl (lv_at hl 0 rfl) ?_
  refine lv_aload_n hx hb dX3_setFrame_40 rfl (lv_at hl 1 rfl) ?_
  refine sy_get C hh (fun w h => mc (uX_fX2 w h)) 9 (by decide) (oX_9 Y) rfl 2 (by decide) (index := 55) (mc uX_143) (v := .ref (Y.2.1 11)) rfl dX3_setFrame_41 ?_
  refine sy_get C hh (fun w h => mc (uX_fX7 w h)) 11 (by decide) (oX_11 Y) rfl 3 (by decide) (index := 88) (mc uX_162) (v := .ref (Y.2.1 15)) rfl dX3_setFrame_44 ?_
  refine lv_iload_n hx hb dX3_setFrame_47 rfl (lv_at hl 2 rfl) ?_
  obtain ⟨n4, hn4, en4, hq⟩ := hq
  refine sy_iald C hh 15 (by decide) (aX_15 Y) tX_15 hn4 en4 (by decide) dX3_setFrame_48 ?_
  refine sy_put C hh (fun w h => mc (uX_fX3 w h)) tyX3 tyX3_ok nmX3 28 (by decide) (oX_28 Y) rfl 7 (by decide) (index := 34) (mc uX_140) rfl ((mu (mu (mu M 28 4 (M 12 n1)) 28 5 ((mu M 28 4 (M 12 n1)) 13 n2)) 28 6 ((mu (mu M 28 4 (M 12 n1)) 28 5 ((mu M 28 4 (M 12 n1)) 13 n2)) 14 n3)) 15 n4) (ty := .int) (tyX3_ok 7 (by decide)) rfl rfl (Nat.le_of_ble_eq_true rfl) (pX3_7 Y _ _ _) dX3_setFrame_49 (fun H locs hh => ?_)
  exact sy_vret C hh dX3_setFrame_52 hq

/-! AreaSetter$Items.gather(LAreaSetter$Tree;ILAreaSetter$Drawings;)V -/
def wX3_gather_116 (K_50 : sy_M → Nat → Int32 → Int32 → Int32 → Prop) (Q : sy_M → Prop) (M : sy_M) (x1 : Nat) (x2 : Int32) (x5 : Int32) (x6 : Int32) (x7 : Int32) : Prop := ∃ n13 : Nat, n13 < 40 ∧ x2 = nI n13 ∧ wX3_add M x6 x7 (M (x1 + 7) n13) (fun M14 => K_50 M14 x1 x2 x5 (x6 + (1 : Int32)))
def wX3_gather_50 (K_136 : sy_M → Int32 → Int32 → Prop) (Q : sy_M → Prop) : Nat → sy_M → Nat → Int32 → Int32 → Int32 → Prop
  | 0, _, _, _, _, _ => False
  | n + 1, M, x1, x2, x5, x6 => (((M x1 0) ≤ x6 → K_136 M x2 x5) ∧ (¬ (M x1 0) ≤ x6 → ∃ n7 : Nat, n7 < 40 ∧ x6 = nI n7 ∧ (((M (x1 + 1) n7) = x2 → wX2_latestCell M x6 (fun r10 M9 => ∃ n11 : Nat, n11 < 2000 ∧ r10 = nI n11 ∧ (((M9 28 1) ≤ 0 → wX3_gather_116 (fun (M15 : sy_M) (x1_16 : Nat) (x2_17 : Int32) (x5_18 : Int32) (x6_19 : Int32) => wX3_gather_50 K_136 Q n M15 x1_16 x2_17 x5_18 x6_19) Q M9 x1 x2 x5 x6 (M9 16 n11)) ∧ (¬ (M9 28 1) ≤ 0 → wX3_isSmall M9 x1 x6 (fun r21 M20 => ((r21 = 0 → wX3_gather_116 (fun (M23 : sy_M) (x1_24 : Nat) (x2_25 : Int32) (x5_26 : Int32) (x6_27 : Int32) => wX3_gather_50 K_136 Q n M23 x1_24 x2_25 x5_26 x6_27) Q M20 x1 x2 x5 x6 (M9 16 n11)) ∧ (¬ r21 = 0 → wX3_gather_50 K_136 Q n M20 x1 x2 (x5 + (M9 16 n11)) (x6 + (1 : Int32))))))))) ∧ (¬ (M (x1 + 1) n7) = x2 → wX3_gather_50 K_136 Q n M x1 x2 x5 (x6 + (1 : Int32))))))
def wX3_gather_154 (K_193 : sy_M → Int32 → Prop) (Q : sy_M → Prop) : Nat → sy_M → Int32 → Int32 → Prop
  | 0, _, _, _ => False
  | n + 1, M, x2, x6 => (((M 28 0) ≤ x6 → K_193 M x2) ∧ (¬ (M 28 0) ≤ x6 → ∃ n33 : Nat, n33 < 9 ∧ x6 = nI n33 ∧ ∃ n34 : Nat, n34 < 8 ∧ x6 = nI n34 ∧ ∃ n35 : Nat, n35 < 9 ∧ (x6 + (1 : Int32)) = nI n35 ∧ wX3_gather_154 K_193 Q n (mu M 31 n35 ((M 31 n33) + (M 30 n34))) x2 (x6 + (1 : Int32))))
def wX3_gather_39 (Q : sy_M → Prop) (M : sy_M) (x1 : Nat) (x2 : Int32) (s1 : Int32) : Prop := ∃ n49 : Nat, wX3_gather_50 (fun (M28 : sy_M) (x2_29 : Int32) (x5_30 : Int32) => (((M28 28 1) ≤ 0 → ∃ n41 : Nat, wX3_gather_154 (fun (M36 : sy_M) (x2_37 : Int32) => wX2_latestCell M36 x2_37 (fun r39 M38 => wX3_setFrame M38 r39 (fun M40 => Q M40))) Q n41 M28 x2_29 (0 : Int32)) ∧ (¬ (M28 28 1) ≤ 0 → wX3_add M28 (-1 : Int32) x5_30 (0 : Int32) (fun M42 => ∃ n48 : Nat, wX3_gather_154 (fun (M43 : sy_M) (x2_44 : Int32) => wX2_latestCell M43 x2_44 (fun r46 M45 => wX3_setFrame M45 r46 (fun M47 => Q M47))) Q n48 M42 x2_29 (0 : Int32))))) Q n49 (mu M 28 1 s1) x1 x2 (0 : Int32) (x2 + (1 : Int32))
def wX3_gather_24 (Q : sy_M → Prop) (M : sy_M) (x1 : Nat) (x2 : Int32) (s0 : Int32) : Prop := ((s0 < (nI 2) → wX3_gather_39  Q M x1 x2 (0 : Int32)) ∧ (¬ s0 < (nI 2) → wX3_gather_39  Q M x1 x2 s0))
def wX3_gather (M : sy_M) (p1 : Nat) (a2 : Int32) (Q : sy_M → Prop) : Prop := ∃ n1 : Nat, n1 < 40 ∧ a2 = nI n1 ∧ ((((mu M 28 0 (0 : Int32)) (p1 + 9) n1) = 0 → wX3_countSmall (mu M 28 0 (0 : Int32)) p1 a2 (fun r4 M3 => wX3_gather_24  Q M3 p1 a2 r4)) ∧ (¬ ((mu M 28 0 (0 : Int32)) (p1 + 9) n1) = 0 → wX3_gather_24  Q (mu M 28 0 (0 : Int32)) p1 a2 (0 : Int32)))
section
variable {p : Program} {l : Launch} {e : Env} {s : State} {m : MethodId} {args : Array Value} {below : List Frame} {meth : Method} {c : Code} {Y : sy_Y}
set_option maxHeartbeats 4000000 in
set_option maxRecDepth 100000 in
theorem kX3_gather_116 (C : sy_C p m c cX3_gather 8 s args vsX3_gather RX3 meth none Y NX tfX) {Q : sy_M → Prop} {K_50 : sy_M → Nat → Int32 → Int32 → Int32 → Prop} (hK_50 : ∀ (M : sy_M) (x1 : Nat) (x2 : Int32) (x5 : Int32) (x6 : Int32) (hx1 : iX10 x1) (H : Heap) (locs : List Loc) (ls : Array Slot), K_50 M x1 x2 x5 x6 → sy_H Y NX EX s H locs M → lv_has ls 8 [(0, .ref (Y.2.1 28)), (1, .ref (Y.2.1 x1)), (2, .int x2), (3, .ref (Y.2.1 9)), (5, .int x5), (6, .int x6)] → W p l e ({ frames := 4, cells := 0, slots := 0, locals := 93 } : Room) s m args below meth c H locs 0 0 (sy_ZV below args s Y NX EX Q) (F0 m 50 ls [])) :
    ∀ (M : sy_M) (x1 : Nat) (x2 : Int32) (x5 : Int32) (x6 : Int32) (x7 : Int32) (hx1 : iX10 x1) (H : Heap) (locs : List Loc) (ls : Array Slot), wX3_gather_116 K_50 Q M x1 x2 x5 x6 x7 → sy_H Y NX EX s H locs M → lv_has ls 8 [(0, .ref (Y.2.1 28)), (1, .ref (Y.2.1 x1)), (2, .int x2), (3, .ref (Y.2.1 9)), (5, .int x5), (6, .int x6), (7, .int x7)] → W p l e ({ frames := 4, cells := 0, slots := 0, locals := 93 } : Room) s m args below meth c H locs 0 0 (sy_ZV below args s Y NX EX Q) (F0 m 116 ls []) := by
  have hx := C.1.1
  have hb := C.1.2.1
  intro M x1 x2 x5 x6 x7 hx1 H locs ls hq hh hl
  unfold wX3_gather_116 at hq
  refine lv_aload_n hx hb dX3_gather_116 rfl (lv_at hl 0 rfl) ?_
  refine lv_iload hx hb dX3_gather_117 (lv_at hl 5 rfl) ?_
  refine lv_iload hx hb dX3_gather_119 (lv_at hl 6 rfl) ?_
  refine lv_aload_n hx hb dX3_gather_121 rfl (lv_at hl 1 rfl) ?_
  refine sy_get C hh (fun w h => mc (uX_fX10 w h)) x1 (iX10_N hx1) (oX10 hx1) rfl 8 (by decide) (index := 71) (mc uX_164) (v := .ref (Y.2.1 (x1 + 7))) rfl dX3_gather_122 ?_
  refine lv_iload_n hx hb dX3_gather_125 rfl (lv_at hl 2 rfl) ?_
  obtain ⟨n13, hn13, en13, hq⟩ := hq
  refine sy_zald C hh (x1 + 7) (iX10_N7 hx1) (aX10_7 hx1) (tX10_7 hx1) hn13 en13 (by decide) dX3_gather_126 ?_
  refine sy_cVV C hh (As := [.int x6, .int x7, .int (M (x1 + 7) n13)]) (rest := []) 28 (by decide) (oX_28 Y) rfl (mX3_add l Y _ M x6 x7 (M (x1 + 7) n13) _ hq) (cwV 3 C.1.2.2.2.2 (sy_goodV uX_good uX_167 uX_168 uX_169 uX_58 uX_157 _) rfl rfl rfl hdX3_add ⟨Nat.le_of_ble_eq_true rfl, Nat.le_of_ble_eq_true rfl⟩) rfl hl.1 rfl (Nat.le_of_ble_eq_true rfl) dX3_gather_127 (fun M14 H locs hq hh => ?_)
  refine lv_iinc (v := (x6 + (1 : Int32))) (lv' := [(6, .int (x6 + (1 : Int32))), (0, .ref (Y.2.1 28)), (1, .ref (Y.2.1 x1)), (2, .int x2), (3, .ref (Y.2.1 9)), (5, .int x5), (7, .int x7)]) hx hb dX3_gather_130 hl (k := 5) rfl (sy_inc (by decide)) (by decide) rfl (fun ls hl => ?_)
  refine lv_goto (tgt := 50) hx hb dX3_gather_133 (by decide) ?_
  exact hK_50 M14 x1 x2 x5 (x6 + (1 : Int32)) hx1 _ _ _ hq hh (lv_sub hl [1, 2, 3, 4, 5, 0] rfl)

set_option maxHeartbeats 4000000 in
set_option maxRecDepth 100000 in
theorem kX3_gather_50 (C : sy_C p m c cX3_gather 8 s args vsX3_gather RX3 meth none Y NX tfX) {Q : sy_M → Prop} {K_136 : sy_M → Int32 → Int32 → Prop} (hK_136 : ∀ (M : sy_M) (x2 : Int32) (x5 : Int32) (H : Heap) (locs : List Loc) (ls : Array Slot), K_136 M x2 x5 → sy_H Y NX EX s H locs M → lv_has ls 8 [(0, .ref (Y.2.1 28)), (2, .int x2), (3, .ref (Y.2.1 9)), (5, .int x5)] → W p l e ({ frames := 4, cells := 0, slots := 0, locals := 93 } : Room) s m args below meth c H locs 0 0 (sy_ZV below args s Y NX EX Q) (F0 m 136 ls [])) :
    ∀ (n : Nat) (M : sy_M) (x1 : Nat) (x2 : Int32) (x5 : Int32) (x6 : Int32) (hx1 : iX10 x1) (H : Heap) (locs : List Loc) (ls : Array Slot), wX3_gather_50 K_136 Q n M x1 x2 x5 x6 → sy_H Y NX EX s H locs M → lv_has ls 8 [(0, .ref (Y.2.1 28)), (1, .ref (Y.2.1 x1)), (2, .int x2), (3, .ref (Y.2.1 9)), (5, .int x5), (6, .int x6)] → W p l e ({ frames := 4, cells := 0, slots := 0, locals := 93 } : Room) s m args below meth c H locs 0 0 (sy_ZV below args s Y NX EX Q) (F0 m 50 ls []) := by
  have hx := C.1.1
  have hb := C.1.2.1
  intro n
  induction n with
  | zero =>
    intro M x1 x2 x5 x6 hx1 H locs ls hq hh hl
    unfold wX3_gather_50 at hq
    exact hq.elim
  | succ n ih =>
    intro M x1 x2 x5 x6 hx1 H locs ls hq hh hl
    unfold wX3_gather_50 at hq
    refine lv_iload hx hb dX3_gather_50 (lv_at hl 5 rfl) ?_
    refine lv_aload_n hx hb dX3_gather_52 rfl (lv_at hl 1 rfl) ?_
    refine sy_get C hh (fun w h => mc (uX_fX10 w h)) x1 (iX10_N hx1) (oX10 hx1) rfl 0 (by decide) (index := 50) (mc uX_153) (v := .int (M x1 0)) rfl dX3_gather_53 ?_
    refine lv_icmp_ge (tgt := 136) hx hb dX3_gather_56 (by decide) (fun c6 => ?_) (fun c6 => ?_)
    · have hq := hq.1 c6
      exact hK_136 M x2 x5 _ _ _ hq hh (lv_sub hl [0, 2, 3, 4] rfl)
    · have hq := hq.2 c6
      refine lv_aload_n hx hb dX3_gather_59 rfl (lv_at hl 1 rfl) ?_
      refine sy_get C hh (fun w h => mc (uX_fX10 w h)) x1 (iX10_N hx1) (oX10 hx1) rfl 2 (by decide) (index := 52) (mc uX_142) (v := .ref (Y.2.1 (x1 + 1))) rfl dX3_gather_60 ?_
      refine lv_iload hx hb dX3_gather_63 (lv_at hl 5 rfl) ?_
      obtain ⟨n7, hn7, en7, hq⟩ := hq
      refine sy_iald C hh (x1 + 1) (iX10_N1 hx1) (aX10_1 hx1) (tX10_1 hx1) hn7 en7 (by decide) dX3_gather_65 ?_
      refine lv_iload_n hx hb dX3_gather_66 rfl (lv_at hl 2 rfl) ?_
      refine lv_icmp_eq (tgt := 73) hx hb dX3_gather_67 (by decide) (fun c8 => ?_) (fun c8 => ?_)
      · have hq := hq.1 c8
        refine lv_aload_n hx hb dX3_gather_73 rfl (lv_at hl 3 rfl) ?_
        refine sy_get C hh (fun w h => mc (uX_fX2 w h)) 9 (by decide) (oX_9 Y) rfl 2 (by decide) (index := 55) (mc uX_143) (v := .ref (Y.2.1 11)) rfl dX3_gather_74 ?_
        refine sy_get C hh (fun w h => mc (uX_fX7 w h)) 11 (by decide) (oX_11 Y) rfl 4 (by decide) (index := 60) (mc uX_144) (v := .ref (Y.2.1 16)) rfl dX3_gather_77 ?_
        refine lv_aload_n hx hb dX3_gather_80 rfl (lv_at hl 3 rfl) ?_
        refine lv_iload hx hb dX3_gather_81 (lv_at hl 5 rfl) ?_
        refine sy_cIV C hh (As := [.int x6]) (rest := [.ref (Y.2.1 16)]) 9 (by decide) (oX_9 Y) rfl (mX2_latestCell l Y _ M x6 _ hq) (cwV 1 C.1.2.2.2.2 (sy_goodV uX_good uX_151 uX_116 uX_117 uX_112 uX_108 _) rfl rfl rfl hdX2_latestCell ⟨Nat.le_of_ble_eq_true rfl, Nat.le_of_ble_eq_true rfl⟩) rfl hl.1 rfl (Nat.le_of_ble_eq_true rfl) dX3_gather_83 (fun r10 M9 H locs hq hh => ?_)
        obtain ⟨n11, hn11, en11, hq⟩ := hq
        refine sy_iald C hh 16 (by decide) (aX_16 Y) tX_16 hn11 en11 (by decide) dX3_gather_86 ?_
        refine lv_istore (lv' := [(7, .int (M9 16 n11)), (0, .ref (Y.2.1 28)), (1, .ref (Y.2.1 x1)), (2, .int x2), (3, .ref (Y.2.1 9)), (5, .int x5), (6, .int x6)]) hx hb dX3_gather_87 hl (by decide) rfl (fun ls hl => ?_)
        refine lv_aload_n hx hb dX3_gather_89 rfl (lv_at hl 1 rfl) ?_
        refine sy_get C hh (fun w h => mc (uX_fX3 w h)) 28 (by decide) (oX_28 Y) rfl 1 (by decide) (index := 15) (mc uX_134) (v := .int (M9 28 1)) rfl dX3_gather_90 ?_
        refine lv_if_le (tgt := 116) hx hb dX3_gather_93 (by decide) (fun c12 => ?_) (fun c12 => ?_)
        · have hq := hq.1 c12
          refine kX3_gather_116 C (fun M15 x1_16 x2_17 x5_18 x6_19 hx1_16 H locs ls hq hh hl => ?_) M9 x1 x2 x5 x6 (M9 16 n11) hx1 _ _ _ hq hh (lv_sub hl [1, 2, 3, 4, 5, 6, 0] rfl)
          · exact ih M15 x1_16 x2_17 x5_18 x6_19 hx1_16 _ _ _ hq hh (lv_sub hl [0, 1, 2, 3, 4, 5] rfl)
        · have hq := hq.2 c12
          refine lv_aload_n hx hb dX3_gather_96 rfl (lv_at hl 2 rfl) ?_
          refine lv_iload hx hb dX3_gather_97 (lv_at hl 6 rfl) ?_
          refine lv_aload_n hx hb dX3_gather_99 rfl (lv_at hl 4 rfl) ?_
          refine sy_cIS C hh (As := [.ref (Y.2.1 x1), .int x6, .ref (Y.2.1 9)]) (rest := []) (mX3_isSmall l Y _ M9 x1 hx1 x6 _ hq) (va_cwS 3 C.1.2.2.2.2 (sy_goodS uX_good uX_154 uX_155 uX_58 uX_152 _) rfl rfl rfl hdX3_isSmall.2 ⟨Nat.le_of_ble_eq_true rfl, Nat.le_of_ble_eq_true rfl⟩) rfl hl.1 rfl (Nat.le_of_ble_eq_true rfl) dX3_gather_100 (fun r21 M20 H locs hq hh => ?_)
          refine lv_if_eq (tgt := 116) hx hb dX3_gather_103 (by decide) (fun c22 => ?_) (fun c22 => ?_)
          · have hq := hq.1 c22
            refine kX3_gather_116 C (fun M23 x1_24 x2_25 x5_26 x6_27 hx1_24 H locs ls hq hh hl => ?_) M20 x1 x2 x5 x6 (M9 16 n11) hx1 _ _ _ hq hh (lv_sub hl [1, 2, 3, 4, 5, 6, 0] rfl)
            · exact ih M23 x1_24 x2_25 x5_26 x6_27 hx1_24 _ _ _ hq hh (lv_sub hl [0, 1, 2, 3, 4, 5] rfl)
          · have hq := hq.2 c22
            refine lv_iload hx hb dX3_gather_106 (lv_at hl 5 rfl) ?_
            refine lv_iload hx hb dX3_gather_108 (lv_at hl 0 rfl) ?_
            refine lv_iadd hx hb dX3_gather_110 ?_
            refine lv_istore (lv' := [(5, .int (x5 + (M9 16 n11))), (7, .int (M9 16 n11)), (0, .ref (Y.2.1 28)), (1, .ref (Y.2.1 x1)), (2, .int x2), (3, .ref (Y.2.1 9)), (6, .int x6)]) hx hb dX3_gather_111 hl (by decide) rfl (fun ls hl => ?_)
            refine lv_goto (tgt := 130) hx hb dX3_gather_113 (by decide) ?_
            refine lv_iinc (v := (x6 + (1 : Int32))) (lv' := [(6, .int (x6 + (1 : Int32))), (5, .int (x5 + (M9 16 n11))), (7, .int (M9 16 n11)), (0, .ref (Y.2.1 28)), (1, .ref (Y.2.1 x1)), (2, .int x2), (3, .ref (Y.2.1 9))]) hx hb dX3_gather_130 hl (k := 6) rfl (sy_inc (by decide)) (by decide) rfl (fun ls hl => ?_)
            refine lv_goto (tgt := 50) hx hb dX3_gather_133 (by decide) ?_
            exact ih M20 x1 x2 (x5 + (M9 16 n11)) (x6 + (1 : Int32)) hx1 _ _ _ hq hh (lv_sub hl [3, 4, 5, 6, 1, 0] rfl)
      · have hq := hq.2 c8
        refine lv_goto (tgt := 130) hx hb dX3_gather_70 (by decide) ?_
        refine lv_iinc (v := (x6 + (1 : Int32))) (lv' := [(6, .int (x6 + (1 : Int32))), (0, .ref (Y.2.1 28)), (1, .ref (Y.2.1 x1)), (2, .int x2), (3, .ref (Y.2.1 9)), (5, .int x5)]) hx hb dX3_gather_130 hl (k := 5) rfl (sy_inc (by decide)) (by decide) rfl (fun ls hl => ?_)
        refine lv_goto (tgt := 50) hx hb dX3_gather_133 (by decide) ?_
        exact ih M x1 x2 x5 (x6 + (1 : Int32)) hx1 _ _ _ hq hh (lv_sub hl [1, 2, 3, 4, 5, 0] rfl)

set_option maxHeartbeats 4000000 in
set_option maxRecDepth 100000 in
theorem kX3_gather_154 (C : sy_C p m c cX3_gather 8 s args vsX3_gather RX3 meth none Y NX tfX) {Q : sy_M → Prop} {K_193 : sy_M → Int32 → Prop} (hK_193 : ∀ (M : sy_M) (x2 : Int32) (H : Heap) (locs : List Loc) (ls : Array Slot), K_193 M x2 → sy_H Y NX EX s H locs M → lv_has ls 8 [(0, .ref (Y.2.1 28)), (2, .int x2), (3, .ref (Y.2.1 9))] → W p l e ({ frames := 4, cells := 0, slots := 0, locals := 93 } : Room) s m args below meth c H locs 0 0 (sy_ZV below args s Y NX EX Q) (F0 m 193 ls [])) :
    ∀ (n : Nat) (M : sy_M) (x2 : Int32) (x6 : Int32) (H : Heap) (locs : List Loc) (ls : Array Slot), wX3_gather_154 K_193 Q n M x2 x6 → sy_H Y NX EX s H locs M → lv_has ls 8 [(0, .ref (Y.2.1 28)), (2, .int x2), (3, .ref (Y.2.1 9)), (6, .int x6)] → W p l e ({ frames := 4, cells := 0, slots := 0, locals := 93 } : Room) s m args below meth c H locs 0 0 (sy_ZV below args s Y NX EX Q) (F0 m 154 ls []) := by
  have hx := C.1.1
  have hb := C.1.2.1
  intro n
  induction n with
  | zero =>
    intro M x2 x6 H locs ls hq hh hl
    unfold wX3_gather_154 at hq
    exact hq.elim
  | succ n ih =>
    intro M x2 x6 H locs ls hq hh hl
    unfold wX3_gather_154 at hq
    refine lv_iload hx hb dX3_gather_154 (lv_at hl 3 rfl) ?_
    refine lv_aload_n hx hb dX3_gather_156 rfl (lv_at hl 0 rfl) ?_
    refine sy_get C hh (fun w h => mc (uX_fX3 w h)) 28 (by decide) (oX_28 Y) rfl 0 (by decide) (index := 9) (mc uX_133) (v := .int (M 28 0)) rfl dX3_gather_157 ?_
    refine lv_icmp_ge (tgt := 193) hx hb dX3_gather_160 (by decide) (fun c32 => ?_) (fun c32 => ?_)
    · have hq := hq.1 c32
      exact hK_193 M x2 _ _ _ hq hh (lv_sub hl [0, 1, 2] rfl)
    · have hq := hq.2 c32
      refine lv_aload_n hx hb dX3_gather_163 rfl (lv_at hl 0 rfl) ?_
      refine sy_get C hh (fun w h => mc (uX_fX3 w h)) 28 (by decide) (oX_28 Y) rfl 8 (by decide) (index := 37) (mc uX_49) (v := .ref (Y.2.1 31)) rfl dX3_gather_164 ?_
      refine lv_iload hx hb dX3_gather_167 (lv_at hl 3 rfl) ?_
      refine lv_iconst (v := (1 : Int32)) hx hb dX3_gather_169 (by decide) ?_
      refine lv_iadd hx hb dX3_gather_170 ?_
      refine lv_aload_n hx hb dX3_gather_171 rfl (lv_at hl 0 rfl) ?_
      refine sy_get C hh (fun w h => mc (uX_fX3 w h)) 28 (by decide) (oX_28 Y) rfl 8 (by decide) (index := 37) (mc uX_49) (v := .ref (Y.2.1 31)) rfl dX3_gather_172 ?_
      refine lv_iload hx hb dX3_gather_175 (lv_at hl 3 rfl) ?_
      obtain ⟨n33, hn33, en33, hq⟩ := hq
      refine sy_iald C hh 31 (by decide) (aX_31 Y) tX_31 hn33 en33 (by decide) dX3_gather_177 ?_
      refine lv_aload_n hx hb dX3_gather_178 rfl (lv_at hl 0 rfl) ?_
      refine sy_get C hh (fun w h => mc (uX_fX3 w h)) 28 (by decide) (oX_28 Y) rfl 3 (by decide) (index := 22) (mc uX_136) (v := .ref (Y.2.1 30)) rfl dX3_gather_179 ?_
      refine lv_iload hx hb dX3_gather_182 (lv_at hl 3 rfl) ?_
      obtain ⟨n34, hn34, en34, hq⟩ := hq
      refine sy_iald C hh 30 (by decide) (aX_30 Y) tX_30 hn34 en34 (by decide) dX3_gather_184 ?_
      refine lv_iadd hx hb dX3_gather_185 ?_
      obtain ⟨n35, hn35, en35, hq⟩ := hq
      refine sy_iast C hh 31 (by decide) (aX_31 Y) tX_31 hn35 en35 (by decide) dX3_gather_186 (fun H locs hh => ?_)
      refine lv_iinc (v := (x6 + (1 : Int32))) (lv' := [(6, .int (x6 + (1 : Int32))), (0, .ref (Y.2.1 28)), (2, .int x2), (3, .ref (Y.2.1 9))]) hx hb dX3_gather_187 hl (k := 3) rfl (sy_inc (by decide)) (by decide) rfl (fun ls hl => ?_)
      refine lv_goto (tgt := 154) hx hb dX3_gather_190 (by decide) ?_
      exact ih (mu M 31 n35 ((M 31 n33) + (M 30 n34))) x2 (x6 + (1 : Int32)) _ _ _ hq hh (lv_sub hl [1, 2, 3, 0] rfl)

set_option maxHeartbeats 4000000 in
set_option maxRecDepth 100000 in
theorem kX3_gather_39 (C : sy_C p m c cX3_gather 8 s args vsX3_gather RX3 meth none Y NX tfX) {Q : sy_M → Prop} :
    ∀ (M : sy_M) (x1 : Nat) (x2 : Int32) (s1 : Int32) (hx1 : iX10 x1) (H : Heap) (locs : List Loc) (ls : Array Slot), wX3_gather_39 Q M x1 x2 s1 → sy_H Y NX EX s H locs M → lv_has ls 8 [(0, .ref (Y.2.1 28)), (1, .ref (Y.2.1 x1)), (2, .int x2), (3, .ref (Y.2.1 9))] → W p l e ({ frames := 4, cells := 0, slots := 0, locals := 93 } : Room) s m args below meth c H locs 0 0 (sy_ZV below args s Y NX EX Q) (F0 m 39 ls [.int s1, .ref (Y.2.1 28)]) := by
  have hx := C.1.1
  have hb := C.1.2.1
  intro M x1 x2 s1 hx1 H locs ls hq hh hl
  unfold wX3_gather_39 at hq
  refine sy_put C hh (fun w h => mc (uX_fX3 w h)) tyX3 tyX3_ok nmX3 28 (by decide) (oX_28 Y) rfl 1 (by decide) (index := 15) (mc uX_134) rfl s1 (ty := .int) (tyX3_ok 1 (by decide)) rfl rfl (Nat.le_of_ble_eq_true rfl) (pX3_1 Y _ _ _) dX3_gather_39 (fun H locs hh => ?_)
  refine lv_iconst (v := (0 : Int32)) hx hb dX3_gather_42 (by decide) ?_
  refine lv_istore (lv' := [(5, .int (0 : Int32)), (0, .ref (Y.2.1 28)), (1, .ref (Y.2.1 x1)), (2, .int x2), (3, .ref (Y.2.1 9))]) hx hb dX3_gather_43 hl (by decide) rfl (fun ls hl => ?_)
  refine lv_iload_n hx hb dX3_gather_45 rfl (lv_at hl 3 rfl) ?_
  refine lv_iconst (v := (1 : Int32)) hx hb dX3_gather_46 (by decide) ?_
  refine lv_iadd hx hb dX3_gather_47 ?_
  refine lv_istore (lv' := [(6, .int (x2 + (1 : Int32))), (5, .int (0 : Int32)), (0, .ref (Y.2.1 28)), (1, .ref (Y.2.1 x1)), (2, .int x2), (3, .ref (Y.2.1 9))]) hx hb dX3_gather_48 hl (by decide) rfl (fun ls hl => ?_)
  obtain ⟨n49, hq⟩ := hq
  refine kX3_gather_50 C (fun M28 x2_29 x5_30 H locs ls hq hh hl => ?_) n49 (mu M 28 1 s1) x1 x2 (0 : Int32) (x2 + (1 : Int32)) hx1 _ _ _ hq hh (lv_sub hl [2, 3, 4, 5, 1, 0] rfl)
  · refine lv_aload_n hx hb dX3_gather_136 rfl (lv_at hl 0 rfl) ?_
    refine sy_get C hh (fun w h => mc (uX_fX3 w h)) 28 (by decide) (oX_28 Y) rfl 1 (by decide) (index := 15) (mc uX_134) (v := .int (M28 28 1)) rfl dX3_gather_137 ?_
    refine lv_if_le (tgt := 151) hx hb dX3_gather_140 (by decide) (fun c31 => ?_) (fun c31 => ?_)
    · have hq := hq.1 c31
      refine lv_iconst (v := (0 : Int32)) hx hb dX3_gather_151 (by decide) ?_
      refine lv_istore (lv' := [(6, .int (0 : Int32)), (0, .ref (Y.2.1 28)), (2, .int x2_29), (3, .ref (Y.2.1 9)), (5, .int x5_30)]) hx hb dX3_gather_152 hl (by decide) rfl (fun ls hl => ?_)
      obtain ⟨n41, hq⟩ := hq
      refine kX3_gather_154 C (fun M36 x2_37 H locs ls hq hh hl => ?_) n41 M28 x2_29 (0 : Int32) _ _ _ hq hh (lv_sub hl [1, 2, 3, 0] rfl)
      · refine lv_aload_n hx hb dX3_gather_193 rfl (lv_at hl 0 rfl) ?_
        refine lv_aload_n hx hb dX3_gather_194 rfl (lv_at hl 2 rfl) ?_
        refine lv_aload_n hx hb dX3_gather_195 rfl (lv_at hl 2 rfl) ?_
        refine lv_iload_n hx hb dX3_gather_196 rfl (lv_at hl 1 rfl) ?_
        refine sy_cIV C hh (As := [.int x2_37]) (rest := [.ref (Y.2.1 9), .ref (Y.2.1 28)]) 9 (by decide) (oX_9 Y) rfl (mX2_latestCell l Y _ M36 x2_37 _ hq) (cwV 1 C.1.2.2.2.2 (sy_goodV uX_good uX_151 uX_116 uX_117 uX_112 uX_108 _) rfl rfl rfl hdX2_latestCell ⟨Nat.le_of_ble_eq_true rfl, Nat.le_of_ble_eq_true rfl⟩) rfl hl.1 rfl (Nat.le_of_ble_eq_true rfl) dX3_gather_197 (fun r39 M38 H locs hq hh => ?_)
        refine sy_cVV C hh (As := [.ref (Y.2.1 9), .int r39]) (rest := []) 28 (by decide) (oX_28 Y) rfl (mX3_setFrame l Y _ M38 r39 _ hq) (cwV 2 C.1.2.2.2.2 (sy_goodV uX_good uX_170 uX_171 uX_172 uX_58 uX_158 _) rfl rfl rfl hdX3_setFrame ⟨Nat.le_of_ble_eq_true rfl, Nat.le_of_ble_eq_true rfl⟩) rfl hl.1 rfl (Nat.le_of_ble_eq_true rfl) dX3_gather_200 (fun M40 H locs hq hh => ?_)
        exact sy_vret C hh dX3_gather_203 hq
    · have hq := hq.2 c31
      refine lv_aload_n hx hb dX3_gather_143 rfl (lv_at hl 0 rfl) ?_
      refine lv_iconst (v := (-1 : Int32)) hx hb dX3_gather_144 (by decide) ?_
      refine lv_iload hx hb dX3_gather_145 (lv_at hl 3 rfl) ?_
      refine lv_iconst (v := (0 : Int32)) hx hb dX3_gather_147 (by decide) ?_
      refine sy_cVV C hh (As := [.int (-1 : Int32), .int x5_30, .int (0 : Int32)]) (rest := []) 28 (by decide) (oX_28 Y) rfl (mX3_add l Y _ M28 (-1 : Int32) x5_30 (0 : Int32) _ hq) (cwV 3 C.1.2.2.2.2 (sy_goodV uX_good uX_167 uX_168 uX_169 uX_58 uX_157 _) rfl rfl rfl hdX3_add ⟨Nat.le_of_ble_eq_true rfl, Nat.le_of_ble_eq_true rfl⟩) rfl hl.1 rfl (Nat.le_of_ble_eq_true rfl) dX3_gather_148 (fun M42 H locs hq hh => ?_)
      refine lv_iconst (v := (0 : Int32)) hx hb dX3_gather_151 (by decide) ?_
      refine lv_istore (lv' := [(6, .int (0 : Int32)), (0, .ref (Y.2.1 28)), (2, .int x2_29), (3, .ref (Y.2.1 9)), (5, .int x5_30)]) hx hb dX3_gather_152 hl (by decide) rfl (fun ls hl => ?_)
      obtain ⟨n48, hq⟩ := hq
      refine kX3_gather_154 C (fun M43 x2_44 H locs ls hq hh hl => ?_) n48 M42 x2_29 (0 : Int32) _ _ _ hq hh (lv_sub hl [1, 2, 3, 0] rfl)
      · refine lv_aload_n hx hb dX3_gather_193 rfl (lv_at hl 0 rfl) ?_
        refine lv_aload_n hx hb dX3_gather_194 rfl (lv_at hl 2 rfl) ?_
        refine lv_aload_n hx hb dX3_gather_195 rfl (lv_at hl 2 rfl) ?_
        refine lv_iload_n hx hb dX3_gather_196 rfl (lv_at hl 1 rfl) ?_
        refine sy_cIV C hh (As := [.int x2_44]) (rest := [.ref (Y.2.1 9), .ref (Y.2.1 28)]) 9 (by decide) (oX_9 Y) rfl (mX2_latestCell l Y _ M43 x2_44 _ hq) (cwV 1 C.1.2.2.2.2 (sy_goodV uX_good uX_151 uX_116 uX_117 uX_112 uX_108 _) rfl rfl rfl hdX2_latestCell ⟨Nat.le_of_ble_eq_true rfl, Nat.le_of_ble_eq_true rfl⟩) rfl hl.1 rfl (Nat.le_of_ble_eq_true rfl) dX3_gather_197 (fun r46 M45 H locs hq hh => ?_)
        refine sy_cVV C hh (As := [.ref (Y.2.1 9), .int r46]) (rest := []) 28 (by decide) (oX_28 Y) rfl (mX3_setFrame l Y _ M45 r46 _ hq) (cwV 2 C.1.2.2.2.2 (sy_goodV uX_good uX_170 uX_171 uX_172 uX_58 uX_158 _) rfl rfl rfl hdX3_setFrame ⟨Nat.le_of_ble_eq_true rfl, Nat.le_of_ble_eq_true rfl⟩) rfl hl.1 rfl (Nat.le_of_ble_eq_true rfl) dX3_gather_200 (fun M47 H locs hq hh => ?_)
        exact sy_vret C hh dX3_gather_203 hq

set_option maxHeartbeats 4000000 in
set_option maxRecDepth 100000 in
theorem kX3_gather_24 (C : sy_C p m c cX3_gather 8 s args vsX3_gather RX3 meth none Y NX tfX) {Q : sy_M → Prop} :
    ∀ (M : sy_M) (x1 : Nat) (x2 : Int32) (s0 : Int32) (hx1 : iX10 x1) (H : Heap) (locs : List Loc) (ls : Array Slot), wX3_gather_24 Q M x1 x2 s0 → sy_H Y NX EX s H locs M → lv_has ls 8 [(0, .ref (Y.2.1 28)), (1, .ref (Y.2.1 x1)), (2, .int x2), (3, .ref (Y.2.1 9))] → W p l e ({ frames := 4, cells := 0, slots := 0, locals := 93 } : Room) s m args below meth c H locs 0 0 (sy_ZV below args s Y NX EX Q) (F0 m 24 ls [.int s0]) := by
  have hx := C.1.1
  have hb := C.1.2.1
  intro M x1 x2 s0 hx1 H locs ls hq hh hl
  unfold wX3_gather_24 at hq
  refine lv_istore (lv' := [(4, .int s0), (0, .ref (Y.2.1 28)), (1, .ref (Y.2.1 x1)), (2, .int x2), (3, .ref (Y.2.1 9))]) hx hb dX3_gather_24 hl (by decide) rfl (fun ls hl => ?_)
  refine lv_aload_n hx hb dX3_gather_26 rfl (lv_at hl 1 rfl) ?_
  refine lv_iload hx hb dX3_gather_27 (lv_at hl 0 rfl) ?_
  refine lv_iconst (v := (nI 2)) hx hb dX3_gather_29 (by decide) ?_
  refine lv_icmp_lt (tgt := 38) hx hb dX3_gather_30 (by decide) (fun c5 => ?_) (fun c5 => ?_)
  · have hq := hq.1 c5
    refine lv_iconst (v := (0 : Int32)) hx hb dX3_gather_38 (by decide) ?_
    refine kX3_gather_39 C  M x1 x2 (0 : Int32) hx1 _ _ _ hq hh (lv_sub hl [1, 2, 3, 4] rfl)
  · have hq := hq.2 c5
    refine lv_iload hx hb dX3_gather_33 (lv_at hl 0 rfl) ?_
    refine lv_goto (tgt := 39) hx hb dX3_gather_35 (by decide) ?_
    refine kX3_gather_39 C  M x1 x2 s0 hx1 _ _ _ hq hh (lv_sub hl [1, 2, 3, 4] rfl)

end
set_option maxHeartbeats 4000000 in
set_option maxRecDepth 100000 in
theorem mX3_gather (l : Launch) (Y : sy_Y) (sz : Nat) (M : sy_M) (p1 : Nat) (hp1 : iX10 p1) (a2 : Int32) (Q : sy_M → Prop) (hq : wX3_gather M p1 a2 Q) : Met l yX3_gather vsX3_gather ({ frames := 4, cells := 0, slots := 0, locals := 93 } : Room) (va_Pc [.ref (Y.2.1 28), .ref (Y.2.1 p1), .int a2, .ref (Y.2.1 9)] (sy_pre Y NX EX tfX sz M)) (sy_QV Y NX EX sz Q) 0 0 (sy_A NX Y.2.1 sz) := by
  refine sy_metV (by decide) rfl (Nat.le_of_ble_eq_true rfl) ?_
  intro p e s m args below meth c C ls hl hh
  have hx := C.1.1
  have hb := C.1.2.1
  have hl : lv_has ls 8 [(0, .ref (Y.2.1 28)), (1, .ref (Y.2.1 p1)), (2, .int a2), (3, .ref (Y.2.1 9))] := hl
  unfold wX3_gather at hq
  refine lv_aload_n hx hb dX3_gather_0 rfl (lv_at hl 0 rfl) ?_
  refine lv_iconst (v := (0 : Int32)) hx hb dX3_gather_1 (by decide) ?_
  refine sy_put C hh (fun w h => mc (uX_fX3 w h)) tyX3 tyX3_ok nmX3 28 (by decide) (oX_28 Y) rfl 0 (by decide) (index := 9) (mc uX_133) rfl (0 : Int32) (ty := .int) (tyX3_ok 0 (by decide)) rfl rfl (Nat.le_of_ble_eq_true rfl) (pX3_0 Y _ _ _) dX3_gather_2 (fun H locs hh => ?_)
  refine lv_aload_n hx hb dX3_gather_5 rfl (lv_at hl 1 rfl) ?_
  refine sy_get C hh (fun w h => mc (uX_fX10 w h)) p1 (iX10_N hp1) (oX10 hp1) rfl 10 (by decide) (index := 40) (mc uX_163) (v := .ref (Y.2.1 (p1 + 9))) rfl dX3_gather_6 ?_
  refine lv_iload_n hx hb dX3_gather_9 rfl (lv_at hl 2 rfl) ?_
  obtain ⟨n1, hn1, en1, hq⟩ := hq
  refine sy_zald C hh (p1 + 9) (iX10_N9 hp1) (aX10_9 hp1) (tX10_9 hp1) hn1 en1 (by decide) dX3_gather_10 ?_
  refine lv_if_eq (tgt := 18) hx hb dX3_gather_11 (by decide) (fun c2 => ?_) (fun c2 => ?_)
  · have hq := hq.1 c2
    refine lv_aload_n hx hb dX3_gather_18 rfl (lv_at hl 1 rfl) ?_
    refine lv_iload_n hx hb dX3_gather_19 rfl (lv_at hl 2 rfl) ?_
    refine lv_aload_n hx hb dX3_gather_20 rfl (lv_at hl 3 rfl) ?_
    refine sy_cIS C hh (As := [.ref (Y.2.1 p1), .int a2, .ref (Y.2.1 9)]) (rest := []) (mX3_countSmall l Y _ (mu M 28 0 (0 : Int32)) p1 hp1 a2 _ hq) (va_cwS 3 C.1.2.2.2.2 (sy_goodS uX_good uX_165 uX_166 uX_58 uX_156 _) rfl rfl rfl hdX3_countSmall.2 ⟨Nat.le_of_ble_eq_true rfl, Nat.le_of_ble_eq_true rfl⟩) rfl hl.1 rfl (Nat.le_of_ble_eq_true rfl) dX3_gather_21 (fun r4 M3 H locs hq hh => ?_)
    refine kX3_gather_24 C  M3 p1 a2 r4 hp1 _ _ _ hq hh (lv_sub hl [0, 1, 2, 3] rfl)
  · have hq := hq.2 c2
    refine lv_iconst (v := (0 : Int32)) hx hb dX3_gather_14 (by decide) ?_
    refine lv_goto (tgt := 24) hx hb dX3_gather_15 (by decide) ?_
    refine kX3_gather_24 C  (mu M 28 0 (0 : Int32)) p1 a2 (0 : Int32) hp1 _ _ _ hq hh (lv_sub hl [0, 1, 2, 3] rfl)

/-! AreaSetter$Items.sum(II)I -/
def wX3_sum (M : sy_M) (a1 : Int32) (a2 : Int32) (Q : Int32 → sy_M → Prop) : Prop := ∃ n1 : Nat, n1 < 9 ∧ a2 = nI n1 ∧ ∃ n2 : Nat, n2 < 9 ∧ a1 = nI n2 ∧ Q ((M 31 n1) - (M 31 n2)) M
section
variable {p : Program} {l : Launch} {e : Env} {s : State} {m : MethodId} {args : Array Value} {below : List Frame} {meth : Method} {c : Code} {Y : sy_Y}
end
set_option maxHeartbeats 4000000 in
set_option maxRecDepth 100000 in
theorem mX3_sum (l : Launch) (Y : sy_Y) (sz : Nat) (M : sy_M) (a1 : Int32) (a2 : Int32) (Q : Int32 → sy_M → Prop) (hq : wX3_sum M a1 a2 Q) : Met l yX3_sum vsX3_sum ({ frames := 0, cells := 0, slots := 0, locals := 0 } : Room) (va_Pc [.ref (Y.2.1 28), .int a1, .int a2] (sy_pre Y NX EX tfX sz M)) (sy_QI Y NX EX sz Q) 0 0 (sy_A NX Y.2.1 sz) := by
  refine sy_metI (by decide) rfl (Nat.le_of_ble_eq_true rfl) ?_
  intro p e s m args below meth c C ls hl hh
  have hx := C.1.1
  have hb := C.1.2.1
  have hl : lv_has ls 3 [(0, .ref (Y.2.1 28)), (1, .int a1), (2, .int a2)] := hl
  unfold wX3_sum at hq
  refine lv_aload_n hx hb dX3_sum_0 rfl (lv_at hl 0 rfl) ?_
  refine sy_get C hh (fun w h => mc (uX_fX3 w h)) 28 (by decide) (oX_28 Y) rfl 8 (by decide) (index := 37) (mc uX_49) (v := .ref (Y.2.1 31)) rfl dX3_sum_1 ?_
  refine lv_iload_n hx hb dX3_sum_4 rfl (lv_at hl 2 rfl) ?_
  obtain ⟨n1, hn1, en1, hq⟩ := hq
  refine sy_iald C hh 31 (by decide) (aX_31 Y) tX_31 hn1 en1 (by decide) dX3_sum_5 ?_
  refine lv_aload_n hx hb dX3_sum_6 rfl (lv_at hl 0 rfl) ?_
  refine sy_get C hh (fun w h => mc (uX_fX3 w h)) 28 (by decide) (oX_28 Y) rfl 8 (by decide) (index := 37) (mc uX_49) (v := .ref (Y.2.1 31)) rfl dX3_sum_7 ?_
  refine lv_iload_n hx hb dX3_sum_10 rfl (lv_at hl 1 rfl) ?_
  obtain ⟨n2, hn2, en2, hq⟩ := hq
  refine sy_iald C hh 31 (by decide) (aX_31 Y) tX_31 hn2 en2 (by decide) dX3_sum_11 ?_
  refine lv_isub hx hb dX3_sum_12 ?_
  exact sy_iret C hh dX3_sum_13 hq

/-! AreaSetter.share(III)I -/
def wX11_share (M : sy_M) (a1 : Int32) (a2 : Int32) (a3 : Int32) (Q : Int32 → sy_M → Prop) : Prop := ((0 < a3 → (¬ (a3.toInt64) = 0) ∧ Q ((((a1.toInt64) * (a2.toInt64)) / (a3.toInt64)).toInt32) M) ∧ (¬ 0 < a3 → Q (0 : Int32) M))
section
variable {p : Program} {l : Launch} {e : Env} {s : State} {m : MethodId} {args : Array Value} {below : List Frame} {meth : Method} {c : Code} {Y : sy_Y}
end
set_option maxHeartbeats 4000000 in
set_option maxRecDepth 100000 in
theorem mX11_share (l : Launch) (Y : sy_Y) (sz : Nat) (M : sy_M) (a1 : Int32) (a2 : Int32) (a3 : Int32) (Q : Int32 → sy_M → Prop) (hq : wX11_share M a1 a2 a3 Q) : Met l yX11_share vsX11_share ({ frames := 0, cells := 0, slots := 0, locals := 0 } : Room) (va_Pc [.int a1, .int a2, .int a3] (sy_pre Y NX EX tfX sz M)) (sy_QI Y NX EX sz Q) 0 0 (sy_A NX Y.2.1 sz) := by
  refine sy_metI (by decide) rfl (Nat.le_of_ble_eq_true rfl) ?_
  intro p e s m args below meth c C ls hl hh
  have hx := C.1.1
  have hb := C.1.2.1
  have hl : lv_has ls 3 [(0, .int a1), (1, .int a2), (2, .int a3)] := hl
  unfold wX11_share at hq
  refine lv_iload_n hx hb dX11_share_0 rfl (lv_at hl 2 rfl) ?_
  refine lv_if_gt (tgt := 8) hx hb dX11_share_1 (by decide) (fun c1 => ?_) (fun c1 => ?_)
  · have hq := hq.1 c1
    refine lv_iload_n hx hb dX11_share_8 rfl (lv_at hl 0 rfl) ?_
    refine lv_i2l (v := (a1.toInt64)) hx hb dX11_share_9 rfl ?_
    refine lv_iload_n hx hb dX11_share_10 rfl (lv_at hl 1 rfl) ?_
    refine lv_i2l (v := (a2.toInt64)) hx hb dX11_share_11 rfl ?_
    refine lv_lmul hx hb dX11_share_12 ?_
    refine lv_iload_n hx hb dX11_share_13 rfl (lv_at hl 2 rfl) ?_
    refine lv_i2l (v := (a3.toInt64)) hx hb dX11_share_14 rfl ?_
    obtain ⟨e2, hq⟩ := hq
    refine lv_ldiv hx hb dX11_share_15 e2 ?_
    refine lv_l2i (v := ((((a1.toInt64) * (a2.toInt64)) / (a3.toInt64)).toInt32)) hx hb dX11_share_16 rfl ?_
    exact sy_iret C hh dX11_share_17 hq
  · have hq := hq.2 c1
    refine lv_iconst (v := (0 : Int32)) hx hb dX11_share_4 (by decide) ?_
    refine lv_goto (tgt := 17) hx hb dX11_share_5 (by decide) ?_
    exact sy_iret C hh dX11_share_17 hq

/-! AreaSetter$Cutter.worstOfCut(IIIIII)I -/
def wX1_worstOfCut_123 (rec : sy_M → Int32 → Int32 → Int32 → Int32 → Int32 → (Int32 → sy_M → Prop) → Prop) (Q : Int32 → sy_M → Prop) (M : sy_M) (x9 : Int32) (s0 : Int32) : Prop := Q (imax x9 s0) M
def wX1_worstOfCut_76 (rec : sy_M → Int32 → Int32 → Int32 → Int32 → Int32 → (Int32 → sy_M → Prop) → Prop) (Q : Int32 → sy_M → Prop) (M : sy_M) (x1 : Int32) (x2 : Int32) (x3 : Int32) (x4 : Int32) (x5 : Int32) (x6 : Int32) (x7 : Int32) (x8 : Int32) (s0 : Int32) : Prop := ((s0 < x6 → ((x8 = 0 → rec M x1 x2 x7 x5 x6 (fun r16 M15 => wX1_worstOfCut_123 rec  Q M15 s0 r16)) ∧ (¬ x8 = 0 → rec M x2 x3 (x4 - x7) x5 x6 (fun r18 M17 => wX1_worstOfCut_123 rec  Q M17 s0 r18)))) ∧ (¬ s0 < x6 → Q s0 M))
def wX1_worstOfCut_39 (rec : sy_M → Int32 → Int32 → Int32 → Int32 → Int32 → (Int32 → sy_M → Prop) → Prop) (Q : Int32 → sy_M → Prop) (M : sy_M) (x1 : Int32) (x2 : Int32) (x3 : Int32) (x4 : Int32) (x5 : Int32) (x6 : Int32) (x7 : Int32) (s0 : Int32) : Prop := ((s0 = 0 → rec M x2 x3 (x4 - x7) x5 x6 (fun r12 M11 => wX1_worstOfCut_76 rec  Q M11 x1 x2 x3 x4 x5 x6 x7 s0 r12)) ∧ (¬ s0 = 0 → rec M x1 x2 x7 x5 x6 (fun r20 M19 => wX1_worstOfCut_76 rec  Q M19 x1 x2 x3 x4 x5 x6 x7 s0 r20)))
def wX1_worstOfCut (rec : sy_M → Int32 → Int32 → Int32 → Int32 → Int32 → (Int32 → sy_M → Prop) → Prop) (M : sy_M) (a1 : Int32) (a2 : Int32) (a3 : Int32) (a4 : Int32) (a5 : Int32) (a6 : Int32) (Q : Int32 → sy_M → Prop) : Prop := M 58 0 = nI 28 ∧ wX3_sum M a1 a2 (fun r3 M2 => M2 58 0 = nI 28 ∧ wX3_sum M2 a1 a3 (fun r6 M5 => wX11_share M5 a4 r3 r6 (fun r8 M7 => (((a3 - a2) < (a2 - a1) → wX1_worstOfCut_39 rec  Q M7 a1 a2 a3 a4 a5 a6 r8 (0 : Int32)) ∧ (¬ (a3 - a2) < (a2 - a1) → wX1_worstOfCut_39 rec  Q M7 a1 a2 a3 a4 a5 a6 r8 (1 : Int32))))))
section
variable {p : Program} {l : Launch} {e : Env} {s : State} {m : MethodId} {args : Array Value} {below : List Frame} {meth : Method} {c : Code} {Y : sy_Y}
set_option maxHeartbeats 4000000 in
set_option maxRecDepth 100000 in
theorem kX1_worstOfCut_123 (C : sy_C p m c cX1_worstOfCut 11 s args vsX1_worstOfCut RX1 meth (some .int) Y NX tfX) {rec : sy_M → Int32 → Int32 → Int32 → Int32 → Int32 → (Int32 → sy_M → Prop) → Prop} {d : Nat} (hrec : ∀ (sz : Nat) (M : sy_M) (a1 : Int32) (a2 : Int32) (a3 : Int32) (a4 : Int32) (a5 : Int32) (Q : Int32 → sy_M → Prop), rec M a1 a2 a3 a4 a5 Q → Met l yX1_leastWorst vsX1_leastWorst ({ frames := 2 * d + 4, cells := 0, slots := 0, locals := 57 * d + 152 } : Room) (va_Pc [.ref (Y.2.1 58), .int a1, .int a2, .int a3, .int a4, .int a5] (sy_pre Y NX EX tfX sz M)) (sy_QI Y NX EX sz Q) 0 0 (sy_A NX Y.2.1 sz)) {Q : Int32 → sy_M → Prop} :
    ∀ (M : sy_M) (x9 : Int32) (s0 : Int32) (H : Heap) (locs : List Loc) (ls : Array Slot), wX1_worstOfCut_123 rec Q M x9 s0 → sy_H Y NX EX s H locs M → lv_has ls 11 [(9, .int x9)] → W p l e ({ frames := 2 * d + 5, cells := 0, slots := 0, locals := 57 * d + 179 } : Room) s m args below meth c H locs 0 0 (sy_ZI below args s Y NX EX Q) (F0 m 123 ls [.int s0]) := by
  have hx := C.1.1
  have hb := C.1.2.1
  intro M x9 s0 H locs ls hq hh hl
  unfold wX1_worstOfCut_123 at hq
  refine lv_istore (lv' := [(10, .int s0), (9, .int x9)]) hx hb dX1_worstOfCut_123 hl (by decide) rfl (fun ls hl => ?_)
  refine lv_iload hx hb dX1_worstOfCut_125 (lv_at hl 1 rfl) ?_
  refine lv_iload hx hb dX1_worstOfCut_127 (lv_at hl 0 rfl) ?_
  refine sy_mmax C hl (index := 69) (mc uX_64) (mc uX_35) (mc uX_31) (mc uX_36) (by dsimp only; omega) (by simp [Value.category] <;> omega) dX1_worstOfCut_129 ?_
  exact sy_iret C hh dX1_worstOfCut_132 hq

set_option maxHeartbeats 4000000 in
set_option maxRecDepth 100000 in
theorem kX1_worstOfCut_76 (C : sy_C p m c cX1_worstOfCut 11 s args vsX1_worstOfCut RX1 meth (some .int) Y NX tfX) {rec : sy_M → Int32 → Int32 → Int32 → Int32 → Int32 → (Int32 → sy_M → Prop) → Prop} {d : Nat} (hrec : ∀ (sz : Nat) (M : sy_M) (a1 : Int32) (a2 : Int32) (a3 : Int32) (a4 : Int32) (a5 : Int32) (Q : Int32 → sy_M → Prop), rec M a1 a2 a3 a4 a5 Q → Met l yX1_leastWorst vsX1_leastWorst ({ frames := 2 * d + 4, cells := 0, slots := 0, locals := 57 * d + 152 } : Room) (va_Pc [.ref (Y.2.1 58), .int a1, .int a2, .int a3, .int a4, .int a5] (sy_pre Y NX EX tfX sz M)) (sy_QI Y NX EX sz Q) 0 0 (sy_A NX Y.2.1 sz)) {Q : Int32 → sy_M → Prop} :
    ∀ (M : sy_M) (x1 : Int32) (x2 : Int32) (x3 : Int32) (x4 : Int32) (x5 : Int32) (x6 : Int32) (x7 : Int32) (x8 : Int32) (s0 : Int32) (H : Heap) (locs : List Loc) (ls : Array Slot), wX1_worstOfCut_76 rec Q M x1 x2 x3 x4 x5 x6 x7 x8 s0 → sy_H Y NX EX s H locs M → lv_has ls 11 [(0, .ref (Y.2.1 58)), (1, .int x1), (2, .int x2), (3, .int x3), (4, .int x4), (5, .int x5), (6, .int x6), (7, .int x7), (8, .int x8)] → W p l e ({ frames := 2 * d + 5, cells := 0, slots := 0, locals := 57 * d + 179 } : Room) s m args below meth c H locs 0 0 (sy_ZI below args s Y NX EX Q) (F0 m 76 ls [.int s0]) := by
  have hx := C.1.1
  have hb := C.1.2.1
  intro M x1 x2 x3 x4 x5 x6 x7 x8 s0 H locs ls hq hh hl
  unfold wX1_worstOfCut_76 at hq
  refine lv_istore (lv' := [(9, .int s0), (0, .ref (Y.2.1 58)), (1, .int x1), (2, .int x2), (3, .int x3), (4, .int x4), (5, .int x5), (6, .int x6), (7, .int x7), (8, .int x8)]) hx hb dX1_worstOfCut_76 hl (by decide) rfl (fun ls hl => ?_)
  refine lv_iload hx hb dX1_worstOfCut_78 (lv_at hl 0 rfl) ?_
  refine lv_iload hx hb dX1_worstOfCut_80 (lv_at hl 7 rfl) ?_
  refine lv_icmp_lt (tgt := 88) hx hb dX1_worstOfCut_82 (by decide) (fun c13 => ?_) (fun c13 => ?_)
  · have hq := hq.1 c13
    refine lv_iload hx hb dX1_worstOfCut_88 (lv_at hl 9 rfl) ?_
    refine lv_if_eq (tgt := 111) hx hb dX1_worstOfCut_90 (by decide) (fun c14 => ?_) (fun c14 => ?_)
    · have hq := hq.1 c14
      refine lv_aload_n hx hb dX1_worstOfCut_111 rfl (lv_at hl 1 rfl) ?_
      refine lv_iload_n hx hb dX1_worstOfCut_112 rfl (lv_at hl 2 rfl) ?_
      refine lv_iload_n hx hb dX1_worstOfCut_113 rfl (lv_at hl 3 rfl) ?_
      refine lv_iload hx hb dX1_worstOfCut_114 (lv_at hl 8 rfl) ?_
      refine lv_iload hx hb dX1_worstOfCut_116 (lv_at hl 6 rfl) ?_
      refine lv_iload hx hb dX1_worstOfCut_118 (lv_at hl 7 rfl) ?_
      refine sy_cIV C hh (As := [.int x1, .int x2, .int x7, .int x5, .int x6]) (rest := []) 58 (by decide) (oX_58 Y) rfl (hrec _ M x1 x2 x7 x5 x6 _ hq) (cwV 5 C.1.2.2.2.2 (sy_goodV uX_good uX_66 uX_67 uX_68 uX_62 uX_69 _) rfl rfl rfl hdX1_leastWorst ⟨by dsimp only; omega, by dsimp only; omega⟩) rfl hl.1 rfl (Nat.le_of_ble_eq_true rfl) dX1_worstOfCut_120 (fun r16 M15 H locs hq hh => ?_)
      refine kX1_worstOfCut_123 C hrec  M15 s0 r16 _ _ _ hq hh (lv_sub hl [0] rfl)
    · have hq := hq.2 c14
      refine lv_aload_n hx hb dX1_worstOfCut_93 rfl (lv_at hl 1 rfl) ?_
      refine lv_iload_n hx hb dX1_worstOfCut_94 rfl (lv_at hl 3 rfl) ?_
      refine lv_iload_n hx hb dX1_worstOfCut_95 rfl (lv_at hl 4 rfl) ?_
      refine lv_iload hx hb dX1_worstOfCut_96 (lv_at hl 5 rfl) ?_
      refine lv_iload hx hb dX1_worstOfCut_98 (lv_at hl 8 rfl) ?_
      refine lv_isub hx hb dX1_worstOfCut_100 ?_
      refine lv_iload hx hb dX1_worstOfCut_101 (lv_at hl 6 rfl) ?_
      refine lv_iload hx hb dX1_worstOfCut_103 (lv_at hl 7 rfl) ?_
      refine sy_cIV C hh (As := [.int x2, .int x3, .int (x4 - x7), .int x5, .int x6]) (rest := []) 58 (by decide) (oX_58 Y) rfl (hrec _ M x2 x3 (x4 - x7) x5 x6 _ hq) (cwV 5 C.1.2.2.2.2 (sy_goodV uX_good uX_66 uX_67 uX_68 uX_62 uX_69 _) rfl rfl rfl hdX1_leastWorst ⟨by dsimp only; omega, by dsimp only; omega⟩) rfl hl.1 rfl (Nat.le_of_ble_eq_true rfl) dX1_worstOfCut_105 (fun r18 M17 H locs hq hh => ?_)
      refine lv_goto (tgt := 123) hx hb dX1_worstOfCut_108 (by decide) ?_
      refine kX1_worstOfCut_123 C hrec  M17 s0 r18 _ _ _ hq hh (lv_sub hl [0] rfl)
  · have hq := hq.2 c13
    refine lv_iload hx hb dX1_worstOfCut_85 (lv_at hl 0 rfl) ?_
    exact sy_iret C hh dX1_worstOfCut_87 hq

set_option maxHeartbeats 4000000 in
set_option maxRecDepth 100000 in
theorem kX1_worstOfCut_39 (C : sy_C p m c cX1_worstOfCut 11 s args vsX1_worstOfCut RX1 meth (some .int) Y NX tfX) {rec : sy_M → Int32 → Int32 → Int32 → Int32 → Int32 → (Int32 → sy_M → Prop) → Prop} {d : Nat} (hrec : ∀ (sz : Nat) (M : sy_M) (a1 : Int32) (a2 : Int32) (a3 : Int32) (a4 : Int32) (a5 : Int32) (Q : Int32 → sy_M → Prop), rec M a1 a2 a3 a4 a5 Q → Met l yX1_leastWorst vsX1_leastWorst ({ frames := 2 * d + 4, cells := 0, slots := 0, locals := 57 * d + 152 } : Room) (va_Pc [.ref (Y.2.1 58), .int a1, .int a2, .int a3, .int a4, .int a5] (sy_pre Y NX EX tfX sz M)) (sy_QI Y NX EX sz Q) 0 0 (sy_A NX Y.2.1 sz)) {Q : Int32 → sy_M → Prop} :
    ∀ (M : sy_M) (x1 : Int32) (x2 : Int32) (x3 : Int32) (x4 : Int32) (x5 : Int32) (x6 : Int32) (x7 : Int32) (s0 : Int32) (H : Heap) (locs : List Loc) (ls : Array Slot), wX1_worstOfCut_39 rec Q M x1 x2 x3 x4 x5 x6 x7 s0 → sy_H Y NX EX s H locs M → lv_has ls 11 [(0, .ref (Y.2.1 58)), (1, .int x1), (2, .int x2), (3, .int x3), (4, .int x4), (5, .int x5), (6, .int x6), (7, .int x7)] → W p l e ({ frames := 2 * d + 5, cells := 0, slots := 0, locals := 57 * d + 179 } : Room) s m args below meth c H locs 0 0 (sy_ZI below args s Y NX EX Q) (F0 m 39 ls [.int s0]) := by
  have hx := C.1.1
  have hb := C.1.2.1
  intro M x1 x2 x3 x4 x5 x6 x7 s0 H locs ls hq hh hl
  unfold wX1_worstOfCut_39 at hq
  refine lv_istore (lv' := [(8, .int s0), (0, .ref (Y.2.1 58)), (1, .int x1), (2, .int x2), (3, .int x3), (4, .int x4), (5, .int x5), (6, .int x6), (7, .int x7)]) hx hb dX1_worstOfCut_39 hl (by decide) rfl (fun ls hl => ?_)
  refine lv_iload hx hb dX1_worstOfCut_41 (lv_at hl 0 rfl) ?_
  refine lv_if_eq (tgt := 61) hx hb dX1_worstOfCut_43 (by decide) (fun c10 => ?_) (fun c10 => ?_)
  · have hq := hq.1 c10
    refine lv_aload_n hx hb dX1_worstOfCut_61 rfl (lv_at hl 1 rfl) ?_
    refine lv_iload_n hx hb dX1_worstOfCut_62 rfl (lv_at hl 3 rfl) ?_
    refine lv_iload_n hx hb dX1_worstOfCut_63 rfl (lv_at hl 4 rfl) ?_
    refine lv_iload hx hb dX1_worstOfCut_64 (lv_at hl 5 rfl) ?_
    refine lv_iload hx hb dX1_worstOfCut_66 (lv_at hl 8 rfl) ?_
    refine lv_isub hx hb dX1_worstOfCut_68 ?_
    refine lv_iload hx hb dX1_worstOfCut_69 (lv_at hl 6 rfl) ?_
    refine lv_iload hx hb dX1_worstOfCut_71 (lv_at hl 7 rfl) ?_
    refine sy_cIV C hh (As := [.int x2, .int x3, .int (x4 - x7), .int x5, .int x6]) (rest := []) 58 (by decide) (oX_58 Y) rfl (hrec _ M x2 x3 (x4 - x7) x5 x6 _ hq) (cwV 5 C.1.2.2.2.2 (sy_goodV uX_good uX_66 uX_67 uX_68 uX_62 uX_69 _) rfl rfl rfl hdX1_leastWorst ⟨by dsimp only; omega, by dsimp only; omega⟩) rfl hl.1 rfl (Nat.le_of_ble_eq_true rfl) dX1_worstOfCut_73 (fun r12 M11 H locs hq hh => ?_)
    refine kX1_worstOfCut_76 C hrec  M11 x1 x2 x3 x4 x5 x6 x7 s0 r12 _ _ _ hq hh (lv_sub hl [1, 2, 3, 4, 5, 6, 7, 8, 0] rfl)
  · have hq := hq.2 c10
    refine lv_aload_n hx hb dX1_worstOfCut_46 rfl (lv_at hl 1 rfl) ?_
    refine lv_iload_n hx hb dX1_worstOfCut_47 rfl (lv_at hl 2 rfl) ?_
    refine lv_iload_n hx hb dX1_worstOfCut_48 rfl (lv_at hl 3 rfl) ?_
    refine lv_iload hx hb dX1_worstOfCut_49 (lv_at hl 8 rfl) ?_
    refine lv_iload hx hb dX1_worstOfCut_51 (lv_at hl 6 rfl) ?_
    refine lv_iload hx hb dX1_worstOfCut_53 (lv_at hl 7 rfl) ?_
    refine sy_cIV C hh (As := [.int x1, .int x2, .int x7, .int x5, .int x6]) (rest := []) 58 (by decide) (oX_58 Y) rfl (hrec _ M x1 x2 x7 x5 x6 _ hq) (cwV 5 C.1.2.2.2.2 (sy_goodV uX_good uX_66 uX_67 uX_68 uX_62 uX_69 _) rfl rfl rfl hdX1_leastWorst ⟨by dsimp only; omega, by dsimp only; omega⟩) rfl hl.1 rfl (Nat.le_of_ble_eq_true rfl) dX1_worstOfCut_55 (fun r20 M19 H locs hq hh => ?_)
    refine lv_goto (tgt := 76) hx hb dX1_worstOfCut_58 (by decide) ?_
    refine kX1_worstOfCut_76 C hrec  M19 x1 x2 x3 x4 x5 x6 x7 s0 r20 _ _ _ hq hh (lv_sub hl [1, 2, 3, 4, 5, 6, 7, 8, 0] rfl)

end
set_option maxHeartbeats 4000000 in
set_option maxRecDepth 100000 in
theorem mX1_worstOfCut {l : Launch} {Y : sy_Y} {rec : sy_M → Int32 → Int32 → Int32 → Int32 → Int32 → (Int32 → sy_M → Prop) → Prop} {d : Nat} (hrec : ∀ (sz : Nat) (M : sy_M) (a1 : Int32) (a2 : Int32) (a3 : Int32) (a4 : Int32) (a5 : Int32) (Q : Int32 → sy_M → Prop), rec M a1 a2 a3 a4 a5 Q → Met l yX1_leastWorst vsX1_leastWorst ({ frames := 2 * d + 4, cells := 0, slots := 0, locals := 57 * d + 152 } : Room) (va_Pc [.ref (Y.2.1 58), .int a1, .int a2, .int a3, .int a4, .int a5] (sy_pre Y NX EX tfX sz M)) (sy_QI Y NX EX sz Q) 0 0 (sy_A NX Y.2.1 sz)) (sz : Nat) (M : sy_M) (a1 : Int32) (a2 : Int32) (a3 : Int32) (a4 : Int32) (a5 : Int32) (a6 : Int32) (Q : Int32 → sy_M → Prop) (hq : wX1_worstOfCut rec M a1 a2 a3 a4 a5 a6 Q) : Met l yX1_worstOfCut vsX1_worstOfCut ({ frames := 2 * d + 5, cells := 0, slots := 0, locals := 57 * d + 179 } : Room) (va_Pc [.ref (Y.2.1 58), .int a1, .int a2, .int a3, .int a4, .int a5, .int a6] (sy_pre Y NX EX tfX sz M)) (sy_QI Y NX EX sz Q) 0 0 (sy_A NX Y.2.1 sz) := by
  refine sy_metI (by decide) rfl (Nat.le_of_ble_eq_true rfl) ?_
  intro p e s m args below meth c C ls hl hh
  have hx := C.1.1
  have hb := C.1.2.1
  have hl : lv_has ls 11 [(0, .ref (Y.2.1 58)), (1, .int a1), (2, .int a2), (3, .int a3), (4, .int a4), (5, .int a5), (6, .int a6)] := hl
  unfold wX1_worstOfCut at hq
  refine lv_iload hx hb dX1_worstOfCut_0 (lv_at hl 4 rfl) ?_
  refine lv_aload_n hx hb dX1_worstOfCut_2 rfl (lv_at hl 0 rfl) ?_
  obtain ⟨e1, hq⟩ := hq
  refine sy_get C hh (fun w h => mc (uX_fX1 w h)) 58 (by decide) (oX_58 Y) rfl 0 (by decide) (index := 9) (mc uX_51) (v := .ref (Y.2.1 28)) (sy_rf_of e1 (by decide)) dX1_worstOfCut_3 ?_
  refine lv_iload_n hx hb dX1_worstOfCut_6 rfl (lv_at hl 1 rfl) ?_
  refine lv_iload_n hx hb dX1_worstOfCut_7 rfl (lv_at hl 2 rfl) ?_
  refine sy_cIV C hh (As := [.int a1, .int a2]) (rest := [.int a4]) 28 (by decide) (oX_28 Y) rfl (mX3_sum l Y _ M a1 a2 _ hq) (cwV 2 C.1.2.2.2.2 (sy_goodV uX_good uX_55 uX_56 uX_57 uX_58 uX_48 _) rfl rfl rfl hdX3_sum ⟨by dsimp only; omega, by dsimp only; omega⟩) rfl hl.1 rfl (Nat.le_of_ble_eq_true rfl) dX1_worstOfCut_8 (fun r3 M2 H locs hq hh => ?_)
  refine lv_aload_n hx hb dX1_worstOfCut_11 rfl (lv_at hl 0 rfl) ?_
  obtain ⟨e4, hq⟩ := hq
  refine sy_get C hh (fun w h => mc (uX_fX1 w h)) 58 (by decide) (oX_58 Y) rfl 0 (by decide) (index := 9) (mc uX_51) (v := .ref (Y.2.1 28)) (sy_rf_of e4 (by decide)) dX1_worstOfCut_12 ?_
  refine lv_iload_n hx hb dX1_worstOfCut_15 rfl (lv_at hl 1 rfl) ?_
  refine lv_iload_n hx hb dX1_worstOfCut_16 rfl (lv_at hl 3 rfl) ?_
  refine sy_cIV C hh (As := [.int a1, .int a3]) (rest := [.int r3, .int a4]) 28 (by decide) (oX_28 Y) rfl (mX3_sum l Y _ M2 a1 a3 _ hq) (cwV 2 C.1.2.2.2.2 (sy_goodV uX_good uX_55 uX_56 uX_57 uX_58 uX_48 _) rfl rfl rfl hdX3_sum ⟨by dsimp only; omega, by dsimp only; omega⟩) rfl hl.1 rfl (Nat.le_of_ble_eq_true rfl) dX1_worstOfCut_17 (fun r6 M5 H locs hq hh => ?_)
  refine sy_cIN C hh (As := [.int a4, .int r3, .int r6]) (rest := []) (mX11_share l Y _ M5 a4 r3 r6 _ hq) ⟨va_cnB 3 C.1.2.2.2.2 (sy_goodN uX_good uX_50 _) rfl rfl rfl (C.2.1.2.1 ("AreaSetter$Cutter", 61, yX11_share) (by simp)) (C.1.2.2.2.2 _ (mc uX_47)) hdX11_share.2 ⟨by dsimp only; omega, by dsimp only; omega⟩, C.1.2.2.2.2 _ (mc uX_65), trivial⟩ rfl hl.1 rfl (Nat.le_of_ble_eq_true rfl) dX1_worstOfCut_20 (fun r8 M7 H locs hq hh => ?_)
  refine lv_istore (lv' := [(7, .int r8), (0, .ref (Y.2.1 58)), (1, .int a1), (2, .int a2), (3, .int a3), (4, .int a4), (5, .int a5), (6, .int a6)]) hx hb dX1_worstOfCut_23 hl (by decide) rfl (fun ls hl => ?_)
  refine lv_iload_n hx hb dX1_worstOfCut_25 rfl (lv_at hl 3 rfl) ?_
  refine lv_iload_n hx hb dX1_worstOfCut_26 rfl (lv_at hl 2 rfl) ?_
  refine lv_isub hx hb dX1_worstOfCut_27 ?_
  refine lv_iload_n hx hb dX1_worstOfCut_28 rfl (lv_at hl 4 rfl) ?_
  refine lv_iload_n hx hb dX1_worstOfCut_29 rfl (lv_at hl 3 rfl) ?_
  refine lv_isub hx hb dX1_worstOfCut_30 ?_
  refine lv_icmp_gt (tgt := 38) hx hb dX1_worstOfCut_31 (by decide) (fun c9 => ?_) (fun c9 => ?_)
  · have hq := hq.1 c9
    refine lv_iconst (v := (0 : Int32)) hx hb dX1_worstOfCut_38 (by decide) ?_
    refine kX1_worstOfCut_39 C hrec  M7 a1 a2 a3 a4 a5 a6 r8 (0 : Int32) _ _ _ hq hh (lv_sub hl [1, 2, 3, 4, 5, 6, 7, 0] rfl)
  · have hq := hq.2 c9
    refine lv_iconst (v := (1 : Int32)) hx hb dX1_worstOfCut_34 (by decide) ?_
    refine lv_goto (tgt := 39) hx hb dX1_worstOfCut_35 (by decide) ?_
    refine kX1_worstOfCut_39 C hrec  M7 a1 a2 a3 a4 a5 a6 r8 (1 : Int32) _ _ _ hq hh (lv_sub hl [1, 2, 3, 4, 5, 6, 7, 0] rfl)

/-! AreaSetter.shapeOf(III)I -/
def wX11_shapeOf (M : sy_M) (a1 : Int32) (a2 : Int32) (a3 : Int32) (Q : Int32 → sy_M → Prop) : Prop := ((¬ a1 = 0 → ((0 < (imin a2 a3) → (¬ (imin a2 a3) = 0) ∧ Q (((imax a2 a3) * (nI 1000)) / (imin a2 a3)) M) ∧ (¬ 0 < (imin a2 a3) → Q (nI 1000000) M))) ∧ (a1 = 0 → Q (0 : Int32) M))
section
variable {p : Program} {l : Launch} {e : Env} {s : State} {m : MethodId} {args : Array Value} {below : List Frame} {meth : Method} {c : Code} {Y : sy_Y}
end
set_option maxHeartbeats 4000000 in
set_option maxRecDepth 100000 in
theorem mX11_shapeOf (l : Launch) (Y : sy_Y) (sz : Nat) (M : sy_M) (a1 : Int32) (a2 : Int32) (a3 : Int32) (Q : Int32 → sy_M → Prop) (hq : wX11_shapeOf M a1 a2 a3 Q) : Met l yX11_shapeOf vsX11_shapeOf ({ frames := 1, cells := 0, slots := 0, locals := 21 } : Room) (va_Pc [.int a1, .int a2, .int a3] (sy_pre Y NX EX tfX sz M)) (sy_QI Y NX EX sz Q) 0 0 (sy_A NX Y.2.1 sz) := by
  refine sy_metI (by decide) rfl (Nat.le_of_ble_eq_true rfl) ?_
  intro p e s m args below meth c C ls hl hh
  have hx := C.1.1
  have hb := C.1.2.1
  have hl : lv_has ls 4 [(0, .int a1), (1, .int a2), (2, .int a3)] := hl
  unfold wX11_shapeOf at hq
  refine lv_iload_n hx hb dX11_shapeOf_0 rfl (lv_at hl 0 rfl) ?_
  refine lv_if_ne (tgt := 6) hx hb dX11_shapeOf_1 (by decide) (fun c1 => ?_) (fun c1 => ?_)
  · have hq := hq.1 c1
    refine lv_iload_n hx hb dX11_shapeOf_6 rfl (lv_at hl 1 rfl) ?_
    refine lv_iload_n hx hb dX11_shapeOf_7 rfl (lv_at hl 2 rfl) ?_
    refine sy_mmin C hl (index := 182) (mc uX_29) (mc uX_30) (mc uX_31) (mc uX_32) (by decide) (Nat.le_of_ble_eq_true rfl) dX11_shapeOf_8 ?_
    refine lv_istore_n (lv' := [(3, .int (imin a2 a3)), (0, .int a1), (1, .int a2), (2, .int a3)]) hx hb dX11_shapeOf_11 rfl hl (by decide) rfl (fun ls hl => ?_)
    refine lv_iload_n hx hb dX11_shapeOf_12 rfl (lv_at hl 0 rfl) ?_
    refine lv_if_gt (tgt := 21) hx hb dX11_shapeOf_13 (by decide) (fun c2 => ?_) (fun c2 => ?_)
    · have hq := hq.1 c2
      refine lv_iload_n hx hb dX11_shapeOf_21 rfl (lv_at hl 2 rfl) ?_
      refine lv_iload_n hx hb dX11_shapeOf_22 rfl (lv_at hl 3 rfl) ?_
      refine sy_mmax C hl (index := 239) (mc uX_34) (mc uX_35) (mc uX_31) (mc uX_36) (by decide) (Nat.le_of_ble_eq_true rfl) dX11_shapeOf_23 ?_
      refine lv_sipush (v := (nI 1000)) hx hb dX11_shapeOf_26 (by decide) ?_
      refine lv_imul hx hb dX11_shapeOf_29 ?_
      refine lv_iload_n hx hb dX11_shapeOf_30 rfl (lv_at hl 0 rfl) ?_
      obtain ⟨e3, hq⟩ := hq
      refine lv_idiv hx hb dX11_shapeOf_31 e3 ?_
      exact sy_iret C hh dX11_shapeOf_32 hq
    · have hq := hq.2 c2
      refine lv_ldc (v := (nI 1000000)) hx hb C.1.2.2.2.1 (C.1.2.2.2.2 (.constant RX11 238 (nI 1000000)) (mc uX_33)) dX11_shapeOf_16 ?_
      refine lv_goto (tgt := 32) hx hb dX11_shapeOf_18 (by decide) ?_
      exact sy_iret C hh dX11_shapeOf_32 hq
  · have hq := hq.2 c1
    refine lv_iconst (v := (0 : Int32)) hx hb dX11_shapeOf_4 (by decide) ?_
    exact sy_iret C hh dX11_shapeOf_5 hq

