/-! AreaSetter$Layer.layNothing(LAreaSetter$Plan;)V -/
def wX4_layNothing_7 (Q : sy_M → Prop) : Nat → sy_M → Nat → Int32 → Prop
  | 0, _, _, _ => False
  | n + 1, M, x1, x2 => (((M 28 0) ≤ x2 → Q M) ∧ (¬ (M 28 0) ≤ x2 → wX5_put M x1 x2 (M 28 4) (M 28 5) (0 : Int32) (0 : Int32) (fun M2 => wX4_layNothing_7 Q n M2 x1 (x2 + (1 : Int32)))))
def wX4_layNothing (M : sy_M) (p1 : Nat) (Q : sy_M → Prop) : Prop := ∃ n3 : Nat, wX4_layNothing_7  Q n3 (mu M p1 0 (0 : Int32)) p1 (0 : Int32)
section
variable {p : Program} {l : Launch} {e : Env} {s : State} {m : MethodId} {args : Array Value} {below : List Frame} {meth : Method} {c : Code} {Y : sy_Y}
set_option maxHeartbeats 4000000 in
set_option maxRecDepth 100000 in
theorem kX4_layNothing_7 (C : sy_C p m c cX4_layNothing 3 s args vsX4_layNothing RX4 meth none Y NX tfX) {Q : sy_M → Prop} :
    ∀ (n : Nat) (M : sy_M) (x1 : Nat) (x2 : Int32) (hx1 : iX5 x1) (H : Heap) (locs : List Loc) (ls : Array Slot), wX4_layNothing_7 Q n M x1 x2 → sy_H Y NX EX s H locs M → lv_has ls 3 [(0, .ref (Y.2.1 27)), (1, .ref (Y.2.1 x1)), (2, .int x2)] → W p l e ({ frames := 2, cells := 0, slots := 0, locals := 51 } : Room) s m args below meth c H locs 0 0 (sy_ZV below args s Y NX EX Q) (F0 m 7 ls []) := by
  have hx := C.1.1
  have hb := C.1.2.1
  intro n
  induction n with
  | zero =>
    intro M x1 x2 hx1 H locs ls hq hh hl
    unfold wX4_layNothing_7 at hq
    exact hq.elim
  | succ n ih =>
    intro M x1 x2 hx1 H locs ls hq hh hl
    unfold wX4_layNothing_7 at hq
    refine lv_iload_n hx hb dX4_layNothing_7 rfl (lv_at hl 2 rfl) ?_
    refine lv_aload_n hx hb dX4_layNothing_8 rfl (lv_at hl 0 rfl) ?_
    refine sy_get C hh (fun w h => mc (uX_fX4 w h)) 27 (by decide) (oX_27 Y) rfl 1 (by decide) (index := 18) (mc uX_189) (v := .ref (Y.2.1 28)) rfl dX4_layNothing_9 ?_
    refine sy_get C hh (fun w h => mc (uX_fX3 w h)) 28 (by decide) (oX_28 Y) rfl 0 (by decide) (index := 52) (mc uX_206) (v := .int (M 28 0)) rfl dX4_layNothing_12 ?_
    refine lv_icmp_ge (tgt := 49) hx hb dX4_layNothing_15 (by decide) (fun c1 => ?_) (fun c1 => ?_)
    · have hq := hq.1 c1
      exact sy_vret C hh dX4_layNothing_49 hq
    · have hq := hq.2 c1
      refine lv_aload_n hx hb dX4_layNothing_18 rfl (lv_at hl 1 rfl) ?_
      refine lv_aload_n hx hb dX4_layNothing_19 rfl (lv_at hl 0 rfl) ?_
      refine sy_get C hh (fun w h => mc (uX_fX4 w h)) 27 (by decide) (oX_27 Y) rfl 1 (by decide) (index := 18) (mc uX_189) (v := .ref (Y.2.1 28)) rfl dX4_layNothing_20 ?_
      refine lv_iload_n hx hb dX4_layNothing_23 rfl (lv_at hl 2 rfl) ?_
      refine lv_aload_n hx hb dX4_layNothing_24 rfl (lv_at hl 0 rfl) ?_
      refine sy_get C hh (fun w h => mc (uX_fX4 w h)) 27 (by decide) (oX_27 Y) rfl 1 (by decide) (index := 18) (mc uX_189) (v := .ref (Y.2.1 28)) rfl dX4_layNothing_25 ?_
      refine sy_get C hh (fun w h => mc (uX_fX3 w h)) 28 (by decide) (oX_28 Y) rfl 4 (by decide) (index := 157) (mc uX_207) (v := .int (M 28 4)) rfl dX4_layNothing_28 ?_
      refine lv_aload_n hx hb dX4_layNothing_31 rfl (lv_at hl 0 rfl) ?_
      refine sy_get C hh (fun w h => mc (uX_fX4 w h)) 27 (by decide) (oX_27 Y) rfl 1 (by decide) (index := 18) (mc uX_189) (v := .ref (Y.2.1 28)) rfl dX4_layNothing_32 ?_
      refine sy_get C hh (fun w h => mc (uX_fX3 w h)) 28 (by decide) (oX_28 Y) rfl 5 (by decide) (index := 159) (mc uX_208) (v := .int (M 28 5)) rfl dX4_layNothing_35 ?_
      refine lv_iconst (v := (0 : Int32)) hx hb dX4_layNothing_38 (by decide) ?_
      refine lv_iconst (v := (0 : Int32)) hx hb dX4_layNothing_39 (by decide) ?_
      refine sy_cVV C hh (As := [.ref (Y.2.1 28), .int x2, .int (M 28 4), .int (M 28 5), .int (0 : Int32), .int (0 : Int32)]) (rest := []) x1 (iX5_N hx1) (oX5 hx1) rfl (mX5_put l Y _ M x1 hx1 x2 (M 28 4) (M 28 5) (0 : Int32) (0 : Int32) _ hq) (cwV 6 C.1.2.2.2.2 (sy_goodV uX_good uX_209 uX_82 uX_83 uX_44 uX_51 _) rfl rfl rfl hdX5_put ⟨Nat.le_of_ble_eq_true rfl, Nat.le_of_ble_eq_true rfl⟩) rfl hl.1 rfl (Nat.le_of_ble_eq_true rfl) dX4_layNothing_40 (fun M2 H locs hq hh => ?_)
      refine lv_iinc (v := (x2 + (1 : Int32))) (lv' := [(2, .int (x2 + (1 : Int32))), (0, .ref (Y.2.1 27)), (1, .ref (Y.2.1 x1))]) hx hb dX4_layNothing_43 hl (k := 2) rfl (sy_inc (by decide)) (by decide) rfl (fun ls hl => ?_)
      refine lv_goto (tgt := 7) hx hb dX4_layNothing_46 (by decide) ?_
      exact ih M2 x1 (x2 + (1 : Int32)) hx1 _ _ _ hq hh (lv_sub hl [1, 2, 0] rfl)

end
set_option maxHeartbeats 4000000 in
set_option maxRecDepth 100000 in
theorem mX4_layNothing (l : Launch) (Y : sy_Y) (sz : Nat) (M : sy_M) (p1 : Nat) (hp1 : iX5 p1) (Q : sy_M → Prop) (hq : wX4_layNothing M p1 Q) : Met l yX4_layNothing vsX4_layNothing ({ frames := 2, cells := 0, slots := 0, locals := 51 } : Room) (va_Pc [.ref (Y.2.1 27), .ref (Y.2.1 p1)] (sy_pre Y NX EX tfX sz M)) (sy_QV Y NX EX sz Q) 0 0 (sy_A NX Y.2.1 sz) := by
  refine sy_metV (by decide) rfl (Nat.le_of_ble_eq_true rfl) ?_
  intro p e s m args below meth c C ls hl hh
  have hx := C.1.1
  have hb := C.1.2.1
  have hl : lv_has ls 3 [(0, .ref (Y.2.1 27)), (1, .ref (Y.2.1 p1))] := hl
  unfold wX4_layNothing at hq
  refine lv_aload_n hx hb dX4_layNothing_0 rfl (lv_at hl 1 rfl) ?_
  refine lv_iconst (v := (0 : Int32)) hx hb dX4_layNothing_1 (by decide) ?_
  refine sy_put C hh (fun w h => mc (uX_fX5 w h)) tyX5 tyX5_ok nmX5 p1 (iX5_N hp1) (oX5 hp1) rfl 0 (by decide) (index := 94) (mc uX_205) rfl 0 (0 : Int32) (ty := .int) (tyX5_ok 0 (by decide)) rfl rfl (Nat.le_of_ble_eq_true rfl) (pX5_0 Y _ _ _) dX4_layNothing_2 (fun H locs hh => ?_)
  refine lv_iconst (v := (0 : Int32)) hx hb dX4_layNothing_5 (by decide) ?_
  refine lv_istore_n (lv' := [(2, .int (0 : Int32)), (0, .ref (Y.2.1 27)), (1, .ref (Y.2.1 p1))]) hx hb dX4_layNothing_6 rfl hl (by decide) rfl (fun ls hl => ?_)
  obtain ⟨n3, hq⟩ := hq
  refine kX4_layNothing_7 C  n3 (mu M p1 0 (0 : Int32)) p1 (0 : Int32) hp1 _ _ _ hq hh (lv_sub hl [1, 2, 0] rfl)

/-! AreaSetter$Layer.show(LAreaSetter$Rectangles;IILAreaSetter$Drawings;)V -/
def wX4_show (M : sy_M) (p1 : Nat) (a2 : Int32) (a3 : Int32) (Q : sy_M → Prop) : Prop := ∃ n1 : Nat, n1 < 8 ∧ a2 = nI n1 ∧ (((M 29 n1) = (-1 : Int32) → n1 < (lX7 p1) ∧ n1 < (lX7 p1) ∧ n1 < (lX7 p1) ∧ n1 < (lX7 p1) ∧ wX7_put M 20 a3 (M (p1 + 1) n1) (M (p1 + 2) n1) (M (p1 + 3) n1) (M (p1 + 4) n1) (fun M7 => ∃ n8 : Nat, n8 < 40 ∧ a3 = nI n8 ∧ Q (mu M7 25 n8 (M7 30 n1)))) ∧ (¬ (M 29 n1) = (-1 : Int32) → n1 < (lX7 p1) ∧ n1 < (lX7 p1) ∧ n1 < (lX7 p1) ∧ n1 < (lX7 p1) ∧ wX2_show M (M 29 n1) (M (p1 + 1) n1) (M (p1 + 2) n1) (M (p1 + 3) n1) (M (p1 + 4) n1) (fun M13 => Q M13)))
section
variable {p : Program} {l : Launch} {e : Env} {s : State} {m : MethodId} {args : Array Value} {below : List Frame} {meth : Method} {c : Code} {Y : sy_Y}
end
set_option maxHeartbeats 4000000 in
set_option maxRecDepth 100000 in
theorem mX4_show (l : Launch) (Y : sy_Y) (sz : Nat) (M : sy_M) (p1 : Nat) (hp1 : iX7 p1) (a2 : Int32) (a3 : Int32) (Q : sy_M → Prop) (hq : wX4_show M p1 a2 a3 Q) : Met l yX4_show vsX4_show ({ frames := 3, cells := 0, slots := 0, locals := 69 } : Room) (va_Pc [.ref (Y.2.1 27), .ref (Y.2.1 p1), .int a2, .int a3, .ref (Y.2.1 9)] (sy_pre Y NX EX tfX sz M)) (sy_QV Y NX EX sz Q) 0 0 (sy_A NX Y.2.1 sz) := by
  refine sy_metV (by decide) rfl (Nat.le_of_ble_eq_true rfl) ?_
  intro p e s m args below meth c C ls hl hh
  have hx := C.1.1
  have hb := C.1.2.1
  have hl : lv_has ls 5 [(0, .ref (Y.2.1 27)), (1, .ref (Y.2.1 p1)), (2, .int a2), (3, .int a3), (4, .ref (Y.2.1 9))] := hl
  unfold wX4_show at hq
  refine lv_aload_n hx hb dX4_show_0 rfl (lv_at hl 0 rfl) ?_
  refine sy_get C hh (fun w h => mc (uX_fX4 w h)) 27 (by decide) (oX_27 Y) rfl 1 (by decide) (index := 18) (mc uX_189) (v := .ref (Y.2.1 28)) rfl dX4_show_1 ?_
  refine sy_get C hh (fun w h => mc (uX_fX3 w h)) 28 (by decide) (oX_28 Y) rfl 2 (by decide) (index := 96) (mc uX_255) (v := .ref (Y.2.1 29)) rfl dX4_show_4 ?_
  refine lv_iload_n hx hb dX4_show_7 rfl (lv_at hl 2 rfl) ?_
  obtain ⟨n1, hn1, en1, hq⟩ := hq
  refine sy_iald C hh 29 (by decide) (aX_29 Y) tX_29 hn1 en1 (by decide) dX4_show_8 ?_
  refine lv_iconst (v := (-1 : Int32)) hx hb dX4_show_9 (by decide) ?_
  refine lv_icmp_eq (tgt := 52) hx hb dX4_show_10 (by decide) (fun c2 => ?_) (fun c2 => ?_)
  · have hq := hq.1 c2
    refine lv_aload hx hb dX4_show_52 (lv_at hl 4 rfl) ?_
    refine sy_get C hh (fun w h => mc (uX_fX2 w h)) 9 (by decide) (oX_9 Y) rfl 6 (by decide) (index := 116) (mc uX_282) (v := .ref (Y.2.1 20)) rfl dX4_show_54 ?_
    refine lv_iload_n hx hb dX4_show_57 rfl (lv_at hl 3 rfl) ?_
    refine lv_aload_n hx hb dX4_show_58 rfl (lv_at hl 1 rfl) ?_
    refine sy_get C hh (fun w h => mc (uX_fX7 w h)) p1 (iX7_N hp1) (oX7 hp1) rfl 0 (by decide) (index := 99) (mc uX_278) (v := .ref (Y.2.1 (p1 + 1))) rfl dX4_show_59 ?_
    refine lv_iload_n hx hb dX4_show_62 rfl (lv_at hl 2 rfl) ?_
    obtain ⟨b3, hq⟩ := hq
    refine sy_iald C hh (p1 + 1) (iX7_N1 hp1) (aX7_1 hp1) (tX7_1 hp1) b3 en1 (lX7_lt _) dX4_show_63 ?_
    refine lv_aload_n hx hb dX4_show_64 rfl (lv_at hl 1 rfl) ?_
    refine sy_get C hh (fun w h => mc (uX_fX7 w h)) p1 (iX7_N hp1) (oX7 hp1) rfl 1 (by decide) (index := 104) (mc uX_279) (v := .ref (Y.2.1 (p1 + 2))) rfl dX4_show_65 ?_
    refine lv_iload_n hx hb dX4_show_68 rfl (lv_at hl 2 rfl) ?_
    obtain ⟨b4, hq⟩ := hq
    refine sy_iald C hh (p1 + 2) (iX7_N2 hp1) (aX7_2 hp1) (tX7_2 hp1) b4 en1 (lX7_lt _) dX4_show_69 ?_
    refine lv_aload_n hx hb dX4_show_70 rfl (lv_at hl 1 rfl) ?_
    refine sy_get C hh (fun w h => mc (uX_fX7 w h)) p1 (iX7_N hp1) (oX7 hp1) rfl 2 (by decide) (index := 107) (mc uX_280) (v := .ref (Y.2.1 (p1 + 3))) rfl dX4_show_71 ?_
    refine lv_iload_n hx hb dX4_show_74 rfl (lv_at hl 2 rfl) ?_
    obtain ⟨b5, hq⟩ := hq
    refine sy_iald C hh (p1 + 3) (iX7_N3 hp1) (aX7_3 hp1) (tX7_3 hp1) b5 en1 (lX7_lt _) dX4_show_75 ?_
    refine lv_aload_n hx hb dX4_show_76 rfl (lv_at hl 1 rfl) ?_
    refine sy_get C hh (fun w h => mc (uX_fX7 w h)) p1 (iX7_N hp1) (oX7 hp1) rfl 3 (by decide) (index := 110) (mc uX_281) (v := .ref (Y.2.1 (p1 + 4))) rfl dX4_show_77 ?_
    refine lv_iload_n hx hb dX4_show_80 rfl (lv_at hl 2 rfl) ?_
    obtain ⟨b6, hq⟩ := hq
    refine sy_iald C hh (p1 + 4) (iX7_N4 hp1) (aX7_4 hp1) (tX7_4 hp1) b6 en1 (lX7_lt _) dX4_show_81 ?_
    refine sy_cVV C hh (As := [.int a3, .int (M (p1 + 1) n1), .int (M (p1 + 2) n1), .int (M (p1 + 3) n1), .int (M (p1 + 4) n1)]) (rest := []) 20 (by decide) (oX_20 Y) rfl (mX7_put l Y _ M 20 iX7_20 a3 (M (p1 + 1) n1) (M (p1 + 2) n1) (M (p1 + 3) n1) (M (p1 + 4) n1) _ hq) (cwV 5 C.1.2.2.2.2 (sy_goodV uX_good uX_288 uX_55 uX_56 uX_37 uX_48 _) rfl rfl rfl hdX7_put ⟨Nat.le_of_ble_eq_true rfl, Nat.le_of_ble_eq_true rfl⟩) rfl hl.1 rfl (Nat.le_of_ble_eq_true rfl) dX4_show_82 (fun M7 H locs hq hh => ?_)
    refine lv_aload hx hb dX4_show_85 (lv_at hl 4 rfl) ?_
    refine sy_get C hh (fun w h => mc (uX_fX2 w h)) 9 (by decide) (oX_9 Y) rfl 6 (by decide) (index := 116) (mc uX_282) (v := .ref (Y.2.1 20)) rfl dX4_show_87 ?_
    refine sy_get C hh (fun w h => mc (uX_fX7 w h)) 20 (by decide) (oX_20 Y) rfl 4 (by decide) (index := 122) (mc uX_283) (v := .ref (Y.2.1 25)) rfl dX4_show_90 ?_
    refine lv_iload_n hx hb dX4_show_93 rfl (lv_at hl 3 rfl) ?_
    refine lv_aload_n hx hb dX4_show_94 rfl (lv_at hl 0 rfl) ?_
    refine sy_get C hh (fun w h => mc (uX_fX4 w h)) 27 (by decide) (oX_27 Y) rfl 1 (by decide) (index := 18) (mc uX_189) (v := .ref (Y.2.1 28)) rfl dX4_show_95 ?_
    refine sy_get C hh (fun w h => mc (uX_fX3 w h)) 28 (by decide) (oX_28 Y) rfl 3 (by decide) (index := 125) (mc uX_284) (v := .ref (Y.2.1 30)) rfl dX4_show_98 ?_
    refine lv_iload_n hx hb dX4_show_101 rfl (lv_at hl 2 rfl) ?_
    refine sy_iald C hh 30 (by decide) (aX_30 Y) tX_30 hn1 en1 (by decide) dX4_show_102 ?_
    obtain ⟨n8, hn8, en8, hq⟩ := hq
    refine sy_iast C hh 25 (by decide) (aX_25 Y) tX_25 hn8 en8 (by decide) dX4_show_103 (fun H locs hh => ?_)
    exact sy_vret C hh dX4_show_104 hq
  · have hq := hq.2 c2
    refine lv_aload hx hb dX4_show_13 (lv_at hl 4 rfl) ?_
    refine lv_aload_n hx hb dX4_show_15 rfl (lv_at hl 0 rfl) ?_
    refine sy_get C hh (fun w h => mc (uX_fX4 w h)) 27 (by decide) (oX_27 Y) rfl 1 (by decide) (index := 18) (mc uX_189) (v := .ref (Y.2.1 28)) rfl dX4_show_16 ?_
    refine sy_get C hh (fun w h => mc (uX_fX3 w h)) 28 (by decide) (oX_28 Y) rfl 2 (by decide) (index := 96) (mc uX_255) (v := .ref (Y.2.1 29)) rfl dX4_show_19 ?_
    refine lv_iload_n hx hb dX4_show_22 rfl (lv_at hl 2 rfl) ?_
    refine sy_iald C hh 29 (by decide) (aX_29 Y) tX_29 hn1 en1 (by decide) dX4_show_23 ?_
    refine lv_aload_n hx hb dX4_show_24 rfl (lv_at hl 1 rfl) ?_
    refine sy_get C hh (fun w h => mc (uX_fX7 w h)) p1 (iX7_N hp1) (oX7 hp1) rfl 0 (by decide) (index := 99) (mc uX_278) (v := .ref (Y.2.1 (p1 + 1))) rfl dX4_show_25 ?_
    refine lv_iload_n hx hb dX4_show_28 rfl (lv_at hl 2 rfl) ?_
    obtain ⟨b9, hq⟩ := hq
    refine sy_iald C hh (p1 + 1) (iX7_N1 hp1) (aX7_1 hp1) (tX7_1 hp1) b9 en1 (lX7_lt _) dX4_show_29 ?_
    refine lv_aload_n hx hb dX4_show_30 rfl (lv_at hl 1 rfl) ?_
    refine sy_get C hh (fun w h => mc (uX_fX7 w h)) p1 (iX7_N hp1) (oX7 hp1) rfl 1 (by decide) (index := 104) (mc uX_279) (v := .ref (Y.2.1 (p1 + 2))) rfl dX4_show_31 ?_
    refine lv_iload_n hx hb dX4_show_34 rfl (lv_at hl 2 rfl) ?_
    obtain ⟨b10, hq⟩ := hq
    refine sy_iald C hh (p1 + 2) (iX7_N2 hp1) (aX7_2 hp1) (tX7_2 hp1) b10 en1 (lX7_lt _) dX4_show_35 ?_
    refine lv_aload_n hx hb dX4_show_36 rfl (lv_at hl 1 rfl) ?_
    refine sy_get C hh (fun w h => mc (uX_fX7 w h)) p1 (iX7_N hp1) (oX7 hp1) rfl 2 (by decide) (index := 107) (mc uX_280) (v := .ref (Y.2.1 (p1 + 3))) rfl dX4_show_37 ?_
    refine lv_iload_n hx hb dX4_show_40 rfl (lv_at hl 2 rfl) ?_
    obtain ⟨b11, hq⟩ := hq
    refine sy_iald C hh (p1 + 3) (iX7_N3 hp1) (aX7_3 hp1) (tX7_3 hp1) b11 en1 (lX7_lt _) dX4_show_41 ?_
    refine lv_aload_n hx hb dX4_show_42 rfl (lv_at hl 1 rfl) ?_
    refine sy_get C hh (fun w h => mc (uX_fX7 w h)) p1 (iX7_N hp1) (oX7 hp1) rfl 3 (by decide) (index := 110) (mc uX_281) (v := .ref (Y.2.1 (p1 + 4))) rfl dX4_show_43 ?_
    refine lv_iload_n hx hb dX4_show_46 rfl (lv_at hl 2 rfl) ?_
    obtain ⟨b12, hq⟩ := hq
    refine sy_iald C hh (p1 + 4) (iX7_N4 hp1) (aX7_4 hp1) (tX7_4 hp1) b12 en1 (lX7_lt _) dX4_show_47 ?_
    refine sy_cVV C hh (As := [.int (M 29 n1), .int (M (p1 + 1) n1), .int (M (p1 + 2) n1), .int (M (p1 + 3) n1), .int (M (p1 + 4) n1)]) (rest := []) 9 (by decide) (oX_9 Y) rfl (mX2_show l Y _ M (M 29 n1) (M (p1 + 1) n1) (M (p1 + 2) n1) (M (p1 + 3) n1) (M (p1 + 4) n1) _ hq) (cwV 5 C.1.2.2.2.2 (sy_goodV uX_good uX_285 uX_286 uX_287 uX_114 uX_120 _) rfl rfl rfl hdX2_show ⟨Nat.le_of_ble_eq_true rfl, Nat.le_of_ble_eq_true rfl⟩) rfl hl.1 rfl (Nat.le_of_ble_eq_true rfl) dX4_show_48 (fun M13 H locs hq hh => ?_)
    exact sy_vret C hh dX4_show_51 hq

/-! AreaSetter$Layer.layGroup(LAreaSetter$Tree;ILAreaSetter$Drawings;)V -/
def wX4_layGroup_69 (K_100 : sy_M → Int32 → Int32 → Nat → Prop) (Q : sy_M → Prop) : Nat → sy_M → Int32 → Int32 → Nat → Int32 → Prop
  | 0, _, _, _, _, _ => False
  | n + 1, M, x2, x4, x5, x6 => (((M 28 0) ≤ x6 → K_100 M x2 x4 x5) ∧ (¬ (M 28 0) ≤ x6 → wX4_show M (x5 + 1) x6 x2 (fun M10 => wX4_layGroup_69 K_100 Q n M10 x2 x4 x5 (x6 + (1 : Int32)))))
def wX4_layGroup_57 (Q : sy_M → Prop) (M : sy_M) (x2 : Int32) (x4 : Int32) : Prop := ∃ n8 : Nat, n8 < 3 ∧ x4 = nI n8 ∧ ∃ n16 : Nat, wX4_layGroup_69 (fun (M11 : sy_M) (x2_12 : Int32) (x4_13 : Int32) (x5_14 : Nat) => ∃ n15 : Nat, n15 < 40 ∧ x2_12 = nI n15 ∧ Q (mu (mu (mu M11 26 n15 (M11 28 1)) 18 n15 x4_13) 19 n15 ((mu (mu M11 26 n15 (M11 28 1)) 18 n15 x4_13) x5_14 0))) Q n16 M x2 x4 (33 + 7 * n8) (0 : Int32)
def wX4_layGroup (M : sy_M) (p1 : Nat) (a2 : Int32) (Q : sy_M → Prop) : Prop := wX3_gather M p1 a2 (fun M1 => wX3_sum M1 (0 : Int32) (M1 28 0) (fun r3 M2 => ((¬ r3 = 0 → ∃ n5 : Nat, n5 < 40 ∧ a2 = nI n5 ∧ wX4_layAs M2 (M2 (p1 + 2) n5) (fun r7 M6 => wX4_layGroup_57  Q M6 a2 r7)) ∧ (r3 = 0 → ∃ n17 : Nat, n17 < 3 ∧ (0 : Int32) = nI n17 ∧ wX4_layNothing M2 (33 + 7 * n17) (fun M18 => wX4_layGroup_57  Q M18 a2 (0 : Int32))))))
section
variable {p : Program} {l : Launch} {e : Env} {s : State} {m : MethodId} {args : Array Value} {below : List Frame} {meth : Method} {c : Code} {Y : sy_Y}
set_option maxHeartbeats 4000000 in
set_option maxRecDepth 100000 in
theorem kX4_layGroup_69 (C : sy_C p m c cX4_layGroup 7 s args vsX4_layGroup RX4 meth none Y NX tfX) {Q : sy_M → Prop} {K_100 : sy_M → Int32 → Int32 → Nat → Prop} (hK_100 : ∀ (M : sy_M) (x2 : Int32) (x4 : Int32) (x5 : Nat) (hx5 : iX5 x5) (H : Heap) (locs : List Loc) (ls : Array Slot), K_100 M x2 x4 x5 → sy_H Y NX EX s H locs M → lv_has ls 7 [(0, .ref (Y.2.1 27)), (2, .int x2), (3, .ref (Y.2.1 9)), (4, .int x4), (5, .ref (Y.2.1 x5))] → W p l e ({ frames := 39, cells := 0, slots := 0, locals := 1223 } : Room) s m args below meth c H locs 0 0 (sy_ZV below args s Y NX EX Q) (F0 m 100 ls [])) :
    ∀ (n : Nat) (M : sy_M) (x2 : Int32) (x4 : Int32) (x5 : Nat) (x6 : Int32) (hx5 : iX5 x5) (H : Heap) (locs : List Loc) (ls : Array Slot), wX4_layGroup_69 K_100 Q n M x2 x4 x5 x6 → sy_H Y NX EX s H locs M → lv_has ls 7 [(0, .ref (Y.2.1 27)), (2, .int x2), (3, .ref (Y.2.1 9)), (4, .int x4), (5, .ref (Y.2.1 x5)), (6, .int x6)] → W p l e ({ frames := 39, cells := 0, slots := 0, locals := 1223 } : Room) s m args below meth c H locs 0 0 (sy_ZV below args s Y NX EX Q) (F0 m 69 ls []) := by
  have hx := C.1.1
  have hb := C.1.2.1
  intro n
  induction n with
  | zero =>
    intro M x2 x4 x5 x6 hx5 H locs ls hq hh hl
    unfold wX4_layGroup_69 at hq
    exact hq.elim
  | succ n ih =>
    intro M x2 x4 x5 x6 hx5 H locs ls hq hh hl
    unfold wX4_layGroup_69 at hq
    refine lv_iload hx hb dX4_layGroup_69 (lv_at hl 5 rfl) ?_
    refine lv_aload_n hx hb dX4_layGroup_71 rfl (lv_at hl 0 rfl) ?_
    refine sy_get C hh (fun w h => mc (uX_fX4 w h)) 27 (by decide) (oX_27 Y) rfl 1 (by decide) (index := 18) (mc uX_189) (v := .ref (Y.2.1 28)) rfl dX4_layGroup_72 ?_
    refine sy_get C hh (fun w h => mc (uX_fX3 w h)) 28 (by decide) (oX_28 Y) rfl 0 (by decide) (index := 52) (mc uX_206) (v := .int (M 28 0)) rfl dX4_layGroup_75 ?_
    refine lv_icmp_ge (tgt := 100) hx hb dX4_layGroup_78 (by decide) (fun c9 => ?_) (fun c9 => ?_)
    · have hq := hq.1 c9
      exact hK_100 M x2 x4 x5 hx5 _ _ _ hq hh (lv_sub hl [0, 1, 2, 3, 4] rfl)
    · have hq := hq.2 c9
      refine lv_aload_n hx hb dX4_layGroup_81 rfl (lv_at hl 0 rfl) ?_
      refine lv_aload hx hb dX4_layGroup_82 (lv_at hl 4 rfl) ?_
      refine sy_get C hh (fun w h => mc (uX_fX5 w h)) x5 (iX5_N hx5) (oX5 hx5) rfl 1 (by decide) (index := 73) (mc uX_263) (v := .ref (Y.2.1 (x5 + 1))) rfl dX4_layGroup_84 ?_
      refine lv_iload hx hb dX4_layGroup_87 (lv_at hl 5 rfl) ?_
      refine lv_iload_n hx hb dX4_layGroup_89 rfl (lv_at hl 1 rfl) ?_
      refine lv_aload_n hx hb dX4_layGroup_90 rfl (lv_at hl 2 rfl) ?_
      refine sy_cVV C hh (As := [.ref (Y.2.1 (x5 + 1)), .int x6, .int x2, .ref (Y.2.1 9)]) (rest := []) 27 (by decide) (oX_27 Y) rfl (mX4_show l Y _ M (x5 + 1) (iX5_iX7 hx5) x6 x2 _ hq) (cwV 4 C.1.2.2.2.2 (sy_goodV uX_good uX_305 uX_306 uX_307 uX_273 uX_289 _) rfl rfl rfl hdX4_show ⟨Nat.le_of_ble_eq_true rfl, Nat.le_of_ble_eq_true rfl⟩) rfl hl.1 rfl (Nat.le_of_ble_eq_true rfl) dX4_layGroup_91 (fun M10 H locs hq hh => ?_)
      refine lv_iinc (v := (x6 + (1 : Int32))) (lv' := [(6, .int (x6 + (1 : Int32))), (0, .ref (Y.2.1 27)), (2, .int x2), (3, .ref (Y.2.1 9)), (4, .int x4), (5, .ref (Y.2.1 x5))]) hx hb dX4_layGroup_94 hl (k := 5) rfl (sy_inc (by decide)) (by decide) rfl (fun ls hl => ?_)
      refine lv_goto (tgt := 69) hx hb dX4_layGroup_97 (by decide) ?_
      exact ih M10 x2 x4 x5 (x6 + (1 : Int32)) hx5 _ _ _ hq hh (lv_sub hl [1, 2, 3, 4, 5, 0] rfl)

set_option maxHeartbeats 4000000 in
set_option maxRecDepth 100000 in
theorem kX4_layGroup_57 (C : sy_C p m c cX4_layGroup 7 s args vsX4_layGroup RX4 meth none Y NX tfX) {Q : sy_M → Prop} :
    ∀ (M : sy_M) (x2 : Int32) (x4 : Int32) (H : Heap) (locs : List Loc) (ls : Array Slot), wX4_layGroup_57 Q M x2 x4 → sy_H Y NX EX s H locs M → lv_has ls 7 [(0, .ref (Y.2.1 27)), (2, .int x2), (3, .ref (Y.2.1 9)), (4, .int x4)] → W p l e ({ frames := 39, cells := 0, slots := 0, locals := 1223 } : Room) s m args below meth c H locs 0 0 (sy_ZV below args s Y NX EX Q) (F0 m 57 ls []) := by
  have hx := C.1.1
  have hb := C.1.2.1
  intro M x2 x4 H locs ls hq hh hl
  unfold wX4_layGroup_57 at hq
  refine lv_aload_n hx hb dX4_layGroup_57 rfl (lv_at hl 0 rfl) ?_
  refine sy_get C hh (fun w h => mc (uX_fX4 w h)) 27 (by decide) (oX_27 Y) rfl 4 (by decide) (index := 44) (mc uX_200) (v := .ref (Y.2.1 32)) rfl dX4_layGroup_58 ?_
  refine lv_iload hx hb dX4_layGroup_61 (lv_at hl 3 rfl) ?_
  obtain ⟨n8, hn8, en8, hq⟩ := hq
  refine sy_aald C hh 32 (by decide) (aX_32 Y) tX_32 hn8 en8 (by decide) dX4_layGroup_63 rfl ?_
  refine lv_astore (lv' := [(5, .ref (Y.2.1 (33 + 7 * n8))), (0, .ref (Y.2.1 27)), (2, .int x2), (3, .ref (Y.2.1 9)), (4, .int x4)]) hx hb dX4_layGroup_64 hl (by decide) rfl (fun ls hl => ?_)
  refine lv_iconst (v := (0 : Int32)) hx hb dX4_layGroup_66 (by decide) ?_
  refine lv_istore (lv' := [(6, .int (0 : Int32)), (5, .ref (Y.2.1 (33 + 7 * n8))), (0, .ref (Y.2.1 27)), (2, .int x2), (3, .ref (Y.2.1 9)), (4, .int x4)]) hx hb dX4_layGroup_67 hl (by decide) rfl (fun ls hl => ?_)
  obtain ⟨n16, hq⟩ := hq
  refine kX4_layGroup_69 C (fun M11 x2_12 x4_13 x5_14 hx5_14 H locs ls hq hh hl => ?_) n16 M x2 x4 (33 + 7 * n8) (0 : Int32) (iX5_n hn8) _ _ _ hq hh (lv_sub hl [2, 3, 4, 5, 1, 0] rfl)
  · refine lv_aload_n hx hb dX4_layGroup_100 rfl (lv_at hl 2 rfl) ?_
    refine sy_get C hh (fun w h => mc (uX_fX2 w h)) 9 (by decide) (oX_9 Y) rfl 7 (by decide) (index := 81) (mc uX_291) (v := .ref (Y.2.1 26)) rfl dX4_layGroup_101 ?_
    refine lv_iload_n hx hb dX4_layGroup_104 rfl (lv_at hl 1 rfl) ?_
    refine lv_aload_n hx hb dX4_layGroup_105 rfl (lv_at hl 0 rfl) ?_
    refine sy_get C hh (fun w h => mc (uX_fX4 w h)) 27 (by decide) (oX_27 Y) rfl 1 (by decide) (index := 18) (mc uX_189) (v := .ref (Y.2.1 28)) rfl dX4_layGroup_106 ?_
    refine sy_get C hh (fun w h => mc (uX_fX3 w h)) 28 (by decide) (oX_28 Y) rfl 1 (by decide) (index := 86) (mc uX_292) (v := .int (M11 28 1)) rfl dX4_layGroup_109 ?_
    obtain ⟨n15, hn15, en15, hq⟩ := hq
    refine sy_iast C hh 26 (by decide) (aX_26 Y) tX_26 hn15 en15 (by decide) dX4_layGroup_112 (fun H locs hh => ?_)
    refine lv_aload_n hx hb dX4_layGroup_113 rfl (lv_at hl 2 rfl) ?_
    refine sy_get C hh (fun w h => mc (uX_fX2 w h)) 9 (by decide) (oX_9 Y) rfl 4 (by decide) (index := 88) (mc uX_293) (v := .ref (Y.2.1 18)) rfl dX4_layGroup_114 ?_
    refine lv_iload_n hx hb dX4_layGroup_117 rfl (lv_at hl 1 rfl) ?_
    refine lv_iload hx hb dX4_layGroup_118 (lv_at hl 3 rfl) ?_
    refine sy_iast C hh 18 (by decide) (aX_18 Y) tX_18 hn15 en15 (by decide) dX4_layGroup_120 (fun H locs hh => ?_)
    refine lv_aload_n hx hb dX4_layGroup_121 rfl (lv_at hl 2 rfl) ?_
    refine sy_get C hh (fun w h => mc (uX_fX2 w h)) 9 (by decide) (oX_9 Y) rfl 5 (by decide) (index := 91) (mc uX_294) (v := .ref (Y.2.1 19)) rfl dX4_layGroup_122 ?_
    refine lv_iload_n hx hb dX4_layGroup_125 rfl (lv_at hl 1 rfl) ?_
    refine lv_aload hx hb dX4_layGroup_126 (lv_at hl 4 rfl) ?_
    refine sy_get C hh (fun w h => mc (uX_fX5 w h)) x5_14 (iX5_N hx5_14) (oX5 hx5_14) rfl 0 (by decide) (index := 94) (mc uX_205) (v := .int ((mu (mu M11 26 n15 (M11 28 1)) 18 n15 x4_13) x5_14 0)) rfl dX4_layGroup_128 ?_
    refine sy_iast C hh 19 (by decide) (aX_19 Y) tX_19 hn15 en15 (by decide) dX4_layGroup_131 (fun H locs hh => ?_)
    exact sy_vret C hh dX4_layGroup_132 hq

end
set_option maxHeartbeats 4000000 in
set_option maxRecDepth 100000 in
theorem mX4_layGroup (l : Launch) (Y : sy_Y) (sz : Nat) (M : sy_M) (p1 : Nat) (hp1 : iX10 p1) (a2 : Int32) (Q : sy_M → Prop) (hq : wX4_layGroup M p1 a2 Q) : Met l yX4_layGroup vsX4_layGroup ({ frames := 39, cells := 0, slots := 0, locals := 1223 } : Room) (va_Pc [.ref (Y.2.1 27), .ref (Y.2.1 p1), .int a2, .ref (Y.2.1 9)] (sy_pre Y NX EX tfX sz M)) (sy_QV Y NX EX sz Q) 0 0 (sy_A NX Y.2.1 sz) := by
  refine sy_metV (by decide) rfl (Nat.le_of_ble_eq_true rfl) ?_
  intro p e s m args below meth c C ls hl hh
  have hx := C.1.1
  have hb := C.1.2.1
  have hl : lv_has ls 7 [(0, .ref (Y.2.1 27)), (1, .ref (Y.2.1 p1)), (2, .int a2), (3, .ref (Y.2.1 9))] := hl
  unfold wX4_layGroup at hq
  refine lv_aload_n hx hb dX4_layGroup_0 rfl (lv_at hl 0 rfl) ?_
  refine sy_get C hh (fun w h => mc (uX_fX4 w h)) 27 (by decide) (oX_27 Y) rfl 1 (by decide) (index := 18) (mc uX_189) (v := .ref (Y.2.1 28)) rfl dX4_layGroup_1 ?_
  refine lv_aload_n hx hb dX4_layGroup_4 rfl (lv_at hl 1 rfl) ?_
  refine lv_iload_n hx hb dX4_layGroup_5 rfl (lv_at hl 2 rfl) ?_
  refine lv_aload_n hx hb dX4_layGroup_6 rfl (lv_at hl 3 rfl) ?_
  refine sy_cVV C hh (As := [.ref (Y.2.1 p1), .int a2, .ref (Y.2.1 9)]) (rest := []) 28 (by decide) (oX_28 Y) rfl (mX3_gather l Y _ M p1 hp1 a2 _ hq) (cwV 3 C.1.2.2.2.2 (sy_goodV uX_good uX_295 uX_296 uX_297 uX_70 uX_175 _) rfl rfl rfl hdX3_gather ⟨Nat.le_of_ble_eq_true rfl, Nat.le_of_ble_eq_true rfl⟩) rfl hl.1 rfl (Nat.le_of_ble_eq_true rfl) dX4_layGroup_7 (fun M1 H locs hq hh => ?_)
  refine lv_iconst (v := (0 : Int32)) hx hb dX4_layGroup_10 (by decide) ?_
  refine lv_istore (lv' := [(4, .int (0 : Int32)), (0, .ref (Y.2.1 27)), (1, .ref (Y.2.1 p1)), (2, .int a2), (3, .ref (Y.2.1 9))]) hx hb dX4_layGroup_11 hl (by decide) rfl (fun ls hl => ?_)
  refine lv_aload_n hx hb dX4_layGroup_13 rfl (lv_at hl 1 rfl) ?_
  refine sy_get C hh (fun w h => mc (uX_fX4 w h)) 27 (by decide) (oX_27 Y) rfl 1 (by decide) (index := 18) (mc uX_189) (v := .ref (Y.2.1 28)) rfl dX4_layGroup_14 ?_
  refine lv_iconst (v := (0 : Int32)) hx hb dX4_layGroup_17 (by decide) ?_
  refine lv_aload_n hx hb dX4_layGroup_18 rfl (lv_at hl 1 rfl) ?_
  refine sy_get C hh (fun w h => mc (uX_fX4 w h)) 27 (by decide) (oX_27 Y) rfl 1 (by decide) (index := 18) (mc uX_189) (v := .ref (Y.2.1 28)) rfl dX4_layGroup_19 ?_
  refine sy_get C hh (fun w h => mc (uX_fX3 w h)) 28 (by decide) (oX_28 Y) rfl 0 (by decide) (index := 52) (mc uX_206) (v := .int (M1 28 0)) rfl dX4_layGroup_22 ?_
  refine sy_cIV C hh (As := [.int (0 : Int32), .int (M1 28 0)]) (rest := []) 28 (by decide) (oX_28 Y) rfl (mX3_sum l Y _ M1 (0 : Int32) (M1 28 0) _ hq) (cwV 2 C.1.2.2.2.2 (sy_goodV uX_good uX_298 uX_68 uX_69 uX_70 uX_59 _) rfl rfl rfl hdX3_sum ⟨Nat.le_of_ble_eq_true rfl, Nat.le_of_ble_eq_true rfl⟩) rfl hl.1 rfl (Nat.le_of_ble_eq_true rfl) dX4_layGroup_25 (fun r3 M2 H locs hq hh => ?_)
  refine lv_if_ne (tgt := 44) hx hb dX4_layGroup_28 (by decide) (fun c4 => ?_) (fun c4 => ?_)
  · have hq := hq.1 c4
    refine lv_aload_n hx hb dX4_layGroup_44 rfl (lv_at hl 1 rfl) ?_
    refine lv_aload_n hx hb dX4_layGroup_45 rfl (lv_at hl 2 rfl) ?_
    refine sy_get C hh (fun w h => mc (uX_fX10 w h)) p1 (iX10_N hp1) (oX10 hp1) rfl 3 (by decide) (index := 63) (mc uX_290) (v := .ref (Y.2.1 (p1 + 2))) rfl dX4_layGroup_46 ?_
    refine lv_iload_n hx hb dX4_layGroup_49 rfl (lv_at hl 3 rfl) ?_
    obtain ⟨n5, hn5, en5, hq⟩ := hq
    refine sy_iald C hh (p1 + 2) (iX10_N2 hp1) (aX10_2 hp1) (tX10_2 hp1) hn5 en5 (by decide) dX4_layGroup_50 ?_
    refine lv_aload_n hx hb dX4_layGroup_51 rfl (lv_at hl 4 rfl) ?_
    refine sy_cIV C hh (As := [.int (M2 (p1 + 2) n5), .ref (Y.2.1 9)]) (rest := []) 27 (by decide) (oX_27 Y) rfl (mX4_layAs l Y _ M2 (M2 (p1 + 2) n5) _ hq) (cwV 2 C.1.2.2.2.2 (sy_goodV uX_good uX_302 uX_303 uX_304 uX_273 uX_277 _) rfl rfl rfl hdX4_layAs ⟨Nat.le_of_ble_eq_true rfl, Nat.le_of_ble_eq_true rfl⟩) rfl hl.1 rfl (Nat.le_of_ble_eq_true rfl) dX4_layGroup_52 (fun r7 M6 H locs hq hh => ?_)
    refine lv_istore (lv' := [(4, .int r7), (0, .ref (Y.2.1 27)), (1, .ref (Y.2.1 p1)), (2, .int a2), (3, .ref (Y.2.1 9))]) hx hb dX4_layGroup_55 hl (by decide) rfl (fun ls hl => ?_)
    refine kX4_layGroup_57 C  M6 a2 r7 _ _ _ hq hh (lv_sub hl [1, 3, 4, 0] rfl)
  · have hq := hq.2 c4
    refine lv_aload_n hx hb dX4_layGroup_31 rfl (lv_at hl 1 rfl) ?_
    refine lv_aload_n hx hb dX4_layGroup_32 rfl (lv_at hl 1 rfl) ?_
    refine sy_get C hh (fun w h => mc (uX_fX4 w h)) 27 (by decide) (oX_27 Y) rfl 4 (by decide) (index := 44) (mc uX_200) (v := .ref (Y.2.1 32)) rfl dX4_layGroup_33 ?_
    refine lv_iconst (v := (0 : Int32)) hx hb dX4_layGroup_36 (by decide) ?_
    obtain ⟨n17, hn17, en17, hq⟩ := hq
    refine sy_aald C hh 32 (by decide) (aX_32 Y) tX_32 hn17 en17 (by decide) dX4_layGroup_37 rfl ?_
    refine sy_cVV C hh (As := [.ref (Y.2.1 (33 + 7 * n17))]) (rest := []) 27 (by decide) (oX_27 Y) rfl (mX4_layNothing l Y _ M2 (33 + 7 * n17) (iX5_n hn17) _ hq) (cwV 1 C.1.2.2.2.2 (sy_goodV uX_good uX_299 uX_300 uX_301 uX_273 uX_210 _) rfl rfl rfl hdX4_layNothing ⟨Nat.le_of_ble_eq_true rfl, Nat.le_of_ble_eq_true rfl⟩) rfl hl.1 rfl (Nat.le_of_ble_eq_true rfl) dX4_layGroup_38 (fun M18 H locs hq hh => ?_)
    refine lv_goto (tgt := 57) hx hb dX4_layGroup_41 (by decide) ?_
    refine kX4_layGroup_57 C  M18 a2 (0 : Int32) _ _ _ hq hh (lv_sub hl [1, 3, 4, 0] rfl)

/-! AreaSetter.draw(I)I -/
def wX11_draw_74 (Q : Int32 → sy_M → Prop) : Nat → sy_M → Int32 → Prop
  | 0, _, _ => False
  | n + 1, M, x2 => ∃ t11 : Nat, (M 0 6) = nI t11 ∧ iX10 t11 ∧ (((M t11 0) ≤ x2 → Q ((M 9 0) - (1 : Int32)) M) ∧ (¬ (M t11 0) ≤ x2 → ∃ t13 : Nat, (M 0 6) = nI t13 ∧ iX10 t13 ∧ wX10_isGroup M t13 x2 (fun r15 M14 => ((r15 = 0 → wX11_draw_74 Q n M14 (x2 + (1 : Int32))) ∧ (¬ r15 = 0 → ∃ t17 : Nat, (M14 0 6) = nI t17 ∧ iX10 t17 ∧ wX4_layGroup M14 t17 x2 (fun M18 => wX11_draw_74 Q n M18 (x2 + (1 : Int32))))))))
def wX11_draw (M : sy_M) (a1 : Int32) (Q : Int32 → sy_M → Prop) : Prop := ∃ t1 : Nat, (M 0 6) = nI t1 ∧ iX10 t1 ∧ (((M t1 0) = 0 → Q (-1 : Int32) M) ∧ (¬ (M t1 0) = 0 → wX11_isTick M a1 (fun r4 M3 => ((¬ r4 = 0 → ∃ t6 : Nat, (M3 0 6) = nI t6 ∧ iX10 t6 ∧ wX0_tellSizes M3 t6 a1 (fun M7 => ∃ t8 : Nat, (M7 0 6) = nI t8 ∧ iX10 t8 ∧ wX2_begin M7 a1 (M7 t8 0) (fun M9 => wX2_show M9 (0 : Int32) (0 : Int32) (0 : Int32) (M9 0 8) (M9 0 9) (fun M10 => ∃ n19 : Nat, wX11_draw_74  Q n19 M10 (0 : Int32))))) ∧ (r4 = 0 → Q (-1 : Int32) M3)))))
section
variable {p : Program} {l : Launch} {e : Env} {s : State} {m : MethodId} {args : Array Value} {below : List Frame} {meth : Method} {c : Code} {Y : sy_Y}
set_option maxHeartbeats 4000000 in
set_option maxRecDepth 100000 in
theorem kX11_draw_74 (C : sy_C p m c cX11_draw 3 s args vsX11_draw RX11 meth (some .int) Y NX tfX) {Q : Int32 → sy_M → Prop} :
    ∀ (n : Nat) (M : sy_M) (x2 : Int32) (H : Heap) (locs : List Loc) (ls : Array Slot), wX11_draw_74 Q n M x2 → sy_H Y NX EX s H locs M → lv_has ls 3 [(0, .ref (Y.2.1 0)), (2, .int x2)] → W p l e ({ frames := 40, cells := 0, slots := 0, locals := 1249 } : Room) s m args below meth c H locs 0 0 (sy_ZI below args s Y NX EX Q) (F0 m 74 ls []) := by
  have hx := C.1.1
  have hb := C.1.2.1
  intro n
  induction n with
  | zero =>
    intro M x2 H locs ls hq hh hl
    unfold wX11_draw_74 at hq
    exact hq.elim
  | succ n ih =>
    intro M x2 H locs ls hq hh hl
    unfold wX11_draw_74 at hq
    refine lv_iload_n hx hb dX11_draw_74 rfl (lv_at hl 1 rfl) ?_
    refine lv_aload_n hx hb dX11_draw_75 rfl (lv_at hl 0 rfl) ?_
    obtain ⟨t11, et11, ht11, hq⟩ := hq
    refine sy_get C hh (fun w h => mc (uX_fX11 w h)) 0 (by decide) (oX_0 Y) rfl 6 (by decide) (index := 49) (mc uX_498) (v := .ref (Y.2.1 t11)) (sy_rf_of et11 (by have := iX10_lt ht11; omega)) dX11_draw_76 ?_
    refine sy_get C hh (fun w h => mc (uX_fX10 w h)) t11 (iX10_N ht11) (oX10 ht11) rfl 0 (by decide) (index := 89) (mc uX_521) (v := .int (M t11 0)) rfl dX11_draw_79 ?_
    refine lv_icmp_ge (tgt := 118) hx hb dX11_draw_82 (by decide) (fun c12 => ?_) (fun c12 => ?_)
    · have hq := hq.1 c12
      refine lv_aload_n hx hb dX11_draw_118 rfl (lv_at hl 0 rfl) ?_
      refine sy_get C hh (fun w h => mc (uX_fX11 w h)) 0 (by decide) (oX_0 Y) rfl 3 (by decide) (index := 31) (mc uX_492) (v := .ref (Y.2.1 9)) rfl dX11_draw_119 ?_
      refine sy_get C hh (fun w h => mc (uX_fX2 w h)) 9 (by decide) (oX_9 Y) rfl 0 (by decide) (index := 86) (mc uX_520) (v := .int (M 9 0)) rfl dX11_draw_122 ?_
      refine lv_iconst (v := (1 : Int32)) hx hb dX11_draw_125 (by decide) ?_
      refine lv_isub hx hb dX11_draw_126 ?_
      exact sy_iret C hh dX11_draw_127 hq
    · have hq := hq.2 c12
      refine lv_aload_n hx hb dX11_draw_85 rfl (lv_at hl 0 rfl) ?_
      obtain ⟨t13, et13, ht13, hq⟩ := hq
      refine sy_get C hh (fun w h => mc (uX_fX11 w h)) 0 (by decide) (oX_0 Y) rfl 6 (by decide) (index := 49) (mc uX_498) (v := .ref (Y.2.1 t13)) (sy_rf_of et13 (by have := iX10_lt ht13; omega)) dX11_draw_86 ?_
      refine lv_iload_n hx hb dX11_draw_89 rfl (lv_at hl 1 rfl) ?_
      refine sy_cIV C hh (As := [.int x2]) (rest := []) t13 (iX10_N ht13) (oX10 ht13) rfl (mX10_isGroup l Y _ M t13 ht13 x2 _ hq) (cwV 1 C.1.2.2.2.2 (sy_goodV uX_good uX_540 uX_127 uX_128 uX_20 uX_122 _) rfl rfl rfl hdX10_isGroup ⟨Nat.le_of_ble_eq_true rfl, Nat.le_of_ble_eq_true rfl⟩) rfl hl.1 rfl (Nat.le_of_ble_eq_true rfl) dX11_draw_90 (fun r15 M14 H locs hq hh => ?_)
      refine lv_if_eq (tgt := 112) hx hb dX11_draw_93 (by decide) (fun c16 => ?_) (fun c16 => ?_)
      · have hq := hq.1 c16
        refine lv_iinc (v := (x2 + (1 : Int32))) (lv' := [(2, .int (x2 + (1 : Int32))), (0, .ref (Y.2.1 0))]) hx hb dX11_draw_112 hl (k := 1) rfl (sy_inc (by decide)) (by decide) rfl (fun ls hl => ?_)
        refine lv_goto (tgt := 74) hx hb dX11_draw_115 (by decide) ?_
        exact ih M14 (x2 + (1 : Int32)) _ _ _ hq hh (lv_sub hl [1, 0] rfl)
      · have hq := hq.2 c16
        refine lv_aload_n hx hb dX11_draw_96 rfl (lv_at hl 0 rfl) ?_
        refine sy_get C hh (fun w h => mc (uX_fX11 w h)) 0 (by decide) (oX_0 Y) rfl 4 (by decide) (index := 38) (mc uX_495) (v := .ref (Y.2.1 27)) rfl dX11_draw_97 ?_
        refine lv_aload_n hx hb dX11_draw_100 rfl (lv_at hl 0 rfl) ?_
        obtain ⟨t17, et17, ht17, hq⟩ := hq
        refine sy_get C hh (fun w h => mc (uX_fX11 w h)) 0 (by decide) (oX_0 Y) rfl 6 (by decide) (index := 49) (mc uX_498) (v := .ref (Y.2.1 t17)) (sy_rf_of et17 (by have := iX10_lt ht17; omega)) dX11_draw_101 ?_
        refine lv_iload_n hx hb dX11_draw_104 rfl (lv_at hl 1 rfl) ?_
        refine lv_aload_n hx hb dX11_draw_105 rfl (lv_at hl 0 rfl) ?_
        refine sy_get C hh (fun w h => mc (uX_fX11 w h)) 0 (by decide) (oX_0 Y) rfl 3 (by decide) (index := 31) (mc uX_492) (v := .ref (Y.2.1 9)) rfl dX11_draw_106 ?_
        refine sy_cVV C hh (As := [.ref (Y.2.1 t17), .int x2, .ref (Y.2.1 9)]) (rest := []) 27 (by decide) (oX_27 Y) rfl (mX4_layGroup l Y _ M14 t17 ht17 x2 _ hq) (cwV 3 C.1.2.2.2.2 (sy_goodV uX_good uX_548 uX_549 uX_550 uX_273 uX_308 _) rfl rfl rfl hdX4_layGroup ⟨Nat.le_of_ble_eq_true rfl, Nat.le_of_ble_eq_true rfl⟩) rfl hl.1 rfl (Nat.le_of_ble_eq_true rfl) dX11_draw_109 (fun M18 H locs hq hh => ?_)
        refine lv_iinc (v := (x2 + (1 : Int32))) (lv' := [(2, .int (x2 + (1 : Int32))), (0, .ref (Y.2.1 0))]) hx hb dX11_draw_112 hl (k := 1) rfl (sy_inc (by decide)) (by decide) rfl (fun ls hl => ?_)
        refine lv_goto (tgt := 74) hx hb dX11_draw_115 (by decide) ?_
        exact ih M18 (x2 + (1 : Int32)) _ _ _ hq hh (lv_sub hl [1, 0] rfl)

end
set_option maxHeartbeats 4000000 in
set_option maxRecDepth 100000 in
theorem mX11_draw (l : Launch) (Y : sy_Y) (sz : Nat) (M : sy_M) (a1 : Int32) (Q : Int32 → sy_M → Prop) (hq : wX11_draw M a1 Q) : Met l yX11_draw vsX11_draw ({ frames := 40, cells := 0, slots := 0, locals := 1249 } : Room) (va_Pc [.ref (Y.2.1 0), .int a1] (sy_pre Y NX EX tfX sz M)) (sy_QI Y NX EX sz Q) 0 0 (sy_A NX Y.2.1 sz) := by
  refine sy_metI (by decide) rfl (Nat.le_of_ble_eq_true rfl) ?_
  intro p e s m args below meth c C ls hl hh
  have hx := C.1.1
  have hb := C.1.2.1
  have hl : lv_has ls 3 [(0, .ref (Y.2.1 0)), (1, .int a1)] := hl
  unfold wX11_draw at hq
  refine lv_aload_n hx hb dX11_draw_0 rfl (lv_at hl 0 rfl) ?_
  obtain ⟨t1, et1, ht1, hq⟩ := hq
  refine sy_get C hh (fun w h => mc (uX_fX11 w h)) 0 (by decide) (oX_0 Y) rfl 6 (by decide) (index := 49) (mc uX_498) (v := .ref (Y.2.1 t1)) (sy_rf_of et1 (by have := iX10_lt ht1; omega)) dX11_draw_1 ?_
  refine sy_get C hh (fun w h => mc (uX_fX10 w h)) t1 (iX10_N ht1) (oX10 ht1) rfl 0 (by decide) (index := 89) (mc uX_521) (v := .int (M t1 0)) rfl dX11_draw_4 ?_
  refine lv_if_eq (tgt := 17) hx hb dX11_draw_7 (by decide) (fun c2 => ?_) (fun c2 => ?_)
  · have hq := hq.1 c2
    refine lv_iconst (v := (-1 : Int32)) hx hb dX11_draw_17 (by decide) ?_
    exact sy_iret C hh dX11_draw_18 hq
  · have hq := hq.2 c2
    refine lv_iload_n hx hb dX11_draw_10 rfl (lv_at hl 1 rfl) ?_
    refine sy_cIS C hh (As := [.int a1]) (rest := []) (mX11_isTick l Y _ M a1 _ hq) (va_cwS 1 C.1.2.2.2.2 (sy_goodS uX_good uX_531 uX_532 uX_58 uX_528 _) rfl rfl rfl hdX11_isTick.2 ⟨Nat.le_of_ble_eq_true rfl, Nat.le_of_ble_eq_true rfl⟩) rfl hl.1 rfl (Nat.le_of_ble_eq_true rfl) dX11_draw_11 (fun r4 M3 H locs hq hh => ?_)
    refine lv_if_ne (tgt := 19) hx hb dX11_draw_14 (by decide) (fun c5 => ?_) (fun c5 => ?_)
    · have hq := hq.1 c5
      refine lv_aload_n hx hb dX11_draw_19 rfl (lv_at hl 0 rfl) ?_
      refine sy_get C hh (fun w h => mc (uX_fX11 w h)) 0 (by decide) (oX_0 Y) rfl 2 (by decide) (index := 24) (mc uX_489) (v := .ref (Y.2.1 4)) rfl dX11_draw_20 ?_
      refine lv_aload_n hx hb dX11_draw_23 rfl (lv_at hl 0 rfl) ?_
      obtain ⟨t6, et6, ht6, hq⟩ := hq
      refine sy_get C hh (fun w h => mc (uX_fX11 w h)) 0 (by decide) (oX_0 Y) rfl 6 (by decide) (index := 49) (mc uX_498) (v := .ref (Y.2.1 t6)) (sy_rf_of et6 (by have := iX10_lt ht6; omega)) dX11_draw_24 ?_
      refine lv_iload_n hx hb dX11_draw_27 rfl (lv_at hl 1 rfl) ?_
      refine lv_aload_n hx hb dX11_draw_28 rfl (lv_at hl 0 rfl) ?_
      refine sy_get C hh (fun w h => mc (uX_fX11 w h)) 0 (by decide) (oX_0 Y) rfl 5 (by decide) (index := 42) (mc uX_496) (v := .ref (Y.2.1 59)) rfl dX11_draw_29 ?_
      refine sy_cVV C hh (As := [.ref (Y.2.1 t6), .int a1, .ref (Y.2.1 59)]) (rest := []) 4 (by decide) (oX_4 Y) rfl (mX0_tellSizes l Y _ M3 t6 ht6 a1 _ hq) (cwV 3 C.1.2.2.2.2 (sy_goodV uX_good uX_541 uX_542 uX_543 uX_488 uX_13 _) rfl rfl rfl hdX0_tellSizes ⟨Nat.le_of_ble_eq_true rfl, Nat.le_of_ble_eq_true rfl⟩) rfl hl.1 rfl (Nat.le_of_ble_eq_true rfl) dX11_draw_32 (fun M7 H locs hq hh => ?_)
      refine lv_aload_n hx hb dX11_draw_35 rfl (lv_at hl 0 rfl) ?_
      refine sy_get C hh (fun w h => mc (uX_fX11 w h)) 0 (by decide) (oX_0 Y) rfl 3 (by decide) (index := 31) (mc uX_492) (v := .ref (Y.2.1 9)) rfl dX11_draw_36 ?_
      refine lv_iload_n hx hb dX11_draw_39 rfl (lv_at hl 1 rfl) ?_
      refine lv_aload_n hx hb dX11_draw_40 rfl (lv_at hl 0 rfl) ?_
      obtain ⟨t8, et8, ht8, hq⟩ := hq
      refine sy_get C hh (fun w h => mc (uX_fX11 w h)) 0 (by decide) (oX_0 Y) rfl 6 (by decide) (index := 49) (mc uX_498) (v := .ref (Y.2.1 t8)) (sy_rf_of et8 (by have := iX10_lt ht8; omega)) dX11_draw_41 ?_
      refine sy_get C hh (fun w h => mc (uX_fX10 w h)) t8 (iX10_N ht8) (oX10 ht8) rfl 0 (by decide) (index := 89) (mc uX_521) (v := .int (M7 t8 0)) rfl dX11_draw_44 ?_
      refine lv_aload_n hx hb dX11_draw_47 rfl (lv_at hl 0 rfl) ?_
      refine sy_get C hh (fun w h => mc (uX_fX11 w h)) 0 (by decide) (oX_0 Y) rfl 5 (by decide) (index := 42) (mc uX_496) (v := .ref (Y.2.1 59)) rfl dX11_draw_48 ?_
      refine sy_cVV C hh (As := [.int a1, .int (M7 t8 0), .ref (Y.2.1 59)]) (rest := []) 9 (by decide) (oX_9 Y) rfl (mX2_begin l Y _ M7 a1 (M7 t8 0) _ hq) (cwV 3 C.1.2.2.2.2 (sy_goodV uX_good uX_544 uX_545 uX_546 uX_114 uX_115 _) rfl rfl rfl hdX2_begin ⟨Nat.le_of_ble_eq_true rfl, Nat.le_of_ble_eq_true rfl⟩) rfl hl.1 rfl (Nat.le_of_ble_eq_true rfl) dX11_draw_51 (fun M9 H locs hq hh => ?_)
      refine lv_aload_n hx hb dX11_draw_54 rfl (lv_at hl 0 rfl) ?_
      refine sy_get C hh (fun w h => mc (uX_fX11 w h)) 0 (by decide) (oX_0 Y) rfl 3 (by decide) (index := 31) (mc uX_492) (v := .ref (Y.2.1 9)) rfl dX11_draw_55 ?_
      refine lv_iconst (v := (0 : Int32)) hx hb dX11_draw_58 (by decide) ?_
      refine lv_iconst (v := (0 : Int32)) hx hb dX11_draw_59 (by decide) ?_
      refine lv_iconst (v := (0 : Int32)) hx hb dX11_draw_60 (by decide) ?_
      refine lv_aload_n hx hb dX11_draw_61 rfl (lv_at hl 0 rfl) ?_
      refine sy_get C hh (fun w h => mc (uX_fX11 w h)) 0 (by decide) (oX_0 Y) rfl 7 (by decide) (index := 53) (mc uX_499) (v := .int (M9 0 8)) rfl dX11_draw_62 ?_
      refine lv_aload_n hx hb dX11_draw_65 rfl (lv_at hl 0 rfl) ?_
      refine sy_get C hh (fun w h => mc (uX_fX11 w h)) 0 (by decide) (oX_0 Y) rfl 8 (by decide) (index := 57) (mc uX_500) (v := .int (M9 0 9)) rfl dX11_draw_66 ?_
      refine sy_cVV C hh (As := [.int (0 : Int32), .int (0 : Int32), .int (0 : Int32), .int (M9 0 8), .int (M9 0 9)]) (rest := []) 9 (by decide) (oX_9 Y) rfl (mX2_show l Y _ M9 (0 : Int32) (0 : Int32) (0 : Int32) (M9 0 8) (M9 0 9) _ hq) (cwV 5 C.1.2.2.2.2 (sy_goodV uX_good uX_547 uX_286 uX_287 uX_114 uX_120 _) rfl rfl rfl hdX2_show ⟨Nat.le_of_ble_eq_true rfl, Nat.le_of_ble_eq_true rfl⟩) rfl hl.1 rfl (Nat.le_of_ble_eq_true rfl) dX11_draw_69 (fun M10 H locs hq hh => ?_)
      refine lv_iconst (v := (0 : Int32)) hx hb dX11_draw_72 (by decide) ?_
      refine lv_istore_n (lv' := [(2, .int (0 : Int32)), (0, .ref (Y.2.1 0)), (1, .int a1)]) hx hb dX11_draw_73 rfl hl (by decide) rfl (fun ls hl => ?_)
      obtain ⟨n19, hq⟩ := hq
      refine kX11_draw_74 C  n19 M10 (0 : Int32) _ _ _ hq hh (lv_sub hl [1, 0] rfl)
    · have hq := hq.2 c5
      refine lv_iconst (v := (-1 : Int32)) hx hb dX11_draw_17 (by decide) ?_
      exact sy_iret C hh dX11_draw_18 hq

/-! AreaSetter$Rectangles.tell(II)I -/
def wX7_tell (M : sy_M) (p0 : Nat) (a1 : Int32) (a2 : Int32) (Q : Int32 → sy_M → Prop) : Prop := ((a2 = (0 : Int32) → ∃ n2 : Nat, n2 < (lX7 p0) ∧ a1 = nI n2 ∧ Q (M (p0 + 1) n2) M) ∧ (¬ a2 = (0 : Int32) → ((a2 = (1 : Int32) → ∃ n4 : Nat, n4 < (lX7 p0) ∧ a1 = nI n4 ∧ Q (M (p0 + 2) n4) M) ∧ (¬ a2 = (1 : Int32) → ((a2 = (nI 2) → ∃ n6 : Nat, n6 < (lX7 p0) ∧ a1 = nI n6 ∧ Q (M (p0 + 3) n6) M) ∧ (¬ a2 = (nI 2) → ((a2 = (nI 3) → ∃ n8 : Nat, n8 < (lX7 p0) ∧ a1 = nI n8 ∧ Q (M (p0 + 4) n8) M) ∧ (¬ a2 = (nI 3) → ((a2 = (nI 4) → ∃ n10 : Nat, n10 < (lX7 p0) ∧ a1 = nI n10 ∧ Q (M (p0 + 5) n10) M) ∧ (¬ a2 = (nI 4) → ((a2 = (nI 5) → ∃ n12 : Nat, n12 < (lX7 p0) ∧ a1 = nI n12 ∧ wX11_shapeOf M (M (p0 + 5) n12) (M (p0 + 3) n12) (M (p0 + 4) n12) (fun r14 M13 => Q r14 M13)) ∧ (¬ a2 = (nI 5) → Q (-1 : Int32) M))))))))))))
section
variable {p : Program} {l : Launch} {e : Env} {s : State} {m : MethodId} {args : Array Value} {below : List Frame} {meth : Method} {c : Code} {Y : sy_Y}
end
set_option maxHeartbeats 4000000 in
set_option maxRecDepth 100000 in
theorem mX7_tell (l : Launch) (Y : sy_Y) (sz : Nat) (M : sy_M) (p0 : Nat) (hp0 : iX7 p0) (a1 : Int32) (a2 : Int32) (Q : Int32 → sy_M → Prop) (hq : wX7_tell M p0 a1 a2 Q) : Met l yX7_tell vsX7_tell ({ frames := 1, cells := 0, slots := 0, locals := 24 } : Room) (va_Pc [.ref (Y.2.1 p0), .int a1, .int a2] (sy_pre Y NX EX tfX sz M)) (sy_QI Y NX EX sz Q) 0 0 (sy_A NX Y.2.1 sz) := by
  refine sy_metI (by decide) rfl (Nat.le_of_ble_eq_true rfl) ?_
  intro p e s m args below meth c C ls hl hh
  have hx := C.1.1
  have hb := C.1.2.1
  have hl : lv_has ls 3 [(0, .ref (Y.2.1 p0)), (1, .int a1), (2, .int a2)] := hl
  unfold wX7_tell at hq
  refine lv_iload_n hx hb dX7_tell_0 rfl (lv_at hl 2 rfl) ?_
  by_cases c1 : a2 = (0 : Int32)
  · have hq := hq.1 c1
    refine lv_tableIn (tgt := 40) (off := 39) hx hb dX7_tell_1 (by rw [c1]; decide) (by rw [c1]; decide) (by rw [c1]; rfl) (by decide) ?_
    refine lv_aload_n hx hb dX7_tell_40 rfl (lv_at hl 0 rfl) ?_
    refine sy_get C hh (fun w h => mc (uX_fX7 w h)) p0 (iX7_N hp0) (oX7 hp0) rfl 0 (by decide) (index := 15) (mc uX_27) (v := .ref (Y.2.1 (p0 + 1))) rfl dX7_tell_41 ?_
    refine lv_iload_n hx hb dX7_tell_44 rfl (lv_at hl 1 rfl) ?_
    obtain ⟨n2, hn2, en2, hq⟩ := hq
    refine sy_iald C hh (p0 + 1) (iX7_N1 hp0) (aX7_1 hp0) (tX7_1 hp0) hn2 en2 (lX7_lt _) dX7_tell_45 ?_
    exact sy_iret C hh dX7_tell_46 hq
  · have hq := hq.2 c1
    by_cases c3 : a2 = (1 : Int32)
    · have hq := hq.1 c3
      refine lv_tableIn (tgt := 47) (off := 46) hx hb dX7_tell_1 (by rw [c3]; decide) (by rw [c3]; decide) (by rw [c3]; rfl) (by decide) ?_
      refine lv_aload_n hx hb dX7_tell_47 rfl (lv_at hl 0 rfl) ?_
      refine sy_get C hh (fun w h => mc (uX_fX7 w h)) p0 (iX7_N hp0) (oX7 hp0) rfl 1 (by decide) (index := 21) (mc uX_28) (v := .ref (Y.2.1 (p0 + 2))) rfl dX7_tell_48 ?_
      refine lv_iload_n hx hb dX7_tell_51 rfl (lv_at hl 1 rfl) ?_
      obtain ⟨n4, hn4, en4, hq⟩ := hq
      refine sy_iald C hh (p0 + 2) (iX7_N2 hp0) (aX7_2 hp0) (tX7_2 hp0) hn4 en4 (lX7_lt _) dX7_tell_52 ?_
      exact sy_iret C hh dX7_tell_53 hq
    · have hq := hq.2 c3
      by_cases c5 : a2 = (nI 2)
      · have hq := hq.1 c5
        refine lv_tableIn (tgt := 54) (off := 53) hx hb dX7_tell_1 (by rw [c5]; decide) (by rw [c5]; decide) (by rw [c5]; rfl) (by decide) ?_
        refine lv_aload_n hx hb dX7_tell_54 rfl (lv_at hl 0 rfl) ?_
        refine sy_get C hh (fun w h => mc (uX_fX7 w h)) p0 (iX7_N hp0) (oX7 hp0) rfl 2 (by decide) (index := 24) (mc uX_29) (v := .ref (Y.2.1 (p0 + 3))) rfl dX7_tell_55 ?_
        refine lv_iload_n hx hb dX7_tell_58 rfl (lv_at hl 1 rfl) ?_
        obtain ⟨n6, hn6, en6, hq⟩ := hq
        refine sy_iald C hh (p0 + 3) (iX7_N3 hp0) (aX7_3 hp0) (tX7_3 hp0) hn6 en6 (lX7_lt _) dX7_tell_59 ?_
        exact sy_iret C hh dX7_tell_60 hq
      · have hq := hq.2 c5
        by_cases c7 : a2 = (nI 3)
        · have hq := hq.1 c7
          refine lv_tableIn (tgt := 61) (off := 60) hx hb dX7_tell_1 (by rw [c7]; decide) (by rw [c7]; decide) (by rw [c7]; rfl) (by decide) ?_
          refine lv_aload_n hx hb dX7_tell_61 rfl (lv_at hl 0 rfl) ?_
          refine sy_get C hh (fun w h => mc (uX_fX7 w h)) p0 (iX7_N hp0) (oX7 hp0) rfl 3 (by decide) (index := 27) (mc uX_30) (v := .ref (Y.2.1 (p0 + 4))) rfl dX7_tell_62 ?_
          refine lv_iload_n hx hb dX7_tell_65 rfl (lv_at hl 1 rfl) ?_
          obtain ⟨n8, hn8, en8, hq⟩ := hq
          refine sy_iald C hh (p0 + 4) (iX7_N4 hp0) (aX7_4 hp0) (tX7_4 hp0) hn8 en8 (lX7_lt _) dX7_tell_66 ?_
          exact sy_iret C hh dX7_tell_67 hq
        · have hq := hq.2 c7
          by_cases c9 : a2 = (nI 4)
          · have hq := hq.1 c9
            refine lv_tableIn (tgt := 68) (off := 67) hx hb dX7_tell_1 (by rw [c9]; decide) (by rw [c9]; decide) (by rw [c9]; rfl) (by decide) ?_
            refine lv_aload_n hx hb dX7_tell_68 rfl (lv_at hl 0 rfl) ?_
            refine sy_get C hh (fun w h => mc (uX_fX7 w h)) p0 (iX7_N hp0) (oX7 hp0) rfl 4 (by decide) (index := 30) (mc uX_31) (v := .ref (Y.2.1 (p0 + 5))) rfl dX7_tell_69 ?_
            refine lv_iload_n hx hb dX7_tell_72 rfl (lv_at hl 1 rfl) ?_
            obtain ⟨n10, hn10, en10, hq⟩ := hq
            refine sy_iald C hh (p0 + 5) (iX7_N5 hp0) (aX7_5 hp0) (tX7_5 hp0) hn10 en10 (lX7_lt _) dX7_tell_73 ?_
            exact sy_iret C hh dX7_tell_74 hq
          · have hq := hq.2 c9
            by_cases c11 : a2 = (nI 5)
            · have hq := hq.1 c11
              refine lv_tableIn (tgt := 75) (off := 74) hx hb dX7_tell_1 (by rw [c11]; decide) (by rw [c11]; decide) (by rw [c11]; rfl) (by decide) ?_
              refine lv_aload_n hx hb dX7_tell_75 rfl (lv_at hl 0 rfl) ?_
              refine sy_get C hh (fun w h => mc (uX_fX7 w h)) p0 (iX7_N hp0) (oX7 hp0) rfl 4 (by decide) (index := 30) (mc uX_31) (v := .ref (Y.2.1 (p0 + 5))) rfl dX7_tell_76 ?_
              refine lv_iload_n hx hb dX7_tell_79 rfl (lv_at hl 1 rfl) ?_
              obtain ⟨n12, hn12, en12, hq⟩ := hq
              refine sy_iald C hh (p0 + 5) (iX7_N5 hp0) (aX7_5 hp0) (tX7_5 hp0) hn12 en12 (lX7_lt _) dX7_tell_80 ?_
              refine lv_aload_n hx hb dX7_tell_81 rfl (lv_at hl 0 rfl) ?_
              refine sy_get C hh (fun w h => mc (uX_fX7 w h)) p0 (iX7_N hp0) (oX7 hp0) rfl 2 (by decide) (index := 24) (mc uX_29) (v := .ref (Y.2.1 (p0 + 3))) rfl dX7_tell_82 ?_
              refine lv_iload_n hx hb dX7_tell_85 rfl (lv_at hl 1 rfl) ?_
              refine sy_iald C hh (p0 + 3) (iX7_N3 hp0) (aX7_3 hp0) (tX7_3 hp0) hn12 en12 (lX7_lt _) dX7_tell_86 ?_
              refine lv_aload_n hx hb dX7_tell_87 rfl (lv_at hl 0 rfl) ?_
              refine sy_get C hh (fun w h => mc (uX_fX7 w h)) p0 (iX7_N hp0) (oX7 hp0) rfl 3 (by decide) (index := 27) (mc uX_30) (v := .ref (Y.2.1 (p0 + 4))) rfl dX7_tell_88 ?_
              refine lv_iload_n hx hb dX7_tell_91 rfl (lv_at hl 1 rfl) ?_
              refine sy_iald C hh (p0 + 4) (iX7_N4 hp0) (aX7_4 hp0) (tX7_4 hp0) hn12 en12 (lX7_lt _) dX7_tell_92 ?_
              refine sy_cIN C hh (As := [.int (M (p0 + 5) n12), .int (M (p0 + 3) n12), .int (M (p0 + 4) n12)]) (rest := []) (mX11_shapeOf l Y _ M (M (p0 + 5) n12) (M (p0 + 3) n12) (M (p0 + 4) n12) _ hq) ⟨va_cnB 3 C.1.2.2.2.2 (sy_goodN uX_good uX_49 _) rfl rfl rfl (C.2.1.2.1 ("AreaSetter$Rectangles", 33, yX11_shapeOf) (by simp)) (C.1.2.2.2.2 _ (mc uX_58)) hdX11_shapeOf.2 ⟨Nat.le_of_ble_eq_true rfl, Nat.le_of_ble_eq_true rfl⟩, C.1.2.2.2.2 _ (mc uX_57), trivial⟩ rfl hl.1 rfl (Nat.le_of_ble_eq_true rfl) dX7_tell_93 (fun r14 M13 H locs hq hh => ?_)
              exact sy_iret C hh dX7_tell_96 hq
            · have hq := hq.2 c11
              refine lv_tableOut (tgt := 97) hx hb dX7_tell_1 (by have := lv_neT c1 (a := 0) (by decide); have := lv_neT c3 (a := 1) (by decide); have := lv_neT c5 (a := 2) (by decide); have := lv_neT c7 (a := 3) (by decide); have := lv_neT c9 (a := 4) (by decide); have := lv_neT c11 (a := 5) (by decide); omega) (by decide) ?_
              refine lv_iconst (v := (-1 : Int32)) hx hb dX7_tell_97 (by decide) ?_
              exact sy_iret C hh dX7_tell_98 hq

/-! AreaSetter.box(II)I -/
def wX11_box_76 (Q : Int32 → sy_M → Prop) (M : sy_M) (x1 : Int32) (x2 : Int32) : Prop := ∃ t12 : Nat, (M 0 6) = nI t12 ∧ iX10 t12 ∧ wX10_isGroup M t12 x1 (fun r14 M13 => ((¬ r14 = 0 → ((¬ x2 = (nI 6) → ∃ n17 : Nat, n17 < 40 ∧ x1 = nI n17 ∧ Q (M13 19 n17) M13) ∧ (x2 = (nI 6) → ∃ n18 : Nat, n18 < 40 ∧ x1 = nI n18 ∧ Q (M13 18 n18) M13))) ∧ (r14 = 0 → Q (-1 : Int32) M13)))
def wX11_box (M : sy_M) (a1 : Int32) (a2 : Int32) (Q : Int32 → sy_M → Prop) : Prop := (((M 9 0) = 0 → Q (-1 : Int32) M) ∧ (¬ (M 9 0) = 0 → ∃ t2 : Nat, (M 0 6) = nI t2 ∧ iX10 t2 ∧ wX10_has M t2 a1 (fun r4 M3 => ((¬ r4 = 0 → wX2_latestCell M3 a1 (fun r7 M6 => ((¬ a2 = (nI 4) → ∃ n9 : Nat, n9 < 2000 ∧ r7 = nI n9 ∧ ((¬ (M6 17 n9) = 0 → ((a2 = (nI 6) → wX11_box_76  Q M6 a1 a2) ∧ (¬ a2 = (nI 6) → ((¬ a2 = (nI 7) → wX7_tell M6 11 r7 a2 (fun r21 M20 => Q r21 M20)) ∧ (a2 = (nI 7) → wX11_box_76  Q M6 a1 a2))))) ∧ ((M6 17 n9) = 0 → Q (-1 : Int32) M6))) ∧ (a2 = (nI 4) → ∃ n22 : Nat, n22 < 2000 ∧ r7 = nI n22 ∧ Q (M6 16 n22) M6)))) ∧ (r4 = 0 → Q (-1 : Int32) M3)))))
section
variable {p : Program} {l : Launch} {e : Env} {s : State} {m : MethodId} {args : Array Value} {below : List Frame} {meth : Method} {c : Code} {Y : sy_Y}
set_option maxHeartbeats 4000000 in
set_option maxRecDepth 100000 in
theorem kX11_box_76 (C : sy_C p m c cX11_box 4 s args vsX11_box RX11 meth (some .int) Y NX tfX) {Q : Int32 → sy_M → Prop} :
    ∀ (M : sy_M) (x1 : Int32) (x2 : Int32) (H : Heap) (locs : List Loc) (ls : Array Slot), wX11_box_76 Q M x1 x2 → sy_H Y NX EX s H locs M → lv_has ls 4 [(0, .ref (Y.2.1 0)), (1, .int x1), (2, .int x2)] → W p l e ({ frames := 2, cells := 0, slots := 0, locals := 46 } : Room) s m args below meth c H locs 0 0 (sy_ZI below args s Y NX EX Q) (F0 m 76 ls []) := by
  have hx := C.1.1
  have hb := C.1.2.1
  intro M x1 x2 H locs ls hq hh hl
  unfold wX11_box_76 at hq
  refine lv_aload_n hx hb dX11_box_76 rfl (lv_at hl 0 rfl) ?_
  obtain ⟨t12, et12, ht12, hq⟩ := hq
  refine sy_get C hh (fun w h => mc (uX_fX11 w h)) 0 (by decide) (oX_0 Y) rfl 6 (by decide) (index := 49) (mc uX_498) (v := .ref (Y.2.1 t12)) (sy_rf_of et12 (by have := iX10_lt ht12; omega)) dX11_box_77 ?_
  refine lv_iload_n hx hb dX11_box_80 rfl (lv_at hl 1 rfl) ?_
  refine sy_cIV C hh (As := [.int x1]) (rest := []) t12 (iX10_N ht12) (oX10 ht12) rfl (mX10_isGroup l Y _ M t12 ht12 x1 _ hq) (cwV 1 C.1.2.2.2.2 (sy_goodV uX_good uX_540 uX_127 uX_128 uX_20 uX_122 _) rfl rfl rfl hdX10_isGroup ⟨Nat.le_of_ble_eq_true rfl, Nat.le_of_ble_eq_true rfl⟩) rfl hl.1 rfl (Nat.le_of_ble_eq_true rfl) dX11_box_81 (fun r14 M13 H locs hq hh => ?_)
  refine lv_if_ne (tgt := 89) hx hb dX11_box_84 (by decide) (fun c15 => ?_) (fun c15 => ?_)
  · have hq := hq.1 c15
    refine lv_iload_n hx hb dX11_box_89 rfl (lv_at hl 2 rfl) ?_
    refine lv_bipush (v := (nI 6)) hx hb dX11_box_90 (by decide) ?_
    refine lv_icmp_ne (tgt := 107) hx hb dX11_box_92 (by decide) (fun c16 => ?_) (fun c16 => ?_)
    · have hq := hq.1 c16
      refine lv_aload_n hx hb dX11_box_107 rfl (lv_at hl 0 rfl) ?_
      refine sy_get C hh (fun w h => mc (uX_fX11 w h)) 0 (by decide) (oX_0 Y) rfl 3 (by decide) (index := 31) (mc uX_492) (v := .ref (Y.2.1 9)) rfl dX11_box_108 ?_
      refine sy_get C hh (fun w h => mc (uX_fX2 w h)) 9 (by decide) (oX_9 Y) rfl 5 (by decide) (index := 153) (mc uX_556) (v := .ref (Y.2.1 19)) rfl dX11_box_111 ?_
      refine lv_iload_n hx hb dX11_box_114 rfl (lv_at hl 1 rfl) ?_
      obtain ⟨n17, hn17, en17, hq⟩ := hq
      refine sy_iald C hh 19 (by decide) (aX_19 Y) tX_19 hn17 en17 (by decide) dX11_box_115 ?_
      exact sy_iret C hh dX11_box_116 hq
    · have hq := hq.2 c16
      refine lv_aload_n hx hb dX11_box_95 rfl (lv_at hl 0 rfl) ?_
      refine sy_get C hh (fun w h => mc (uX_fX11 w h)) 0 (by decide) (oX_0 Y) rfl 3 (by decide) (index := 31) (mc uX_492) (v := .ref (Y.2.1 9)) rfl dX11_box_96 ?_
      refine sy_get C hh (fun w h => mc (uX_fX2 w h)) 9 (by decide) (oX_9 Y) rfl 4 (by decide) (index := 150) (mc uX_555) (v := .ref (Y.2.1 18)) rfl dX11_box_99 ?_
      refine lv_iload_n hx hb dX11_box_102 rfl (lv_at hl 1 rfl) ?_
      obtain ⟨n18, hn18, en18, hq⟩ := hq
      refine sy_iald C hh 18 (by decide) (aX_18 Y) tX_18 hn18 en18 (by decide) dX11_box_103 ?_
      refine lv_goto (tgt := 116) hx hb dX11_box_104 (by decide) ?_
      exact sy_iret C hh dX11_box_116 hq
  · have hq := hq.2 c15
    refine lv_iconst (v := (-1 : Int32)) hx hb dX11_box_87 (by decide) ?_
    exact sy_iret C hh dX11_box_88 hq

end
set_option maxHeartbeats 4000000 in
set_option maxRecDepth 100000 in
theorem mX11_box (l : Launch) (Y : sy_Y) (sz : Nat) (M : sy_M) (a1 : Int32) (a2 : Int32) (Q : Int32 → sy_M → Prop) (hq : wX11_box M a1 a2 Q) : Met l yX11_box vsX11_box ({ frames := 2, cells := 0, slots := 0, locals := 46 } : Room) (va_Pc [.ref (Y.2.1 0), .int a1, .int a2] (sy_pre Y NX EX tfX sz M)) (sy_QI Y NX EX sz Q) 0 0 (sy_A NX Y.2.1 sz) := by
  refine sy_metI (by decide) rfl (Nat.le_of_ble_eq_true rfl) ?_
  intro p e s m args below meth c C ls hl hh
  have hx := C.1.1
  have hb := C.1.2.1
  have hl : lv_has ls 4 [(0, .ref (Y.2.1 0)), (1, .int a1), (2, .int a2)] := hl
  unfold wX11_box at hq
  refine lv_aload_n hx hb dX11_box_0 rfl (lv_at hl 0 rfl) ?_
  refine sy_get C hh (fun w h => mc (uX_fX11 w h)) 0 (by decide) (oX_0 Y) rfl 3 (by decide) (index := 31) (mc uX_492) (v := .ref (Y.2.1 9)) rfl dX11_box_1 ?_
  refine sy_get C hh (fun w h => mc (uX_fX2 w h)) 9 (by decide) (oX_9 Y) rfl 0 (by decide) (index := 86) (mc uX_520) (v := .int (M 9 0)) rfl dX11_box_4 ?_
  refine lv_if_eq (tgt := 21) hx hb dX11_box_7 (by decide) (fun c1 => ?_) (fun c1 => ?_)
  · have hq := hq.1 c1
    refine lv_iconst (v := (-1 : Int32)) hx hb dX11_box_21 (by decide) ?_
    exact sy_iret C hh dX11_box_22 hq
  · have hq := hq.2 c1
    refine lv_aload_n hx hb dX11_box_10 rfl (lv_at hl 0 rfl) ?_
    obtain ⟨t2, et2, ht2, hq⟩ := hq
    refine sy_get C hh (fun w h => mc (uX_fX11 w h)) 0 (by decide) (oX_0 Y) rfl 6 (by decide) (index := 49) (mc uX_498) (v := .ref (Y.2.1 t2)) (sy_rf_of et2 (by have := iX10_lt ht2; omega)) dX11_box_11 ?_
    refine lv_iload_n hx hb dX11_box_14 rfl (lv_at hl 1 rfl) ?_
    refine sy_cIV C hh (As := [.int a1]) (rest := []) t2 (iX10_N ht2) (oX10 ht2) rfl (mX10_has l Y _ M t2 ht2 a1 _ hq) (cwV 1 C.1.2.2.2.2 (sy_goodV uX_good uX_557 uX_18 uX_19 uX_20 uX_11 _) rfl rfl rfl hdX10_has ⟨Nat.le_of_ble_eq_true rfl, Nat.le_of_ble_eq_true rfl⟩) rfl hl.1 rfl (Nat.le_of_ble_eq_true rfl) dX11_box_15 (fun r4 M3 H locs hq hh => ?_)
    refine lv_if_ne (tgt := 23) hx hb dX11_box_18 (by decide) (fun c5 => ?_) (fun c5 => ?_)
    · have hq := hq.1 c5
      refine lv_aload_n hx hb dX11_box_23 rfl (lv_at hl 0 rfl) ?_
      refine sy_get C hh (fun w h => mc (uX_fX11 w h)) 0 (by decide) (oX_0 Y) rfl 3 (by decide) (index := 31) (mc uX_492) (v := .ref (Y.2.1 9)) rfl dX11_box_24 ?_
      refine lv_iload_n hx hb dX11_box_27 rfl (lv_at hl 1 rfl) ?_
      refine sy_cIV C hh (As := [.int a1]) (rest := []) 9 (by decide) (oX_9 Y) rfl (mX2_latestCell l Y _ M3 a1 _ hq) (cwV 1 C.1.2.2.2.2 (sy_goodV uX_good uX_558 uX_118 uX_119 uX_114 uX_110 _) rfl rfl rfl hdX2_latestCell ⟨Nat.le_of_ble_eq_true rfl, Nat.le_of_ble_eq_true rfl⟩) rfl hl.1 rfl (Nat.le_of_ble_eq_true rfl) dX11_box_28 (fun r7 M6 H locs hq hh => ?_)
      refine lv_istore_n (lv' := [(3, .int r7), (0, .ref (Y.2.1 0)), (1, .int a1), (2, .int a2)]) hx hb dX11_box_31 rfl hl (by decide) rfl (fun ls hl => ?_)
      refine lv_iload_n hx hb dX11_box_32 rfl (lv_at hl 3 rfl) ?_
      refine lv_iconst (v := (nI 4)) hx hb dX11_box_33 (by decide) ?_
      refine lv_icmp_ne (tgt := 50) hx hb dX11_box_34 (by decide) (fun c8 => ?_) (fun c8 => ?_)
      · have hq := hq.1 c8
        refine lv_aload_n hx hb dX11_box_50 rfl (lv_at hl 1 rfl) ?_
        refine sy_get C hh (fun w h => mc (uX_fX11 w h)) 0 (by decide) (oX_0 Y) rfl 3 (by decide) (index := 31) (mc uX_492) (v := .ref (Y.2.1 9)) rfl dX11_box_51 ?_
        refine sy_get C hh (fun w h => mc (uX_fX2 w h)) 9 (by decide) (oX_9 Y) rfl 3 (by decide) (index := 147) (mc uX_554) (v := .ref (Y.2.1 17)) rfl dX11_box_54 ?_
        refine lv_iload_n hx hb dX11_box_57 rfl (lv_at hl 0 rfl) ?_
        obtain ⟨n9, hn9, en9, hq⟩ := hq
        refine sy_zald C hh 17 (by decide) (aX_17 Y) tX_17 hn9 en9 (by decide) dX11_box_58 ?_
        refine lv_if_ne (tgt := 64) hx hb dX11_box_59 (by decide) (fun c10 => ?_) (fun c10 => ?_)
        · have hq := hq.1 c10
          refine lv_iload_n hx hb dX11_box_64 rfl (lv_at hl 3 rfl) ?_
          refine lv_bipush (v := (nI 6)) hx hb dX11_box_65 (by decide) ?_
          refine lv_icmp_eq (tgt := 76) hx hb dX11_box_67 (by decide) (fun c11 => ?_) (fun c11 => ?_)
          · have hq := hq.1 c11
            refine kX11_box_76 C  M6 a1 a2 _ _ _ hq hh (lv_sub hl [1, 2, 3] rfl)
          · have hq := hq.2 c11
            refine lv_iload_n hx hb dX11_box_70 rfl (lv_at hl 3 rfl) ?_
            refine lv_bipush (v := (nI 7)) hx hb dX11_box_71 (by decide) ?_
            refine lv_icmp_ne (tgt := 117) hx hb dX11_box_73 (by decide) (fun c19 => ?_) (fun c19 => ?_)
            · have hq := hq.1 c19
              refine lv_aload_n hx hb dX11_box_117 rfl (lv_at hl 1 rfl) ?_
              refine sy_get C hh (fun w h => mc (uX_fX11 w h)) 0 (by decide) (oX_0 Y) rfl 3 (by decide) (index := 31) (mc uX_492) (v := .ref (Y.2.1 9)) rfl dX11_box_118 ?_
              refine sy_get C hh (fun w h => mc (uX_fX2 w h)) 9 (by decide) (oX_9 Y) rfl 2 (by decide) (index := 141) (mc uX_552) (v := .ref (Y.2.1 11)) rfl dX11_box_121 ?_
              refine lv_iload_n hx hb dX11_box_124 rfl (lv_at hl 0 rfl) ?_
              refine lv_iload_n hx hb dX11_box_125 rfl (lv_at hl 3 rfl) ?_
              refine sy_cIV C hh (As := [.int r7, .int a2]) (rest := []) 11 (by decide) (oX_11 Y) rfl (mX7_tell l Y _ M6 11 iX7_11 r7 a2 _ hq) (cwV 2 C.1.2.2.2.2 (sy_goodV uX_good uX_559 uX_560 uX_561 uX_37 uX_477 _) rfl rfl rfl hdX7_tell ⟨Nat.le_of_ble_eq_true rfl, Nat.le_of_ble_eq_true rfl⟩) rfl hl.1 rfl (Nat.le_of_ble_eq_true rfl) dX11_box_126 (fun r21 M20 H locs hq hh => ?_)
              exact sy_iret C hh dX11_box_129 hq
            · have hq := hq.2 c19
              refine kX11_box_76 C  M6 a1 a2 _ _ _ hq hh (lv_sub hl [1, 2, 3] rfl)
        · have hq := hq.2 c10
          refine lv_iconst (v := (-1 : Int32)) hx hb dX11_box_62 (by decide) ?_
          exact sy_iret C hh dX11_box_63 hq
      · have hq := hq.2 c8
        refine lv_aload_n hx hb dX11_box_37 rfl (lv_at hl 1 rfl) ?_
        refine sy_get C hh (fun w h => mc (uX_fX11 w h)) 0 (by decide) (oX_0 Y) rfl 3 (by decide) (index := 31) (mc uX_492) (v := .ref (Y.2.1 9)) rfl dX11_box_38 ?_
        refine sy_get C hh (fun w h => mc (uX_fX2 w h)) 9 (by decide) (oX_9 Y) rfl 2 (by decide) (index := 141) (mc uX_552) (v := .ref (Y.2.1 11)) rfl dX11_box_41 ?_
        refine sy_get C hh (fun w h => mc (uX_fX7 w h)) 11 (by decide) (oX_11 Y) rfl 4 (by decide) (index := 144) (mc uX_553) (v := .ref (Y.2.1 16)) rfl dX11_box_44 ?_
        refine lv_iload_n hx hb dX11_box_47 rfl (lv_at hl 0 rfl) ?_
        obtain ⟨n22, hn22, en22, hq⟩ := hq
        refine sy_iald C hh 16 (by decide) (aX_16 Y) tX_16 hn22 en22 (by decide) dX11_box_48 ?_
        exact sy_iret C hh dX11_box_49 hq
    · have hq := hq.2 c5
      refine lv_iconst (v := (-1 : Int32)) hx hb dX11_box_21 (by decide) ?_
      exact sy_iret C hh dX11_box_22 hq

