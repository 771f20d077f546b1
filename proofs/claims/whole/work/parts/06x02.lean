/-! AreaSetter$Reader.takeSign(CI)I -/
def wX6_takeSign (M : sy_M) (a1 : Int32) (a2 : Int32) (Q : Int32 → sy_M → Prop) : Prop := (((M 3 5) = a1 → Q (0 : Int32) (mu M 3 3 a2)) ∧ (¬ (M 3 5) = a1 → Q (1 : Int32) M))
section
variable {p : Program} {l : Launch} {e : Env} {s : State} {m : MethodId} {args : Array Value} {below : List Frame} {meth : Method} {c : Code} {Y : sy_Y}
end
set_option maxHeartbeats 4000000 in
set_option maxRecDepth 100000 in
theorem mX6_takeSign (l : Launch) (Y : sy_Y) (sz : Nat) (M : sy_M) (a1 : Int32) (a2 : Int32) (Q : Int32 → sy_M → Prop) (hq : wX6_takeSign M a1 a2 Q) : Met l yX6_takeSign vsX6_takeSign ({ frames := 0, cells := 0, slots := 0, locals := 0 } : Room) (va_Pc [.ref (Y.2.1 3), .int a1, .int a2] (sy_pre Y NX EX tfX sz M)) (sy_QI Y NX EX sz Q) 0 0 (sy_A NX Y.2.1 sz) := by
  refine sy_metI (by decide) rfl (Nat.le_of_ble_eq_true rfl) ?_
  intro p e s m args below meth c C ls hl hh
  have hx := C.1.1
  have hb := C.1.2.1
  have hl : lv_has ls 3 [(0, .ref (Y.2.1 3)), (1, .int a1), (2, .int a2)] := hl
  unfold wX6_takeSign at hq
  refine lv_aload_n hx hb dX6_takeSign_0 rfl (lv_at hl 0 rfl) ?_
  refine sy_get C hh (fun w h => mc (uX_fX6 w h)) 3 (by decide) (oX_3 Y) rfl 5 (by decide) (index := 54) (mc uX_345) (v := .int (M 3 5)) rfl dX6_takeSign_1 ?_
  refine lv_iload_n hx hb dX6_takeSign_4 rfl (lv_at hl 1 rfl) ?_
  refine lv_icmp_eq (tgt := 10) hx hb dX6_takeSign_5 (by decide) (fun c1 => ?_) (fun c1 => ?_)
  · have hq := hq.1 c1
    refine lv_aload_n hx hb dX6_takeSign_10 rfl (lv_at hl 0 rfl) ?_
    refine lv_iload_n hx hb dX6_takeSign_11 rfl (lv_at hl 2 rfl) ?_
    refine sy_put C hh (fun w h => mc (uX_fX6 w h)) tyX6 tyX6_ok nmX6 3 (by decide) (oX_3 Y) rfl 3 (by decide) (index := 35) (mc uX_428) rfl 3 a2 (ty := .int) (tyX6_ok 3 (by decide)) rfl rfl (Nat.le_of_ble_eq_true rfl) (pX6_3 Y _ _ _) dX6_takeSign_12 (fun H locs hh => ?_)
    refine lv_iconst (v := (0 : Int32)) hx hb dX6_takeSign_15 (by decide) ?_
    exact sy_iret C hh dX6_takeSign_16 hq
  · have hq := hq.2 c1
    refine lv_iconst (v := (1 : Int32)) hx hb dX6_takeSign_8 (by decide) ?_
    exact sy_iret C hh dX6_takeSign_9 hq

/-! AreaSetter$Reader.takeSorted()I -/
def wX6_takeSorted (M : sy_M)  (Q : Int32 → sy_M → Prop) : Prop := ∃ t1 : Nat, (M 3 2) = nI t1 ∧ iX10 t1 ∧ wX10_has M t1 (M 3 4) (fun r3 M2 => ((r3 = 0 → Q (0 : Int32) (mu M2 3 3 (nI 3))) ∧ (¬ r3 = 0 → ∃ t5 : Nat, (M2 3 2) = nI t5 ∧ iX10 t5 ∧ ∃ n6 : Nat, n6 < 40 ∧ (M2 3 4) = nI n6 ∧ Q (0 : Int32) (mu (mu M2 (t5 + 7) n6 (vp_nar .boolean (1 : Int32))) 3 3 (nI 3)))))
section
variable {p : Program} {l : Launch} {e : Env} {s : State} {m : MethodId} {args : Array Value} {below : List Frame} {meth : Method} {c : Code} {Y : sy_Y}
end
set_option maxHeartbeats 4000000 in
set_option maxRecDepth 100000 in
theorem mX6_takeSorted (l : Launch) (Y : sy_Y) (sz : Nat) (M : sy_M) (Q : Int32 → sy_M → Prop) (hq : wX6_takeSorted M  Q) : Met l yX6_takeSorted vsX6_takeSorted ({ frames := 1, cells := 0, slots := 0, locals := 21 } : Room) (va_Pc [.ref (Y.2.1 3)] (sy_pre Y NX EX tfX sz M)) (sy_QI Y NX EX sz Q) 0 0 (sy_A NX Y.2.1 sz) := by
  refine sy_metI (by decide) rfl (Nat.le_of_ble_eq_true rfl) ?_
  intro p e s m args below meth c C ls hl hh
  have hx := C.1.1
  have hb := C.1.2.1
  have hl : lv_has ls 1 [(0, .ref (Y.2.1 3))] := hl
  unfold wX6_takeSorted at hq
  refine lv_aload_n hx hb dX6_takeSorted_0 rfl (lv_at hl 0 rfl) ?_
  obtain ⟨t1, et1, ht1, hq⟩ := hq
  refine sy_get C hh (fun w h => mc (uX_fX6 w h)) 3 (by decide) (oX_3 Y) rfl 1 (by decide) (index := 21) (mc uX_333) (v := .ref (Y.2.1 t1)) (sy_rf_of et1 (by have := iX10_lt ht1; omega)) dX6_takeSorted_1 ?_
  refine lv_aload_n hx hb dX6_takeSorted_4 rfl (lv_at hl 0 rfl) ?_
  refine sy_get C hh (fun w h => mc (uX_fX6 w h)) 3 (by decide) (oX_3 Y) rfl 4 (by decide) (index := 38) (mc uX_426) (v := .int (M 3 4)) rfl dX6_takeSorted_5 ?_
  refine sy_cIV C hh (As := [.int (M 3 4)]) (rest := []) t1 (iX10_N ht1) (oX10 ht1) rfl (mX10_has l Y _ M t1 ht1 (M 3 4) _ hq) (cwV 1 C.1.2.2.2.2 (sy_goodV uX_good uX_432 uX_18 uX_19 uX_20 uX_11 _) rfl rfl rfl hdX10_has ⟨Nat.le_of_ble_eq_true rfl, Nat.le_of_ble_eq_true rfl⟩) rfl hl.1 rfl (Nat.le_of_ble_eq_true rfl) dX6_takeSorted_8 (fun r3 M2 H locs hq hh => ?_)
  refine lv_if_eq (tgt := 27) hx hb dX6_takeSorted_11 (by decide) (fun c4 => ?_) (fun c4 => ?_)
  · have hq := hq.1 c4
    refine lv_aload_n hx hb dX6_takeSorted_27 rfl (lv_at hl 0 rfl) ?_
    refine lv_iconst (v := (nI 3)) hx hb dX6_takeSorted_28 (by decide) ?_
    refine sy_put C hh (fun w h => mc (uX_fX6 w h)) tyX6 tyX6_ok nmX6 3 (by decide) (oX_3 Y) rfl 3 (by decide) (index := 35) (mc uX_428) rfl 3 (nI 3) (ty := .int) (tyX6_ok 3 (by decide)) rfl rfl (Nat.le_of_ble_eq_true rfl) (pX6_3 Y _ _ _) dX6_takeSorted_29 (fun H locs hh => ?_)
    refine lv_iconst (v := (0 : Int32)) hx hb dX6_takeSorted_32 (by decide) ?_
    exact sy_iret C hh dX6_takeSorted_33 hq
  · have hq := hq.2 c4
    refine lv_aload_n hx hb dX6_takeSorted_14 rfl (lv_at hl 0 rfl) ?_
    obtain ⟨t5, et5, ht5, hq⟩ := hq
    refine sy_get C hh (fun w h => mc (uX_fX6 w h)) 3 (by decide) (oX_3 Y) rfl 1 (by decide) (index := 21) (mc uX_333) (v := .ref (Y.2.1 t5)) (sy_rf_of et5 (by have := iX10_lt ht5; omega)) dX6_takeSorted_15 ?_
    refine sy_get C hh (fun w h => mc (uX_fX10 w h)) t5 (iX10_N ht5) (oX10 ht5) rfl 8 (by decide) (index := 123) (mc uX_447) (v := .ref (Y.2.1 (t5 + 7))) rfl dX6_takeSorted_18 ?_
    refine lv_aload_n hx hb dX6_takeSorted_21 rfl (lv_at hl 0 rfl) ?_
    refine sy_get C hh (fun w h => mc (uX_fX6 w h)) 3 (by decide) (oX_3 Y) rfl 4 (by decide) (index := 38) (mc uX_426) (v := .int (M2 3 4)) rfl dX6_takeSorted_22 ?_
    refine lv_iconst (v := (1 : Int32)) hx hb dX6_takeSorted_25 (by decide) ?_
    obtain ⟨n6, hn6, en6, hq⟩ := hq
    refine sy_zast C hh (t5 + 7) (iX10_N7 ht5) (aX10_7 ht5) (tX10_7 ht5) hn6 en6 (by decide) dX6_takeSorted_26 (fun H locs hh => ?_)
    refine lv_aload_n hx hb dX6_takeSorted_27 rfl (lv_at hl 0 rfl) ?_
    refine lv_iconst (v := (nI 3)) hx hb dX6_takeSorted_28 (by decide) ?_
    refine sy_put C hh (fun w h => mc (uX_fX6 w h)) tyX6 tyX6_ok nmX6 3 (by decide) (oX_3 Y) rfl 3 (by decide) (index := 35) (mc uX_428) rfl 3 (nI 3) (ty := .int) (tyX6_ok 3 (by decide)) rfl rfl (Nat.le_of_ble_eq_true rfl) (pX6_3 Y _ _ _) dX6_takeSorted_29 (fun H locs hh => ?_)
    refine lv_iconst (v := (0 : Int32)) hx hb dX6_takeSorted_32 (by decide) ?_
    exact sy_iret C hh dX6_takeSorted_33 hq

/-! AreaSetter$Reader.take()I -/
def wX6_take_69 (Q : Int32 → sy_M → Prop) (M : sy_M) : Prop := wX6_takeHow M (fun r7 M6 => Q r7 M6)
def wX6_take (M : sy_M)  (Q : Int32 → sy_M → Prop) : Prop := (((M 3 3) = (0 : Int32) → wX6_takeName M (fun r3 M2 => Q r3 M2)) ∧ (¬ (M 3 3) = (0 : Int32) → (((M 3 3) = (1 : Int32) → ((¬ (M 3 5) = (nI 48) → wX6_take_69  Q M) ∧ ((M 3 5) = (nI 48) → (((M 3 4) = (-1 : Int32) → wX6_take_69  Q M) ∧ (¬ (M 3 4) = (-1 : Int32) → wX6_takeNumber M (fun r10 M9 => Q r10 M9)))))) ∧ (¬ (M 3 3) = (1 : Int32) → (((M 3 3) = (nI 2) → wX6_isWord M 0 (fun r13 M12 => ((r13 = 0 → wX6_takeSign M12 (nI 40) (0 : Int32) (fun r16 M15 => Q r16 M15)) ∧ (¬ r13 = 0 → wX6_takeSorted M12 (fun r18 M17 => Q r18 M17))))) ∧ (¬ (M 3 3) = (nI 2) → (((M 3 3) = (nI 3) → wX6_takeSign M (nI 40) (0 : Int32) (fun r21 M20 => Q r21 M20)) ∧ (¬ (M 3 3) = (nI 3) → (((M 3 3) = (nI 4) → ((¬ (M 3 5) = (nI 41) → wX6_takeSign M (nI 44) (0 : Int32) (fun r25 M24 => Q r25 M24)) ∧ ((M 3 5) = (nI 41) → wX6_takeClosing M (fun r27 M26 => Q r27 M26)))) ∧ (¬ (M 3 3) = (nI 4) → ((¬ (M 3 5) = (-1 : Int32) → Q (1 : Int32) M) ∧ ((M 3 5) = (-1 : Int32) → Q (0 : Int32) M))))))))))))
section
variable {p : Program} {l : Launch} {e : Env} {s : State} {m : MethodId} {args : Array Value} {below : List Frame} {meth : Method} {c : Code} {Y : sy_Y}
set_option maxHeartbeats 4000000 in
set_option maxRecDepth 100000 in
theorem kX6_take_69 (C : sy_C p m c cX6_take 1 s args vsX6_take RX6 meth (some .int) Y NX tfX) {Q : Int32 → sy_M → Prop} :
    ∀ (M : sy_M) (H : Heap) (locs : List Loc) (ls : Array Slot), wX6_take_69 Q M → sy_H Y NX EX s H locs M → lv_has ls 1 [(0, .ref (Y.2.1 3))] → W p l e ({ frames := 10, cells := 0, slots := 0, locals := 287 } : Room) s m args below meth c H locs 0 0 (sy_ZI below args s Y NX EX Q) (F0 m 69 ls []) := by
  have hx := C.1.1
  have hb := C.1.2.1
  intro M H locs ls hq hh hl
  unfold wX6_take_69 at hq
  refine lv_aload_n hx hb dX6_take_69 rfl (lv_at hl 0 rfl) ?_
  refine sy_cIV C hh (As := []) (rest := []) 3 (by decide) (oX_3 Y) rfl (mX6_takeHow l Y _ M  _ hq) (cwV 0 C.1.2.2.2.2 (sy_goodV uX_good uX_457 uX_458 uX_459 uX_351 uX_445 _) rfl rfl rfl hdX6_takeHow ⟨Nat.le_of_ble_eq_true rfl, Nat.le_of_ble_eq_true rfl⟩) rfl hl.1 rfl (Nat.le_of_ble_eq_true rfl) dX6_take_70 (fun r7 M6 H locs hq hh => ?_)
  exact sy_iret C hh dX6_take_73 hq

end
set_option maxHeartbeats 4000000 in
set_option maxRecDepth 100000 in
theorem mX6_take (l : Launch) (Y : sy_Y) (sz : Nat) (M : sy_M) (Q : Int32 → sy_M → Prop) (hq : wX6_take M  Q) : Met l yX6_take vsX6_take ({ frames := 10, cells := 0, slots := 0, locals := 287 } : Room) (va_Pc [.ref (Y.2.1 3)] (sy_pre Y NX EX tfX sz M)) (sy_QI Y NX EX sz Q) 0 0 (sy_A NX Y.2.1 sz) := by
  refine sy_metI (by decide) rfl (Nat.le_of_ble_eq_true rfl) ?_
  intro p e s m args below meth c C ls hl hh
  have hx := C.1.1
  have hb := C.1.2.1
  have hl : lv_has ls 1 [(0, .ref (Y.2.1 3))] := hl
  unfold wX6_take at hq
  refine lv_aload_n hx hb dX6_take_0 rfl (lv_at hl 0 rfl) ?_
  refine sy_get C hh (fun w h => mc (uX_fX6 w h)) 3 (by decide) (oX_3 Y) rfl 3 (by decide) (index := 35) (mc uX_428) (v := .int (M 3 3)) rfl dX6_take_1 ?_
  by_cases c1 : (M 3 3) = (0 : Int32)
  · have hq := hq.1 c1
    refine lv_tableIn (tgt := 40) (off := 36) hx hb dX6_take_4 (by rw [c1]; decide) (by rw [c1]; decide) (by rw [c1]; rfl) (by decide) ?_
    refine lv_aload_n hx hb dX6_take_40 rfl (lv_at hl 0 rfl) ?_
    refine sy_cIV C hh (As := []) (rest := []) 3 (by decide) (oX_3 Y) rfl (mX6_takeName l Y _ M  _ hq) (cwV 0 C.1.2.2.2.2 (sy_goodV uX_good uX_451 uX_452 uX_453 uX_351 uX_439 _) rfl rfl rfl hdX6_takeName ⟨Nat.le_of_ble_eq_true rfl, Nat.le_of_ble_eq_true rfl⟩) rfl hl.1 rfl (Nat.le_of_ble_eq_true rfl) dX6_take_41 (fun r3 M2 H locs hq hh => ?_)
    exact sy_iret C hh dX6_take_44 hq
  · have hq := hq.2 c1
    by_cases c4 : (M 3 3) = (1 : Int32)
    · have hq := hq.1 c4
      refine lv_tableIn (tgt := 45) (off := 41) hx hb dX6_take_4 (by rw [c4]; decide) (by rw [c4]; decide) (by rw [c4]; rfl) (by decide) ?_
      refine lv_aload_n hx hb dX6_take_45 rfl (lv_at hl 0 rfl) ?_
      refine sy_get C hh (fun w h => mc (uX_fX6 w h)) 3 (by decide) (oX_3 Y) rfl 5 (by decide) (index := 54) (mc uX_345) (v := .int (M 3 5)) rfl dX6_take_46 ?_
      refine lv_bipush (v := (nI 48)) hx hb dX6_take_49 (by decide) ?_
      refine lv_icmp_ne (tgt := 69) hx hb dX6_take_51 (by decide) (fun c5 => ?_) (fun c5 => ?_)
      · have hq := hq.1 c5
        refine kX6_take_69 C  M  _ _ _ hq hh (lv_sub hl [0] rfl)
      · have hq := hq.2 c5
        refine lv_aload_n hx hb dX6_take_54 rfl (lv_at hl 0 rfl) ?_
        refine sy_get C hh (fun w h => mc (uX_fX6 w h)) 3 (by decide) (oX_3 Y) rfl 4 (by decide) (index := 38) (mc uX_426) (v := .int (M 3 4)) rfl dX6_take_55 ?_
        refine lv_iconst (v := (-1 : Int32)) hx hb dX6_take_58 (by decide) ?_
        refine lv_icmp_eq (tgt := 69) hx hb dX6_take_59 (by decide) (fun c8 => ?_) (fun c8 => ?_)
        · have hq := hq.1 c8
          refine kX6_take_69 C  M  _ _ _ hq hh (lv_sub hl [0] rfl)
        · have hq := hq.2 c8
          refine lv_aload_n hx hb dX6_take_62 rfl (lv_at hl 0 rfl) ?_
          refine sy_cIV C hh (As := []) (rest := []) 3 (by decide) (oX_3 Y) rfl (mX6_takeNumber l Y _ M  _ hq) (cwV 0 C.1.2.2.2.2 (sy_goodV uX_good uX_454 uX_455 uX_456 uX_351 uX_440 _) rfl rfl rfl hdX6_takeNumber ⟨Nat.le_of_ble_eq_true rfl, Nat.le_of_ble_eq_true rfl⟩) rfl hl.1 rfl (Nat.le_of_ble_eq_true rfl) dX6_take_63 (fun r10 M9 H locs hq hh => ?_)
          refine lv_goto (tgt := 73) hx hb dX6_take_66 (by decide) ?_
          exact sy_iret C hh dX6_take_73 hq
    · have hq := hq.2 c4
      by_cases c11 : (M 3 3) = (nI 2)
      · have hq := hq.1 c11
        refine lv_tableIn (tgt := 74) (off := 70) hx hb dX6_take_4 (by rw [c11]; decide) (by rw [c11]; decide) (by rw [c11]; rfl) (by decide) ?_
        refine lv_aload_n hx hb dX6_take_74 rfl (lv_at hl 0 rfl) ?_
        refine va_ldcS hx hb C.1.2.2.2.1 (C.2.1.2.2.1.2.1 ("AreaSetter$Reader", 80, 0) (by decide +kernel)) dX6_take_75 ?_
        refine sy_cIV C hh (As := [.ref (Y.2.2.2.1 0)]) (rest := []) 3 (by decide) (oX_3 Y) rfl (mX6_isWord l Y _ M 0 (by decide) _ hq) (cwV 1 C.1.2.2.2.2 (sy_goodV uX_good uX_409 uX_410 uX_411 uX_351 uX_408 _) rfl rfl rfl hdX6_isWord ⟨Nat.le_of_ble_eq_true rfl, Nat.le_of_ble_eq_true rfl⟩) rfl hl.1 rfl (Nat.le_of_ble_eq_true rfl) dX6_take_77 (fun r13 M12 H locs hq hh => ?_)
        refine lv_if_eq (tgt := 90) hx hb dX6_take_80 (by decide) (fun c14 => ?_) (fun c14 => ?_)
        · have hq := hq.1 c14
          refine lv_aload_n hx hb dX6_take_90 rfl (lv_at hl 0 rfl) ?_
          refine lv_bipush (v := (nI 40)) hx hb dX6_take_91 (by decide) ?_
          refine lv_iconst (v := (0 : Int32)) hx hb dX6_take_93 (by decide) ?_
          refine sy_cIV C hh (As := [.int (nI 40), .int (0 : Int32)]) (rest := []) 3 (by decide) (oX_3 Y) rfl (mX6_takeSign l Y _ M12 (nI 40) (0 : Int32) _ hq) (cwV 2 C.1.2.2.2.2 (sy_goodV uX_good uX_463 uX_464 uX_465 uX_351 uX_448 _) rfl rfl rfl hdX6_takeSign ⟨Nat.le_of_ble_eq_true rfl, Nat.le_of_ble_eq_true rfl⟩) rfl hl.1 rfl (Nat.le_of_ble_eq_true rfl) dX6_take_94 (fun r16 M15 H locs hq hh => ?_)
          exact sy_iret C hh dX6_take_97 hq
        · have hq := hq.2 c14
          refine lv_aload_n hx hb dX6_take_83 rfl (lv_at hl 0 rfl) ?_
          refine sy_cIV C hh (As := []) (rest := []) 3 (by decide) (oX_3 Y) rfl (mX6_takeSorted l Y _ M12  _ hq) (cwV 0 C.1.2.2.2.2 (sy_goodV uX_good uX_460 uX_461 uX_462 uX_351 uX_446 _) rfl rfl rfl hdX6_takeSorted ⟨Nat.le_of_ble_eq_true rfl, Nat.le_of_ble_eq_true rfl⟩) rfl hl.1 rfl (Nat.le_of_ble_eq_true rfl) dX6_take_84 (fun r18 M17 H locs hq hh => ?_)
          refine lv_goto (tgt := 97) hx hb dX6_take_87 (by decide) ?_
          exact sy_iret C hh dX6_take_97 hq
      · have hq := hq.2 c11
        by_cases c19 : (M 3 3) = (nI 3)
        · have hq := hq.1 c19
          refine lv_tableIn (tgt := 98) (off := 94) hx hb dX6_take_4 (by rw [c19]; decide) (by rw [c19]; decide) (by rw [c19]; rfl) (by decide) ?_
          refine lv_aload_n hx hb dX6_take_98 rfl (lv_at hl 0 rfl) ?_
          refine lv_bipush (v := (nI 40)) hx hb dX6_take_99 (by decide) ?_
          refine lv_iconst (v := (0 : Int32)) hx hb dX6_take_101 (by decide) ?_
          refine sy_cIV C hh (As := [.int (nI 40), .int (0 : Int32)]) (rest := []) 3 (by decide) (oX_3 Y) rfl (mX6_takeSign l Y _ M (nI 40) (0 : Int32) _ hq) (cwV 2 C.1.2.2.2.2 (sy_goodV uX_good uX_463 uX_464 uX_465 uX_351 uX_448 _) rfl rfl rfl hdX6_takeSign ⟨Nat.le_of_ble_eq_true rfl, Nat.le_of_ble_eq_true rfl⟩) rfl hl.1 rfl (Nat.le_of_ble_eq_true rfl) dX6_take_102 (fun r21 M20 H locs hq hh => ?_)
          exact sy_iret C hh dX6_take_105 hq
        · have hq := hq.2 c19
          by_cases c22 : (M 3 3) = (nI 4)
          · have hq := hq.1 c22
            refine lv_tableIn (tgt := 106) (off := 102) hx hb dX6_take_4 (by rw [c22]; decide) (by rw [c22]; decide) (by rw [c22]; rfl) (by decide) ?_
            refine lv_aload_n hx hb dX6_take_106 rfl (lv_at hl 0 rfl) ?_
            refine sy_get C hh (fun w h => mc (uX_fX6 w h)) 3 (by decide) (oX_3 Y) rfl 5 (by decide) (index := 54) (mc uX_345) (v := .int (M 3 5)) rfl dX6_take_107 ?_
            refine lv_bipush (v := (nI 41)) hx hb dX6_take_110 (by decide) ?_
            refine lv_icmp_ne (tgt := 122) hx hb dX6_take_112 (by decide) (fun c23 => ?_) (fun c23 => ?_)
            · have hq := hq.1 c23
              refine lv_aload_n hx hb dX6_take_122 rfl (lv_at hl 0 rfl) ?_
              refine lv_bipush (v := (nI 44)) hx hb dX6_take_123 (by decide) ?_
              refine lv_iconst (v := (0 : Int32)) hx hb dX6_take_125 (by decide) ?_
              refine sy_cIV C hh (As := [.int (nI 44), .int (0 : Int32)]) (rest := []) 3 (by decide) (oX_3 Y) rfl (mX6_takeSign l Y _ M (nI 44) (0 : Int32) _ hq) (cwV 2 C.1.2.2.2.2 (sy_goodV uX_good uX_463 uX_464 uX_465 uX_351 uX_448 _) rfl rfl rfl hdX6_takeSign ⟨Nat.le_of_ble_eq_true rfl, Nat.le_of_ble_eq_true rfl⟩) rfl hl.1 rfl (Nat.le_of_ble_eq_true rfl) dX6_take_126 (fun r25 M24 H locs hq hh => ?_)
              exact sy_iret C hh dX6_take_129 hq
            · have hq := hq.2 c23
              refine lv_aload_n hx hb dX6_take_115 rfl (lv_at hl 0 rfl) ?_
              refine sy_cIV C hh (As := []) (rest := []) 3 (by decide) (oX_3 Y) rfl (mX6_takeClosing l Y _ M  _ hq) (cwV 0 C.1.2.2.2.2 (sy_goodV uX_good uX_466 uX_467 uX_468 uX_351 uX_449 _) rfl rfl rfl hdX6_takeClosing ⟨Nat.le_of_ble_eq_true rfl, Nat.le_of_ble_eq_true rfl⟩) rfl hl.1 rfl (Nat.le_of_ble_eq_true rfl) dX6_take_116 (fun r27 M26 H locs hq hh => ?_)
              refine lv_goto (tgt := 129) hx hb dX6_take_119 (by decide) ?_
              exact sy_iret C hh dX6_take_129 hq
          · have hq := hq.2 c22
            refine lv_tableOut (tgt := 130) hx hb dX6_take_4 (by have := lv_neT c1 (a := 0) (by decide); have := lv_neT c4 (a := 1) (by decide); have := lv_neT c11 (a := 2) (by decide); have := lv_neT c19 (a := 3) (by decide); have := lv_neT c22 (a := 4) (by decide); omega) (by decide) ?_
            refine lv_aload_n hx hb dX6_take_130 rfl (lv_at hl 0 rfl) ?_
            refine sy_get C hh (fun w h => mc (uX_fX6 w h)) 3 (by decide) (oX_3 Y) rfl 5 (by decide) (index := 54) (mc uX_345) (v := .int (M 3 5)) rfl dX6_take_131 ?_
            refine lv_iconst (v := (-1 : Int32)) hx hb dX6_take_134 (by decide) ?_
            refine lv_icmp_ne (tgt := 142) hx hb dX6_take_135 (by decide) (fun c28 => ?_) (fun c28 => ?_)
            · have hq := hq.1 c28
              refine lv_iconst (v := (1 : Int32)) hx hb dX6_take_142 (by decide) ?_
              exact sy_iret C hh dX6_take_143 hq
            · have hq := hq.2 c28
              refine lv_iconst (v := (0 : Int32)) hx hb dX6_take_138 (by decide) ?_
              refine lv_goto (tgt := 143) hx hb dX6_take_139 (by decide) ?_
              exact sy_iret C hh dX6_take_143 hq

/-! AreaSetter$Reader.read()I -/
def wX6_read_38 (Q : Int32 → sy_M → Prop) : Nat → sy_M → Int32 → Prop
  | 0, _, _ => False
  | n + 1, M, x1 => (((nI 1000) < x1 → Q (0 : Int32) M) ∧ (¬ (nI 1000) < x1 → wX6_nextToken M (fun M4 => wX6_take M4 (fun r6 M5 => ((r6 = 0 → ((¬ (M5 3 5) = (-1 : Int32) → wX6_read_38 Q n M5 (x1 + (1 : Int32))) ∧ ((M5 3 5) = (-1 : Int32) → Q (0 : Int32) M5))) ∧ (¬ r6 = 0 → Q r6 (mu M5 3 0 (M5 3 6))))))))
def wX6_read (M : sy_M)  (Q : Int32 → sy_M → Prop) : Prop := ∃ t1 : Nat, (M 3 2) = nI t1 ∧ iX10 t1 ∧ ∃ t2 : Nat, ((mu M t1 0 (0 : Int32)) 3 2) = nI t2 ∧ iX10 t2 ∧ ∃ n9 : Nat, wX6_read_38  Q n9 (mu (mu (mu (mu (mu (mu M t1 0 (0 : Int32)) t2 1 (0 : Int32)) 3 3 (0 : Int32)) 3 4 (-1 : Int32)) 3 7 (0 : Int32)) 3 0 (-1 : Int32)) (0 : Int32)
section
variable {p : Program} {l : Launch} {e : Env} {s : State} {m : MethodId} {args : Array Value} {below : List Frame} {meth : Method} {c : Code} {Y : sy_Y}
set_option maxHeartbeats 4000000 in
set_option maxRecDepth 100000 in
theorem kX6_read_38 (C : sy_C p m c cX6_read 3 s args vsX6_read RX6 meth (some .int) Y NX tfX) {Q : Int32 → sy_M → Prop} :
    ∀ (n : Nat) (M : sy_M) (x1 : Int32) (H : Heap) (locs : List Loc) (ls : Array Slot), wX6_read_38 Q n M x1 → sy_H Y NX EX s H locs M → lv_has ls 3 [(0, .ref (Y.2.1 3)), (1, .int x1)] → W p l e ({ frames := 11, cells := 0, slots := 0, locals := 307 } : Room) s m args below meth c H locs 0 0 (sy_ZI below args s Y NX EX Q) (F0 m 38 ls []) := by
  have hx := C.1.1
  have hb := C.1.2.1
  intro n
  induction n with
  | zero =>
    intro M x1 H locs ls hq hh hl
    unfold wX6_read_38 at hq
    exact hq.elim
  | succ n ih =>
    intro M x1 H locs ls hq hh hl
    unfold wX6_read_38 at hq
    refine lv_iload_n hx hb dX6_read_38 rfl (lv_at hl 1 rfl) ?_
    refine lv_sipush (v := (nI 1000)) hx hb dX6_read_39 (by decide) ?_
    refine lv_icmp_gt (tgt := 84) hx hb dX6_read_42 (by decide) (fun c3 => ?_) (fun c3 => ?_)
    · have hq := hq.1 c3
      refine lv_iconst (v := (0 : Int32)) hx hb dX6_read_84 (by decide) ?_
      exact sy_iret C hh dX6_read_85 hq
    · have hq := hq.2 c3
      refine lv_aload_n hx hb dX6_read_45 rfl (lv_at hl 0 rfl) ?_
      refine sy_cVV C hh (As := []) (rest := []) 3 (by decide) (oX_3 Y) rfl (mX6_nextToken l Y _ M  _ hq) (cwV 0 C.1.2.2.2.2 (sy_goodV uX_good uX_470 uX_471 uX_472 uX_351 uX_341 _) rfl rfl rfl hdX6_nextToken ⟨Nat.le_of_ble_eq_true rfl, Nat.le_of_ble_eq_true rfl⟩) rfl hl.1 rfl (Nat.le_of_ble_eq_true rfl) dX6_read_46 (fun M4 H locs hq hh => ?_)
      refine lv_aload_n hx hb dX6_read_49 rfl (lv_at hl 0 rfl) ?_
      refine sy_cIV C hh (As := []) (rest := []) 3 (by decide) (oX_3 Y) rfl (mX6_take l Y _ M4  _ hq) (cwV 0 C.1.2.2.2.2 (sy_goodV uX_good uX_473 uX_474 uX_475 uX_351 uX_469 _) rfl rfl rfl hdX6_take ⟨Nat.le_of_ble_eq_true rfl, Nat.le_of_ble_eq_true rfl⟩) rfl hl.1 rfl (Nat.le_of_ble_eq_true rfl) dX6_read_50 (fun r6 M5 H locs hq hh => ?_)
      refine lv_istore_n (lv' := [(2, .int r6), (0, .ref (Y.2.1 3)), (1, .int x1)]) hx hb dX6_read_53 rfl hl (by decide) rfl (fun ls hl => ?_)
      refine lv_iload_n hx hb dX6_read_54 rfl (lv_at hl 0 rfl) ?_
      refine lv_if_eq (tgt := 68) hx hb dX6_read_55 (by decide) (fun c7 => ?_) (fun c7 => ?_)
      · have hq := hq.1 c7
        refine lv_aload_n hx hb dX6_read_68 rfl (lv_at hl 1 rfl) ?_
        refine sy_get C hh (fun w h => mc (uX_fX6 w h)) 3 (by decide) (oX_3 Y) rfl 5 (by decide) (index := 54) (mc uX_345) (v := .int (M5 3 5)) rfl dX6_read_69 ?_
        refine lv_iconst (v := (-1 : Int32)) hx hb dX6_read_72 (by decide) ?_
        refine lv_icmp_ne (tgt := 78) hx hb dX6_read_73 (by decide) (fun c8 => ?_) (fun c8 => ?_)
        · have hq := hq.1 c8
          refine lv_iinc (v := (x1 + (1 : Int32))) (lv' := [(1, .int (x1 + (1 : Int32))), (2, .int r6), (0, .ref (Y.2.1 3))]) hx hb dX6_read_78 hl (k := 2) rfl (sy_inc (by decide)) (by decide) rfl (fun ls hl => ?_)
          refine lv_goto (tgt := 38) hx hb dX6_read_81 (by decide) ?_
          exact ih M5 (x1 + (1 : Int32)) _ _ _ hq hh (lv_sub hl [2, 0] rfl)
        · have hq := hq.2 c8
          refine lv_iconst (v := (0 : Int32)) hx hb dX6_read_76 (by decide) ?_
          exact sy_iret C hh dX6_read_77 hq
      · have hq := hq.2 c7
        refine lv_aload_n hx hb dX6_read_58 rfl (lv_at hl 1 rfl) ?_
        refine lv_aload_n hx hb dX6_read_59 rfl (lv_at hl 1 rfl) ?_
        refine sy_get C hh (fun w h => mc (uX_fX6 w h)) 3 (by decide) (oX_3 Y) rfl 6 (by decide) (index := 51) (mc uX_343) (v := .int (M5 3 6)) rfl dX6_read_60 ?_
        refine sy_put C hh (fun w h => mc (uX_fX6 w h)) tyX6 tyX6_ok nmX6 3 (by decide) (oX_3 Y) rfl 2 (by decide) (index := 25) (mc uX_334) rfl 0 (M5 3 6) (ty := .int) (tyX6_ok 2 (by decide)) rfl rfl (Nat.le_of_ble_eq_true rfl) (pX6_2 Y _ _ _) dX6_read_63 (fun H locs hh => ?_)
        refine lv_iload_n hx hb dX6_read_66 rfl (lv_at hl 0 rfl) ?_
        exact sy_iret C hh dX6_read_67 hq

end
set_option maxHeartbeats 4000000 in
set_option maxRecDepth 100000 in
theorem mX6_read (l : Launch) (Y : sy_Y) (sz : Nat) (M : sy_M) (Q : Int32 → sy_M → Prop) (hq : wX6_read M  Q) : Met l yX6_read vsX6_read ({ frames := 11, cells := 0, slots := 0, locals := 307 } : Room) (va_Pc [.ref (Y.2.1 3)] (sy_pre Y NX EX tfX sz M)) (sy_QI Y NX EX sz Q) 0 0 (sy_A NX Y.2.1 sz) := by
  refine sy_metI (by decide) rfl (Nat.le_of_ble_eq_true rfl) ?_
  intro p e s m args below meth c C ls hl hh
  have hx := C.1.1
  have hb := C.1.2.1
  have hl : lv_has ls 3 [(0, .ref (Y.2.1 3))] := hl
  unfold wX6_read at hq
  refine lv_aload_n hx hb dX6_read_0 rfl (lv_at hl 0 rfl) ?_
  obtain ⟨t1, et1, ht1, hq⟩ := hq
  refine sy_get C hh (fun w h => mc (uX_fX6 w h)) 3 (by decide) (oX_3 Y) rfl 1 (by decide) (index := 21) (mc uX_333) (v := .ref (Y.2.1 t1)) (sy_rf_of et1 (by have := iX10_lt ht1; omega)) dX6_read_1 ?_
  refine lv_iconst (v := (0 : Int32)) hx hb dX6_read_4 (by decide) ?_
  refine sy_put C hh (fun w h => mc (uX_fX10 w h)) tyX10 tyX10_ok nmX10 t1 (iX10_N ht1) (oX10 ht1) rfl 0 (by decide) (index := 29) (mc uX_425) rfl 0 (0 : Int32) (ty := .int) (tyX10_ok 0 (by decide)) rfl rfl (Nat.le_of_ble_eq_true rfl) (pX10_0 Y _ _ _) dX6_read_5 (fun H locs hh => ?_)
  refine lv_aload_n hx hb dX6_read_8 rfl (lv_at hl 0 rfl) ?_
  obtain ⟨t2, et2, ht2, hq⟩ := hq
  refine sy_get C hh (fun w h => mc (uX_fX6 w h)) 3 (by decide) (oX_3 Y) rfl 1 (by decide) (index := 21) (mc uX_333) (v := .ref (Y.2.1 t2)) (sy_rf_of et2 (by have := iX10_lt ht2; omega)) dX6_read_9 ?_
  refine lv_iconst (v := (0 : Int32)) hx hb dX6_read_12 (by decide) ?_
  refine sy_put C hh (fun w h => mc (uX_fX10 w h)) tyX10 tyX10_ok nmX10 t2 (iX10_N ht2) (oX10 ht2) rfl 1 (by decide) (index := 32) (mc uX_444) rfl 1 (0 : Int32) (ty := .int) (tyX10_ok 1 (by decide)) rfl rfl (Nat.le_of_ble_eq_true rfl) (pX10_1 Y _ _ _) dX6_read_13 (fun H locs hh => ?_)
  refine lv_aload_n hx hb dX6_read_16 rfl (lv_at hl 0 rfl) ?_
  refine lv_iconst (v := (0 : Int32)) hx hb dX6_read_17 (by decide) ?_
  refine sy_put C hh (fun w h => mc (uX_fX6 w h)) tyX6 tyX6_ok nmX6 3 (by decide) (oX_3 Y) rfl 3 (by decide) (index := 35) (mc uX_428) rfl 3 (0 : Int32) (ty := .int) (tyX6_ok 3 (by decide)) rfl rfl (Nat.le_of_ble_eq_true rfl) (pX6_3 Y _ _ _) dX6_read_18 (fun H locs hh => ?_)
  refine lv_aload_n hx hb dX6_read_21 rfl (lv_at hl 0 rfl) ?_
  refine lv_iconst (v := (-1 : Int32)) hx hb dX6_read_22 (by decide) ?_
  refine sy_put C hh (fun w h => mc (uX_fX6 w h)) tyX6 tyX6_ok nmX6 3 (by decide) (oX_3 Y) rfl 4 (by decide) (index := 38) (mc uX_426) rfl 4 (-1 : Int32) (ty := .int) (tyX6_ok 4 (by decide)) rfl rfl (Nat.le_of_ble_eq_true rfl) (pX6_4 Y _ _ _) dX6_read_23 (fun H locs hh => ?_)
  refine lv_aload_n hx hb dX6_read_26 rfl (lv_at hl 0 rfl) ?_
  refine lv_iconst (v := (0 : Int32)) hx hb dX6_read_27 (by decide) ?_
  refine sy_put C hh (fun w h => mc (uX_fX6 w h)) tyX6 tyX6_ok nmX6 3 (by decide) (oX_3 Y) rfl 7 (by decide) (index := 41) (mc uX_342) rfl 7 (0 : Int32) (ty := .int) (tyX6_ok 7 (by decide)) rfl rfl (Nat.le_of_ble_eq_true rfl) (pX6_7 Y _ _ _) dX6_read_28 (fun H locs hh => ?_)
  refine lv_aload_n hx hb dX6_read_31 rfl (lv_at hl 0 rfl) ?_
  refine lv_iconst (v := (-1 : Int32)) hx hb dX6_read_32 (by decide) ?_
  refine sy_put C hh (fun w h => mc (uX_fX6 w h)) tyX6 tyX6_ok nmX6 3 (by decide) (oX_3 Y) rfl 2 (by decide) (index := 25) (mc uX_334) rfl 0 (-1 : Int32) (ty := .int) (tyX6_ok 2 (by decide)) rfl rfl (Nat.le_of_ble_eq_true rfl) (pX6_2 Y _ _ _) dX6_read_33 (fun H locs hh => ?_)
  refine lv_iconst (v := (0 : Int32)) hx hb dX6_read_36 (by decide) ?_
  refine lv_istore_n (lv' := [(1, .int (0 : Int32)), (0, .ref (Y.2.1 3))]) hx hb dX6_read_37 rfl hl (by decide) rfl (fun ls hl => ?_)
  obtain ⟨n9, hq⟩ := hq
  refine kX6_read_38 C  n9 (mu (mu (mu (mu (mu (mu M t1 0 (0 : Int32)) t2 1 (0 : Int32)) 3 3 (0 : Int32)) 3 4 (-1 : Int32)) 3 7 (0 : Int32)) 3 0 (-1 : Int32)) (0 : Int32) _ _ _ hq hh (lv_sub hl [1, 0] rfl)

/-! AreaSetter.tree()I -/
def wX11_tree (M : sy_M)  (Q : Int32 → sy_M → Prop) : Prop := wX6_read M (fun r2 M1 => ((r2 = 0 → ∃ t4 : Nat, (M1 0 6) = nI t4 ∧ iX10 t4 ∧ ∃ t5 : Nat, (M1 3 2) = nI t5 ∧ iX10 t5 ∧ ∃ t6 : Nat, (nI t5) = nI t6 ∧ iX10 t6 ∧ Q ((mu (mu (mu (mu (mu M1 1 0 (0 : Int32)) 0 6 (nI t5)) 3 2 (nI t4)) 4 0 (0 : Int32)) 9 0 (0 : Int32)) t6 0) (mu (mu (mu (mu (mu M1 1 0 (0 : Int32)) 0 6 (nI t5)) 3 2 (nI t4)) 4 0 (0 : Int32)) 9 0 (0 : Int32))) ∧ (¬ r2 = 0 → Q ((-r2) - (nI 2)) (mu M1 1 0 (0 : Int32)))))
section
variable {p : Program} {l : Launch} {e : Env} {s : State} {m : MethodId} {args : Array Value} {below : List Frame} {meth : Method} {c : Code} {Y : sy_Y}
end
set_option maxHeartbeats 4000000 in
set_option maxRecDepth 100000 in
theorem mX11_tree (l : Launch) (Y : sy_Y) (sz : Nat) (M : sy_M) (Q : Int32 → sy_M → Prop) (hq : wX11_tree M  Q) : Met l yX11_tree vsX11_tree ({ frames := 12, cells := 0, slots := 0, locals := 329 } : Room) (va_Pc [.ref (Y.2.1 0)] (sy_pre Y NX EX tfX sz M)) (sy_QI Y NX EX sz Q) 0 0 (sy_A NX Y.2.1 sz) := by
  refine sy_metI (by decide) rfl (Nat.le_of_ble_eq_true rfl) ?_
  intro p e s m args below meth c C ls hl hh
  have hx := C.1.1
  have hb := C.1.2.1
  have hl : lv_has ls 3 [(0, .ref (Y.2.1 0))] := hl
  unfold wX11_tree at hq
  refine lv_aload_n hx hb dX11_tree_0 rfl (lv_at hl 0 rfl) ?_
  refine sy_get C hh (fun w h => mc (uX_fX11 w h)) 0 (by decide) (oX_0 Y) rfl 0 (by decide) (index := 10) (mc uX_483) (v := .ref (Y.2.1 3)) rfl dX11_tree_1 ?_
  refine sy_cIV C hh (As := []) (rest := []) 3 (by decide) (oX_3 Y) rfl (mX6_read l Y _ M  _ hq) (cwV 0 C.1.2.2.2.2 (sy_goodV uX_good uX_522 uX_523 uX_524 uX_351 uX_476 _) rfl rfl rfl hdX6_read ⟨Nat.le_of_ble_eq_true rfl, Nat.le_of_ble_eq_true rfl⟩) rfl hl.1 rfl (Nat.le_of_ble_eq_true rfl) dX11_tree_4 (fun r2 M1 H locs hq hh => ?_)
  refine lv_istore_n (lv' := [(1, .int r2), (0, .ref (Y.2.1 0))]) hx hb dX11_tree_7 rfl hl (by decide) rfl (fun ls hl => ?_)
  refine lv_aload_n hx hb dX11_tree_8 rfl (lv_at hl 1 rfl) ?_
  refine sy_get C hh (fun w h => mc (uX_fX11 w h)) 0 (by decide) (oX_0 Y) rfl 1 (by decide) (index := 20) (mc uX_485) (v := .ref (Y.2.1 1)) rfl dX11_tree_9 ?_
  refine lv_iconst (v := (0 : Int32)) hx hb dX11_tree_12 (by decide) ?_
  refine sy_put C hh (fun w h => mc (uX_fX9 w h)) tyX9 tyX9_ok nmX9 1 (by decide) (oX_1 Y) rfl 0 (by decide) (index := 67) (mc uX_513) rfl 0 (0 : Int32) (ty := .int) (tyX9_ok 0 (by decide)) rfl rfl (Nat.le_of_ble_eq_true rfl) (pX9_0 Y _ _ _) dX11_tree_13 (fun H locs hh => ?_)
  refine lv_iload_n hx hb dX11_tree_16 rfl (lv_at hl 0 rfl) ?_
  refine lv_if_eq (tgt := 25) hx hb dX11_tree_17 (by decide) (fun c3 => ?_) (fun c3 => ?_)
  · have hq := hq.1 c3
    refine lv_aload_n hx hb dX11_tree_25 rfl (lv_at hl 1 rfl) ?_
    obtain ⟨t4, et4, ht4, hq⟩ := hq
    refine sy_get C hh (fun w h => mc (uX_fX11 w h)) 0 (by decide) (oX_0 Y) rfl 6 (by decide) (index := 49) (mc uX_498) (v := .ref (Y.2.1 t4)) (sy_rf_of et4 (by have := iX10_lt ht4; omega)) dX11_tree_26 ?_
    refine lv_astore_n (lv' := [(2, .ref (Y.2.1 t4)), (1, .int r2), (0, .ref (Y.2.1 0))]) hx hb dX11_tree_29 rfl hl (by decide) rfl (fun ls hl => ?_)
    refine lv_aload_n hx hb dX11_tree_30 rfl (lv_at hl 2 rfl) ?_
    refine lv_aload_n hx hb dX11_tree_31 rfl (lv_at hl 2 rfl) ?_
    refine sy_get C hh (fun w h => mc (uX_fX11 w h)) 0 (by decide) (oX_0 Y) rfl 0 (by decide) (index := 10) (mc uX_483) (v := .ref (Y.2.1 3)) rfl dX11_tree_32 ?_
    obtain ⟨t5, et5, ht5, hq⟩ := hq
    refine sy_get C hh (fun w h => mc (uX_fX6 w h)) 3 (by decide) (oX_3 Y) rfl 1 (by decide) (index := 80) (mc uX_518) (v := .ref (Y.2.1 t5)) (sy_rf_of et5 (by have := iX10_lt ht5; omega)) dX11_tree_35 ?_
    refine sy_put C hh (fun w h => mc (uX_fX11 w h)) tyX11 tyX11_ok nmX11 0 (by decide) (oX_0 Y) rfl 6 (by decide) (index := 49) (mc uX_498) rfl 6 (nI t5) (ty := .object "AreaSetter$Tree") (tyX11_ok 6 (by decide)) rfl rfl (Nat.le_of_ble_eq_true rfl) (pX11_6 Y _ _ (by have := iX10_lt ht5; omega)) dX11_tree_38 (fun H locs hh => ?_)
    refine lv_aload_n hx hb dX11_tree_41 rfl (lv_at hl 2 rfl) ?_
    refine sy_get C hh (fun w h => mc (uX_fX11 w h)) 0 (by decide) (oX_0 Y) rfl 0 (by decide) (index := 10) (mc uX_483) (v := .ref (Y.2.1 3)) rfl dX11_tree_42 ?_
    refine lv_aload_n hx hb dX11_tree_45 rfl (lv_at hl 0 rfl) ?_
    refine sy_put C hh (fun w h => mc (uX_fX6 w h)) tyX6 tyX6_ok nmX6 3 (by decide) (oX_3 Y) rfl 1 (by decide) (index := 80) (mc uX_518) rfl 2 (nI t4) (ty := .object "AreaSetter$Tree") (tyX6_ok 1 (by decide)) rfl rfl (Nat.le_of_ble_eq_true rfl) (pX6_1 Y _ _ (by have := iX10_lt ht4; omega)) dX11_tree_46 (fun H locs hh => ?_)
    refine lv_aload_n hx hb dX11_tree_49 rfl (lv_at hl 2 rfl) ?_
    refine sy_get C hh (fun w h => mc (uX_fX11 w h)) 0 (by decide) (oX_0 Y) rfl 2 (by decide) (index := 24) (mc uX_489) (v := .ref (Y.2.1 4)) rfl dX11_tree_50 ?_
    refine lv_iconst (v := (0 : Int32)) hx hb dX11_tree_53 (by decide) ?_
    refine sy_put C hh (fun w h => mc (uX_fX0 w h)) tyX0 tyX0_ok nmX0 4 (by decide) (oX_4 Y) rfl 0 (by decide) (index := 83) (mc uX_519) rfl 0 (0 : Int32) (ty := .int) (tyX0_ok 0 (by decide)) rfl rfl (Nat.le_of_ble_eq_true rfl) (pX0_0 Y _ _ _) dX11_tree_54 (fun H locs hh => ?_)
    refine lv_aload_n hx hb dX11_tree_57 rfl (lv_at hl 2 rfl) ?_
    refine sy_get C hh (fun w h => mc (uX_fX11 w h)) 0 (by decide) (oX_0 Y) rfl 3 (by decide) (index := 31) (mc uX_492) (v := .ref (Y.2.1 9)) rfl dX11_tree_58 ?_
    refine lv_iconst (v := (0 : Int32)) hx hb dX11_tree_61 (by decide) ?_
    refine sy_put C hh (fun w h => mc (uX_fX2 w h)) tyX2 tyX2_ok nmX2 9 (by decide) (oX_9 Y) rfl 0 (by decide) (index := 86) (mc uX_520) rfl 0 (0 : Int32) (ty := .int) (tyX2_ok 0 (by decide)) rfl rfl (Nat.le_of_ble_eq_true rfl) (pX2_0 Y _ _ _) dX11_tree_62 (fun H locs hh => ?_)
    refine lv_aload_n hx hb dX11_tree_65 rfl (lv_at hl 2 rfl) ?_
    obtain ⟨t6, et6, ht6, hq⟩ := hq
    refine sy_get C hh (fun w h => mc (uX_fX11 w h)) 0 (by decide) (oX_0 Y) rfl 6 (by decide) (index := 49) (mc uX_498) (v := .ref (Y.2.1 t6)) (sy_rf_of et6 (by have := iX10_lt ht6; omega)) dX11_tree_66 ?_
    refine sy_get C hh (fun w h => mc (uX_fX10 w h)) t6 (iX10_N ht6) (oX10 ht6) rfl 0 (by decide) (index := 89) (mc uX_521) (v := .int ((mu (mu (mu (mu (mu M1 1 0 (0 : Int32)) 0 6 (nI t5)) 3 2 (nI t4)) 4 0 (0 : Int32)) 9 0 (0 : Int32)) t6 0)) rfl dX11_tree_69 ?_
    exact sy_iret C hh dX11_tree_72 hq
  · have hq := hq.2 c3
    refine lv_iload_n hx hb dX11_tree_20 rfl (lv_at hl 0 rfl) ?_
    refine lv_ineg hx hb dX11_tree_21 ?_
    refine lv_iconst (v := (nI 2)) hx hb dX11_tree_22 (by decide) ?_
    refine lv_isub hx hb dX11_tree_23 ?_
    exact sy_iret C hh dX11_tree_24 hq

/-! AreaSetter.place()I -/
def wX11_place (M : sy_M)  (Q : Int32 → sy_M → Prop) : Prop := Q (M 3 0) M
section
variable {p : Program} {l : Launch} {e : Env} {s : State} {m : MethodId} {args : Array Value} {below : List Frame} {meth : Method} {c : Code} {Y : sy_Y}
end
set_option maxHeartbeats 4000000 in
set_option maxRecDepth 100000 in
theorem mX11_place (l : Launch) (Y : sy_Y) (sz : Nat) (M : sy_M) (Q : Int32 → sy_M → Prop) (hq : wX11_place M  Q) : Met l yX11_place vsX11_place ({ frames := 0, cells := 0, slots := 0, locals := 0 } : Room) (va_Pc [.ref (Y.2.1 0)] (sy_pre Y NX EX tfX sz M)) (sy_QI Y NX EX sz Q) 0 0 (sy_A NX Y.2.1 sz) := by
  refine sy_metI (by decide) rfl (Nat.le_of_ble_eq_true rfl) ?_
  intro p e s m args below meth c C ls hl hh
  have hx := C.1.1
  have hb := C.1.2.1
  have hl : lv_has ls 1 [(0, .ref (Y.2.1 0))] := hl
  unfold wX11_place at hq
  refine lv_aload_n hx hb dX11_place_0 rfl (lv_at hl 0 rfl) ?_
  refine sy_get C hh (fun w h => mc (uX_fX11 w h)) 0 (by decide) (oX_0 Y) rfl 0 (by decide) (index := 10) (mc uX_483) (v := .ref (Y.2.1 3)) rfl dX11_place_1 ?_
  refine sy_get C hh (fun w h => mc (uX_fX6 w h)) 3 (by decide) (oX_3 Y) rfl 2 (by decide) (index := 92) (mc uX_527) (v := .int (M 3 0)) rfl dX11_place_4 ?_
  exact sy_iret C hh dX11_place_7 hq

/-! AreaSetter$Changes.add(III)I -/
def wX0_add (M : sy_M) (a1 : Int32) (a2 : Int32) (a3 : Int32) (Q : Int32 → sy_M → Prop) : Prop := (((M 4 0) < (nI 100) → ∃ n2 : Nat, n2 < 100 ∧ (M 4 0) = nI n2 ∧ Q (((M 4 0) + (1 : Int32)) - (1 : Int32)) (mu (mu (mu (mu M 5 n2 a1) 6 n2 a2) 7 n2 a3) 4 0 ((M 4 0) + (1 : Int32)))) ∧ (¬ (M 4 0) < (nI 100) → Q (-1 : Int32) M))
section
variable {p : Program} {l : Launch} {e : Env} {s : State} {m : MethodId} {args : Array Value} {below : List Frame} {meth : Method} {c : Code} {Y : sy_Y}
end
set_option maxHeartbeats 4000000 in
set_option maxRecDepth 100000 in
theorem mX0_add (l : Launch) (Y : sy_Y) (sz : Nat) (M : sy_M) (a1 : Int32) (a2 : Int32) (a3 : Int32) (Q : Int32 → sy_M → Prop) (hq : wX0_add M a1 a2 a3 Q) : Met l yX0_add vsX0_add ({ frames := 0, cells := 0, slots := 0, locals := 0 } : Room) (va_Pc [.ref (Y.2.1 4), .int a1, .int a2, .int a3] (sy_pre Y NX EX tfX sz M)) (sy_QI Y NX EX sz Q) 0 0 (sy_A NX Y.2.1 sz) := by
  refine sy_metI (by decide) rfl (Nat.le_of_ble_eq_true rfl) ?_
  intro p e s m args below meth c C ls hl hh
  have hx := C.1.1
  have hb := C.1.2.1
  have hl : lv_has ls 4 [(0, .ref (Y.2.1 4)), (1, .int a1), (2, .int a2), (3, .int a3)] := hl
  unfold wX0_add at hq
  refine lv_aload_n hx hb dX0_add_0 rfl (lv_at hl 0 rfl) ?_
  refine sy_get C hh (fun w h => mc (uX_fX0 w h)) 4 (by decide) (oX_4 Y) rfl 0 (by decide) (index := 9) (mc uX_4) (v := .int (M 4 0)) rfl dX0_add_1 ?_
  refine lv_bipush (v := (nI 100)) hx hb dX0_add_4 (by decide) ?_
  refine lv_icmp_lt (tgt := 11) hx hb dX0_add_6 (by decide) (fun c1 => ?_) (fun c1 => ?_)
  · have hq := hq.1 c1
    refine lv_aload_n hx hb dX0_add_11 rfl (lv_at hl 0 rfl) ?_
    refine sy_get C hh (fun w h => mc (uX_fX0 w h)) 4 (by decide) (oX_4 Y) rfl 1 (by decide) (index := 15) (mc uX_6) (v := .ref (Y.2.1 5)) rfl dX0_add_12 ?_
    refine lv_aload_n hx hb dX0_add_15 rfl (lv_at hl 0 rfl) ?_
    refine sy_get C hh (fun w h => mc (uX_fX0 w h)) 4 (by decide) (oX_4 Y) rfl 0 (by decide) (index := 9) (mc uX_4) (v := .int (M 4 0)) rfl dX0_add_16 ?_
    refine lv_iload_n hx hb dX0_add_19 rfl (lv_at hl 1 rfl) ?_
    obtain ⟨n2, hn2, en2, hq⟩ := hq
    refine sy_iast C hh 5 (by decide) (aX_5 Y) tX_5 hn2 en2 (by decide) dX0_add_20 (fun H locs hh => ?_)
    refine lv_aload_n hx hb dX0_add_21 rfl (lv_at hl 0 rfl) ?_
    refine sy_get C hh (fun w h => mc (uX_fX0 w h)) 4 (by decide) (oX_4 Y) rfl 2 (by decide) (index := 19) (mc uX_7) (v := .ref (Y.2.1 6)) rfl dX0_add_22 ?_
    refine lv_aload_n hx hb dX0_add_25 rfl (lv_at hl 0 rfl) ?_
    refine sy_get C hh (fun w h => mc (uX_fX0 w h)) 4 (by decide) (oX_4 Y) rfl 0 (by decide) (index := 9) (mc uX_4) (v := .int (M 4 0)) rfl dX0_add_26 ?_
    refine lv_iload_n hx hb dX0_add_29 rfl (lv_at hl 2 rfl) ?_
    refine sy_iast C hh 6 (by decide) (aX_6 Y) tX_6 hn2 en2 (by decide) dX0_add_30 (fun H locs hh => ?_)
    refine lv_aload_n hx hb dX0_add_31 rfl (lv_at hl 0 rfl) ?_
    refine sy_get C hh (fun w h => mc (uX_fX0 w h)) 4 (by decide) (oX_4 Y) rfl 3 (by decide) (index := 22) (mc uX_8) (v := .ref (Y.2.1 7)) rfl dX0_add_32 ?_
    refine lv_aload_n hx hb dX0_add_35 rfl (lv_at hl 0 rfl) ?_
    refine sy_get C hh (fun w h => mc (uX_fX0 w h)) 4 (by decide) (oX_4 Y) rfl 0 (by decide) (index := 9) (mc uX_4) (v := .int (M 4 0)) rfl dX0_add_36 ?_
    refine lv_iload_n hx hb dX0_add_39 rfl (lv_at hl 3 rfl) ?_
    refine sy_iast C hh 7 (by decide) (aX_7 Y) tX_7 hn2 en2 (by decide) dX0_add_40 (fun H locs hh => ?_)
    refine lv_aload_n hx hb dX0_add_41 rfl (lv_at hl 0 rfl) ?_
    refine lv_dup hx hb dX0_add_42 rfl ?_
    refine sy_get C hh (fun w h => mc (uX_fX0 w h)) 4 (by decide) (oX_4 Y) rfl 0 (by decide) (index := 9) (mc uX_4) (v := .int (M 4 0)) rfl dX0_add_43 ?_
    refine lv_iconst (v := (1 : Int32)) hx hb dX0_add_46 (by decide) ?_
    refine lv_iadd hx hb dX0_add_47 ?_
    refine sy_put C hh (fun w h => mc (uX_fX0 w h)) tyX0 tyX0_ok nmX0 4 (by decide) (oX_4 Y) rfl 0 (by decide) (index := 9) (mc uX_4) rfl 0 ((M 4 0) + (1 : Int32)) (ty := .int) (tyX0_ok 0 (by decide)) rfl rfl (Nat.le_of_ble_eq_true rfl) (pX0_0 Y _ _ _) dX0_add_48 (fun H locs hh => ?_)
    refine lv_aload_n hx hb dX0_add_51 rfl (lv_at hl 0 rfl) ?_
    refine sy_get C hh (fun w h => mc (uX_fX0 w h)) 4 (by decide) (oX_4 Y) rfl 0 (by decide) (index := 9) (mc uX_4) (v := .int ((M 4 0) + (1 : Int32))) rfl dX0_add_52 ?_
    refine lv_iconst (v := (1 : Int32)) hx hb dX0_add_55 (by decide) ?_
    refine lv_isub hx hb dX0_add_56 ?_
    exact sy_iret C hh dX0_add_57 hq
  · have hq := hq.2 c1
    refine lv_iconst (v := (-1 : Int32)) hx hb dX0_add_9 (by decide) ?_
    exact sy_iret C hh dX0_add_10 hq

/-! AreaSetter$Tree.isLeaf(I)Z -/
def wX10_isLeaf (M : sy_M) (p0 : Nat) (a1 : Int32) (Q : Int32 → sy_M → Prop) : Prop := wX10_has M p0 a1 (fun r2 M1 => ((r2 = 0 → Q (0 : Int32) M1) ∧ (¬ r2 = 0 → ∃ n4 : Nat, n4 < 40 ∧ a1 = nI n4 ∧ ((¬ (M1 (p0 + 2) n4) = (-1 : Int32) → Q (0 : Int32) M1) ∧ ((M1 (p0 + 2) n4) = (-1 : Int32) → Q (1 : Int32) M1)))))
section
variable {p : Program} {l : Launch} {e : Env} {s : State} {m : MethodId} {args : Array Value} {below : List Frame} {meth : Method} {c : Code} {Y : sy_Y}
end
set_option maxHeartbeats 4000000 in
set_option maxRecDepth 100000 in
theorem mX10_isLeaf (l : Launch) (Y : sy_Y) (sz : Nat) (M : sy_M) (p0 : Nat) (hp0 : iX10 p0) (a1 : Int32) (Q : Int32 → sy_M → Prop) (hq : wX10_isLeaf M p0 a1 Q) : Met l yX10_isLeaf vsX10_isLeaf ({ frames := 1, cells := 0, slots := 0, locals := 21 } : Room) (va_Pc [.ref (Y.2.1 p0), .int a1] (sy_pre Y NX EX tfX sz M)) (sy_QI Y NX EX sz Q) 0 0 (sy_A NX Y.2.1 sz) := by
  refine sy_metI (by decide) rfl (Nat.le_of_ble_eq_true rfl) ?_
  intro p e s m args below meth c C ls hl hh
  have hx := C.1.1
  have hb := C.1.2.1
  have hl : lv_has ls 2 [(0, .ref (Y.2.1 p0)), (1, .int a1)] := hl
  unfold wX10_isLeaf at hq
  refine lv_aload_n hx hb dX10_isLeaf_0 rfl (lv_at hl 0 rfl) ?_
  refine lv_iload_n hx hb dX10_isLeaf_1 rfl (lv_at hl 1 rfl) ?_
  refine sy_cIV C hh (As := [.int a1]) (rest := []) p0 (iX10_N hp0) (oX10 hp0) rfl (mX10_has l Y _ M p0 hp0 a1 _ hq) (cwV 1 C.1.2.2.2.2 (sy_goodV uX_good uX_124 uX_18 uX_19 uX_20 uX_11 _) rfl rfl rfl hdX10_has ⟨Nat.le_of_ble_eq_true rfl, Nat.le_of_ble_eq_true rfl⟩) rfl hl.1 rfl (Nat.le_of_ble_eq_true rfl) dX10_isLeaf_2 (fun r2 M1 H locs hq hh => ?_)
  refine lv_if_eq (tgt := 22) hx hb dX10_isLeaf_5 (by decide) (fun c3 => ?_) (fun c3 => ?_)
  · have hq := hq.1 c3
    refine lv_iconst (v := (0 : Int32)) hx hb dX10_isLeaf_22 (by decide) ?_
    exact sy_zret C hh dX10_isLeaf_23 (by decide) hq
  · have hq := hq.2 c3
    refine lv_aload_n hx hb dX10_isLeaf_8 rfl (lv_at hl 0 rfl) ?_
    refine sy_get C hh (fun w h => mc (uX_fX10 w h)) p0 (iX10_N hp0) (oX10 hp0) rfl 3 (by decide) (index := 22) (mc uX_123) (v := .ref (Y.2.1 (p0 + 2))) rfl dX10_isLeaf_9 ?_
    refine lv_iload_n hx hb dX10_isLeaf_12 rfl (lv_at hl 1 rfl) ?_
    obtain ⟨n4, hn4, en4, hq⟩ := hq
    refine sy_iald C hh (p0 + 2) (iX10_N2 hp0) (aX10_2 hp0) (tX10_2 hp0) hn4 en4 (by decide) dX10_isLeaf_13 ?_
    refine lv_iconst (v := (-1 : Int32)) hx hb dX10_isLeaf_14 (by decide) ?_
    refine lv_icmp_ne (tgt := 22) hx hb dX10_isLeaf_15 (by decide) (fun c5 => ?_) (fun c5 => ?_)
    · have hq := hq.1 c5
      refine lv_iconst (v := (0 : Int32)) hx hb dX10_isLeaf_22 (by decide) ?_
      exact sy_zret C hh dX10_isLeaf_23 (by decide) hq
    · have hq := hq.2 c5
      refine lv_iconst (v := (1 : Int32)) hx hb dX10_isLeaf_18 (by decide) ?_
      refine lv_goto (tgt := 23) hx hb dX10_isLeaf_19 (by decide) ?_
      exact sy_zret C hh dX10_isLeaf_23 (by decide) hq

/-! AreaSetter.isTick(I)Z -/
def wX11_isTick (M : sy_M) (a1 : Int32) (Q : Int32 → sy_M → Prop) : Prop := wX11_isFrom M (0 : Int32) (nI 999) a1 (fun r2 M1 => (r2 = 0 ∨ r2 = 1) ∧ Q r2 M1)
section
variable {p : Program} {l : Launch} {e : Env} {s : State} {m : MethodId} {args : Array Value} {below : List Frame} {meth : Method} {c : Code} {Y : sy_Y}
end
set_option maxHeartbeats 4000000 in
set_option maxRecDepth 100000 in
theorem mX11_isTick (l : Launch) (Y : sy_Y) (sz : Nat) (M : sy_M) (a1 : Int32) (Q : Int32 → sy_M → Prop) (hq : wX11_isTick M a1 Q) : Met l yX11_isTick vsX11_isTick ({ frames := 1, cells := 0, slots := 0, locals := 22 } : Room) (va_Pc [.int a1] (sy_pre Y NX EX tfX sz M)) (sy_QI Y NX EX sz Q) 0 0 (sy_A NX Y.2.1 sz) := by
  refine sy_metI (by decide) rfl (Nat.le_of_ble_eq_true rfl) ?_
  intro p e s m args below meth c C ls hl hh
  have hx := C.1.1
  have hb := C.1.2.1
  have hl : lv_has ls 1 [(0, .int a1)] := hl
  unfold wX11_isTick at hq
  refine lv_iconst (v := (0 : Int32)) hx hb dX11_isTick_0 (by decide) ?_
  refine lv_sipush (v := (nI 999)) hx hb dX11_isTick_1 (by decide) ?_
  refine lv_iload_n hx hb dX11_isTick_4 rfl (lv_at hl 0 rfl) ?_
  refine sy_cIS C hh (As := [.int (0 : Int32), .int (nI 999), .int a1]) (rest := []) (mX11_isFrom l Y _ M (0 : Int32) (nI 999) a1 _ hq) (va_cwS 3 C.1.2.2.2.2 (sy_goodS uX_good uX_508 uX_509 uX_58 uX_506 _) rfl rfl rfl hdX11_isFrom.2 ⟨Nat.le_of_ble_eq_true rfl, Nat.le_of_ble_eq_true rfl⟩) rfl hl.1 rfl (Nat.le_of_ble_eq_true rfl) dX11_isTick_5 (fun r2 M1 H locs hq hh => ?_)
  exact sy_zret C hh dX11_isTick_8 hq.1 hq.2

/-! AreaSetter.size(III)I -/
def wX11_size (M : sy_M) (a1 : Int32) (a2 : Int32) (a3 : Int32) (Q : Int32 → sy_M → Prop) : Prop := ∃ t1 : Nat, (M 0 6) = nI t1 ∧ iX10 t1 ∧ wX10_isLeaf M t1 a1 (fun r3 M2 => ((r3 = 0 → Q (-1 : Int32) M2) ∧ (¬ r3 = 0 → wX11_isTick M2 a2 (fun r6 M5 => ((r6 = 0 → Q (-1 : Int32) M5) ∧ (¬ r6 = 0 → wX11_isFrom M5 (0 : Int32) (nI 999999) a3 (fun r9 M8 => ((¬ r9 = 0 → wX0_add M8 a1 a2 a3 (fun r12 M11 => Q r12 M11)) ∧ (r9 = 0 → Q (-1 : Int32) M8)))))))))
section
variable {p : Program} {l : Launch} {e : Env} {s : State} {m : MethodId} {args : Array Value} {below : List Frame} {meth : Method} {c : Code} {Y : sy_Y}
end
set_option maxHeartbeats 4000000 in
set_option maxRecDepth 100000 in
theorem mX11_size (l : Launch) (Y : sy_Y) (sz : Nat) (M : sy_M) (a1 : Int32) (a2 : Int32) (a3 : Int32) (Q : Int32 → sy_M → Prop) (hq : wX11_size M a1 a2 a3 Q) : Met l yX11_size vsX11_size ({ frames := 2, cells := 0, slots := 0, locals := 42 } : Room) (va_Pc [.ref (Y.2.1 0), .int a1, .int a2, .int a3] (sy_pre Y NX EX tfX sz M)) (sy_QI Y NX EX sz Q) 0 0 (sy_A NX Y.2.1 sz) := by
  refine sy_metI (by decide) rfl (Nat.le_of_ble_eq_true rfl) ?_
  intro p e s m args below meth c C ls hl hh
  have hx := C.1.1
  have hb := C.1.2.1
  have hl : lv_has ls 4 [(0, .ref (Y.2.1 0)), (1, .int a1), (2, .int a2), (3, .int a3)] := hl
  unfold wX11_size at hq
  refine lv_aload_n hx hb dX11_size_0 rfl (lv_at hl 0 rfl) ?_
  obtain ⟨t1, et1, ht1, hq⟩ := hq
  refine sy_get C hh (fun w h => mc (uX_fX11 w h)) 0 (by decide) (oX_0 Y) rfl 6 (by decide) (index := 49) (mc uX_498) (v := .ref (Y.2.1 t1)) (sy_rf_of et1 (by have := iX10_lt ht1; omega)) dX11_size_1 ?_
  refine lv_iload_n hx hb dX11_size_4 rfl (lv_at hl 1 rfl) ?_
  refine sy_cIV C hh (As := [.int a1]) (rest := []) t1 (iX10_N ht1) (oX10 ht1) rfl (mX10_isLeaf l Y _ M t1 ht1 a1 _ hq) (cwV 1 C.1.2.2.2.2 (sy_goodV uX_good uX_530 uX_150 uX_151 uX_20 uX_143 _) rfl rfl rfl hdX10_isLeaf ⟨Nat.le_of_ble_eq_true rfl, Nat.le_of_ble_eq_true rfl⟩) rfl hl.1 rfl (Nat.le_of_ble_eq_true rfl) dX11_size_5 (fun r3 M2 H locs hq hh => ?_)
  refine lv_if_eq (tgt := 28) hx hb dX11_size_8 (by decide) (fun c4 => ?_) (fun c4 => ?_)
  · have hq := hq.1 c4
    refine lv_iconst (v := (-1 : Int32)) hx hb dX11_size_28 (by decide) ?_
    exact sy_iret C hh dX11_size_29 hq
  · have hq := hq.2 c4
    refine lv_iload_n hx hb dX11_size_11 rfl (lv_at hl 2 rfl) ?_
    refine sy_cIS C hh (As := [.int a2]) (rest := []) (mX11_isTick l Y _ M2 a2 _ hq) (va_cwS 1 C.1.2.2.2.2 (sy_goodS uX_good uX_531 uX_532 uX_58 uX_528 _) rfl rfl rfl hdX11_isTick.2 ⟨Nat.le_of_ble_eq_true rfl, Nat.le_of_ble_eq_true rfl⟩) rfl hl.1 rfl (Nat.le_of_ble_eq_true rfl) dX11_size_12 (fun r6 M5 H locs hq hh => ?_)
    refine lv_if_eq (tgt := 28) hx hb dX11_size_15 (by decide) (fun c7 => ?_) (fun c7 => ?_)
    · have hq := hq.1 c7
      refine lv_iconst (v := (-1 : Int32)) hx hb dX11_size_28 (by decide) ?_
      exact sy_iret C hh dX11_size_29 hq
    · have hq := hq.2 c7
      refine lv_iconst (v := (0 : Int32)) hx hb dX11_size_18 (by decide) ?_
      refine lv_ldc (v := (nI 999999)) hx hb C.1.2.2.2.1 (C.1.2.2.2.2 (.constant RX11 102 (nI 999999)) (mc uX_529)) dX11_size_19 ?_
      refine lv_iload_n hx hb dX11_size_21 rfl (lv_at hl 3 rfl) ?_
      refine sy_cIS C hh (As := [.int (0 : Int32), .int (nI 999999), .int a3]) (rest := []) (mX11_isFrom l Y _ M5 (0 : Int32) (nI 999999) a3 _ hq) (va_cwS 3 C.1.2.2.2.2 (sy_goodS uX_good uX_508 uX_509 uX_58 uX_506 _) rfl rfl rfl hdX11_isFrom.2 ⟨Nat.le_of_ble_eq_true rfl, Nat.le_of_ble_eq_true rfl⟩) rfl hl.1 rfl (Nat.le_of_ble_eq_true rfl) dX11_size_22 (fun r9 M8 H locs hq hh => ?_)
      refine lv_if_ne (tgt := 30) hx hb dX11_size_25 (by decide) (fun c10 => ?_) (fun c10 => ?_)
      · have hq := hq.1 c10
        refine lv_aload_n hx hb dX11_size_30 rfl (lv_at hl 0 rfl) ?_
        refine sy_get C hh (fun w h => mc (uX_fX11 w h)) 0 (by decide) (oX_0 Y) rfl 2 (by decide) (index := 24) (mc uX_489) (v := .ref (Y.2.1 4)) rfl dX11_size_31 ?_
        refine lv_iload_n hx hb dX11_size_34 rfl (lv_at hl 1 rfl) ?_
        refine lv_iload_n hx hb dX11_size_35 rfl (lv_at hl 2 rfl) ?_
        refine lv_iload_n hx hb dX11_size_36 rfl (lv_at hl 3 rfl) ?_
        refine sy_cIV C hh (As := [.int a1, .int a2, .int a3]) (rest := []) 4 (by decide) (oX_4 Y) rfl (mX0_add l Y _ M8 a1 a2 a3 _ hq) (cwV 3 C.1.2.2.2.2 (sy_goodV uX_good uX_533 uX_534 uX_535 uX_488 uX_10 _) rfl rfl rfl hdX0_add ⟨Nat.le_of_ble_eq_true rfl, Nat.le_of_ble_eq_true rfl⟩) rfl hl.1 rfl (Nat.le_of_ble_eq_true rfl) dX11_size_37 (fun r12 M11 H locs hq hh => ?_)
        exact sy_iret C hh dX11_size_40 hq
      · have hq := hq.2 c10
        refine lv_iconst (v := (-1 : Int32)) hx hb dX11_size_28 (by decide) ?_
        exact sy_iret C hh dX11_size_29 hq

/-! AreaSetter$Tree.isGroup(I)Z -/
def wX10_isGroup (M : sy_M) (p0 : Nat) (a1 : Int32) (Q : Int32 → sy_M → Prop) : Prop := wX10_has M p0 a1 (fun r2 M1 => ((r2 = 0 → Q (0 : Int32) M1) ∧ (¬ r2 = 0 → ∃ n4 : Nat, n4 < 40 ∧ a1 = nI n4 ∧ (((M1 (p0 + 2) n4) = (-1 : Int32) → Q (0 : Int32) M1) ∧ (¬ (M1 (p0 + 2) n4) = (-1 : Int32) → Q (1 : Int32) M1)))))
section
variable {p : Program} {l : Launch} {e : Env} {s : State} {m : MethodId} {args : Array Value} {below : List Frame} {meth : Method} {c : Code} {Y : sy_Y}
end
set_option maxHeartbeats 4000000 in
set_option maxRecDepth 100000 in
theorem mX10_isGroup (l : Launch) (Y : sy_Y) (sz : Nat) (M : sy_M) (p0 : Nat) (hp0 : iX10 p0) (a1 : Int32) (Q : Int32 → sy_M → Prop) (hq : wX10_isGroup M p0 a1 Q) : Met l yX10_isGroup vsX10_isGroup ({ frames := 1, cells := 0, slots := 0, locals := 21 } : Room) (va_Pc [.ref (Y.2.1 p0), .int a1] (sy_pre Y NX EX tfX sz M)) (sy_QI Y NX EX sz Q) 0 0 (sy_A NX Y.2.1 sz) := by
  refine sy_metI (by decide) rfl (Nat.le_of_ble_eq_true rfl) ?_
  intro p e s m args below meth c C ls hl hh
  have hx := C.1.1
  have hb := C.1.2.1
  have hl : lv_has ls 2 [(0, .ref (Y.2.1 p0)), (1, .int a1)] := hl
  unfold wX10_isGroup at hq
  refine lv_aload_n hx hb dX10_isGroup_0 rfl (lv_at hl 0 rfl) ?_
  refine lv_iload_n hx hb dX10_isGroup_1 rfl (lv_at hl 1 rfl) ?_
  refine sy_cIV C hh (As := [.int a1]) (rest := []) p0 (iX10_N hp0) (oX10 hp0) rfl (mX10_has l Y _ M p0 hp0 a1 _ hq) (cwV 1 C.1.2.2.2.2 (sy_goodV uX_good uX_124 uX_18 uX_19 uX_20 uX_11 _) rfl rfl rfl hdX10_has ⟨Nat.le_of_ble_eq_true rfl, Nat.le_of_ble_eq_true rfl⟩) rfl hl.1 rfl (Nat.le_of_ble_eq_true rfl) dX10_isGroup_2 (fun r2 M1 H locs hq hh => ?_)
  refine lv_if_eq (tgt := 22) hx hb dX10_isGroup_5 (by decide) (fun c3 => ?_) (fun c3 => ?_)
  · have hq := hq.1 c3
    refine lv_iconst (v := (0 : Int32)) hx hb dX10_isGroup_22 (by decide) ?_
    exact sy_zret C hh dX10_isGroup_23 (by decide) hq
  · have hq := hq.2 c3
    refine lv_aload_n hx hb dX10_isGroup_8 rfl (lv_at hl 0 rfl) ?_
    refine sy_get C hh (fun w h => mc (uX_fX10 w h)) p0 (iX10_N hp0) (oX10 hp0) rfl 3 (by decide) (index := 22) (mc uX_123) (v := .ref (Y.2.1 (p0 + 2))) rfl dX10_isGroup_9 ?_
    refine lv_iload_n hx hb dX10_isGroup_12 rfl (lv_at hl 1 rfl) ?_
    obtain ⟨n4, hn4, en4, hq⟩ := hq
    refine sy_iald C hh (p0 + 2) (iX10_N2 hp0) (aX10_2 hp0) (tX10_2 hp0) hn4 en4 (by decide) dX10_isGroup_13 ?_
    refine lv_iconst (v := (-1 : Int32)) hx hb dX10_isGroup_14 (by decide) ?_
    refine lv_icmp_eq (tgt := 22) hx hb dX10_isGroup_15 (by decide) (fun c5 => ?_) (fun c5 => ?_)
    · have hq := hq.1 c5
      refine lv_iconst (v := (0 : Int32)) hx hb dX10_isGroup_22 (by decide) ?_
      exact sy_zret C hh dX10_isGroup_23 (by decide) hq
    · have hq := hq.2 c5
      refine lv_iconst (v := (1 : Int32)) hx hb dX10_isGroup_18 (by decide) ?_
      refine lv_goto (tgt := 23) hx hb dX10_isGroup_19 (by decide) ?_
      exact sy_zret C hh dX10_isGroup_23 (by decide) hq

/-! AreaSetter.rest(IIZ)Z -/
def wX11_rest (M : sy_M) (a1 : Int32) (a2 : Int32) (a3 : Int32) (Q : Int32 → sy_M → Prop) : Prop := ∃ t1 : Nat, (M 0 6) = nI t1 ∧ iX10 t1 ∧ wX10_isGroup M t1 a1 (fun r3 M2 => ((r3 = 0 → Q (0 : Int32) M2) ∧ (¬ r3 = 0 → wX11_isFrom M2 (0 : Int32) (nI 999) a2 (fun r6 M5 => ((¬ r6 = 0 → ∃ t8 : Nat, (M5 0 6) = nI t8 ∧ iX10 t8 ∧ ∃ n9 : Nat, n9 < 40 ∧ a1 = nI n9 ∧ ∃ t10 : Nat, ((mu M5 (t8 + 8) n9 a2) 0 6) = nI t10 ∧ iX10 t10 ∧ Q (1 : Int32) (mu (mu M5 (t8 + 8) n9 a2) (t10 + 9) n9 (vp_nar .boolean a3))) ∧ (r6 = 0 → Q (0 : Int32) M5))))))
section
variable {p : Program} {l : Launch} {e : Env} {s : State} {m : MethodId} {args : Array Value} {below : List Frame} {meth : Method} {c : Code} {Y : sy_Y}
end
set_option maxHeartbeats 4000000 in
set_option maxRecDepth 100000 in
theorem mX11_rest (l : Launch) (Y : sy_Y) (sz : Nat) (M : sy_M) (a1 : Int32) (a2 : Int32) (a3 : Int32) (Q : Int32 → sy_M → Prop) (hq : wX11_rest M a1 a2 a3 Q) : Met l yX11_rest vsX11_rest ({ frames := 2, cells := 0, slots := 0, locals := 42 } : Room) (va_Pc [.ref (Y.2.1 0), .int a1, .int a2, .int a3] (sy_pre Y NX EX tfX sz M)) (sy_QI Y NX EX sz Q) 0 0 (sy_A NX Y.2.1 sz) := by
  refine sy_metI (by decide) rfl (Nat.le_of_ble_eq_true rfl) ?_
  intro p e s m args below meth c C ls hl hh
  have hx := C.1.1
  have hb := C.1.2.1
  have hl : lv_has ls 4 [(0, .ref (Y.2.1 0)), (1, .int a1), (2, .int a2), (3, .int a3)] := hl
  unfold wX11_rest at hq
  refine lv_aload_n hx hb dX11_rest_0 rfl (lv_at hl 0 rfl) ?_
  obtain ⟨t1, et1, ht1, hq⟩ := hq
  refine sy_get C hh (fun w h => mc (uX_fX11 w h)) 0 (by decide) (oX_0 Y) rfl 6 (by decide) (index := 49) (mc uX_498) (v := .ref (Y.2.1 t1)) (sy_rf_of et1 (by have := iX10_lt ht1; omega)) dX11_rest_1 ?_
  refine lv_iload_n hx hb dX11_rest_4 rfl (lv_at hl 1 rfl) ?_
  refine sy_cIV C hh (As := [.int a1]) (rest := []) t1 (iX10_N ht1) (oX10 ht1) rfl (mX10_isGroup l Y _ M t1 ht1 a1 _ hq) (cwV 1 C.1.2.2.2.2 (sy_goodV uX_good uX_540 uX_127 uX_128 uX_20 uX_122 _) rfl rfl rfl hdX10_isGroup ⟨Nat.le_of_ble_eq_true rfl, Nat.le_of_ble_eq_true rfl⟩) rfl hl.1 rfl (Nat.le_of_ble_eq_true rfl) dX11_rest_5 (fun r3 M2 H locs hq hh => ?_)
  refine lv_if_eq (tgt := 22) hx hb dX11_rest_8 (by decide) (fun c4 => ?_) (fun c4 => ?_)
  · have hq := hq.1 c4
    refine lv_iconst (v := (0 : Int32)) hx hb dX11_rest_22 (by decide) ?_
    exact sy_zret C hh dX11_rest_23 (by decide) hq
  · have hq := hq.2 c4
    refine lv_iconst (v := (0 : Int32)) hx hb dX11_rest_11 (by decide) ?_
    refine lv_sipush (v := (nI 999)) hx hb dX11_rest_12 (by decide) ?_
    refine lv_iload_n hx hb dX11_rest_15 rfl (lv_at hl 2 rfl) ?_
    refine sy_cIS C hh (As := [.int (0 : Int32), .int (nI 999), .int a2]) (rest := []) (mX11_isFrom l Y _ M2 (0 : Int32) (nI 999) a2 _ hq) (va_cwS 3 C.1.2.2.2.2 (sy_goodS uX_good uX_508 uX_509 uX_58 uX_506 _) rfl rfl rfl hdX11_isFrom.2 ⟨Nat.le_of_ble_eq_true rfl, Nat.le_of_ble_eq_true rfl⟩) rfl hl.1 rfl (Nat.le_of_ble_eq_true rfl) dX11_rest_16 (fun r6 M5 H locs hq hh => ?_)
    refine lv_if_ne (tgt := 24) hx hb dX11_rest_19 (by decide) (fun c7 => ?_) (fun c7 => ?_)
    · have hq := hq.1 c7
      refine lv_aload_n hx hb dX11_rest_24 rfl (lv_at hl 0 rfl) ?_
      obtain ⟨t8, et8, ht8, hq⟩ := hq
      refine sy_get C hh (fun w h => mc (uX_fX11 w h)) 0 (by decide) (oX_0 Y) rfl 6 (by decide) (index := 49) (mc uX_498) (v := .ref (Y.2.1 t8)) (sy_rf_of et8 (by have := iX10_lt ht8; omega)) dX11_rest_25 ?_
      refine sy_get C hh (fun w h => mc (uX_fX10 w h)) t8 (iX10_N ht8) (oX10 ht8) rfl 9 (by decide) (index := 109) (mc uX_538) (v := .ref (Y.2.1 (t8 + 8))) rfl dX11_rest_28 ?_
      refine lv_iload_n hx hb dX11_rest_31 rfl (lv_at hl 1 rfl) ?_
      refine lv_iload_n hx hb dX11_rest_32 rfl (lv_at hl 2 rfl) ?_
      obtain ⟨n9, hn9, en9, hq⟩ := hq
      refine sy_iast C hh (t8 + 8) (iX10_N8 ht8) (aX10_8 ht8) (tX10_8 ht8) hn9 en9 (by decide) dX11_rest_33 (fun H locs hh => ?_)
      refine lv_aload_n hx hb dX11_rest_34 rfl (lv_at hl 0 rfl) ?_
      obtain ⟨t10, et10, ht10, hq⟩ := hq
      refine sy_get C hh (fun w h => mc (uX_fX11 w h)) 0 (by decide) (oX_0 Y) rfl 6 (by decide) (index := 49) (mc uX_498) (v := .ref (Y.2.1 t10)) (sy_rf_of et10 (by have := iX10_lt ht10; omega)) dX11_rest_35 ?_
      refine sy_get C hh (fun w h => mc (uX_fX10 w h)) t10 (iX10_N ht10) (oX10 ht10) rfl 10 (by decide) (index := 112) (mc uX_539) (v := .ref (Y.2.1 (t10 + 9))) rfl dX11_rest_38 ?_
      refine lv_iload_n hx hb dX11_rest_41 rfl (lv_at hl 1 rfl) ?_
      refine lv_iload_n hx hb dX11_rest_42 rfl (lv_at hl 3 rfl) ?_
      refine sy_zast C hh (t10 + 9) (iX10_N9 ht10) (aX10_9 ht10) (tX10_9 ht10) hn9 en9 (by decide) dX11_rest_43 (fun H locs hh => ?_)
      refine lv_iconst (v := (1 : Int32)) hx hb dX11_rest_44 (by decide) ?_
      exact sy_zret C hh dX11_rest_45 (by decide) hq
    · have hq := hq.2 c7
      refine lv_iconst (v := (0 : Int32)) hx hb dX11_rest_22 (by decide) ?_
      exact sy_zret C hh dX11_rest_23 (by decide) hq

/-! AreaSetter$Changes.tellSizes(LAreaSetter$Tree;I[I)V -/
def wX0_tellSizes_3 (K_37 : sy_M → Nat → Int32 → Prop) (Q : sy_M → Prop) : Nat → sy_M → Nat → Int32 → Int32 → Prop
  | 0, _, _, _, _ => False
  | n + 1, M, x1, x2, x4 => (((M x1 0) ≤ x4 → K_37 M x1 x2) ∧ (¬ (M x1 0) ≤ x4 → ∃ n2 : Nat, n2 < 40 ∧ x4 = nI n2 ∧ wX0_tellSizes_3 K_37 Q n (mu (mu M 59 n2 (M (x1 + 5) n2)) 8 n2 (-1 : Int32)) x1 x2 (x4 + (1 : Int32))))
def wX0_tellSizes_40 (K_126 : sy_M → Nat → Prop) (Q : sy_M → Prop) : Nat → sy_M → Nat → Int32 → Int32 → Prop
  | 0, _, _, _, _ => False
  | n + 1, M, x1, x2, x4 => (((M 4 0) ≤ x4 → K_126 M x1) ∧ (¬ (M 4 0) ≤ x4 → ∃ n7 : Nat, n7 < 100 ∧ x4 = nI n7 ∧ wX10_has M x1 (M 5 n7) (fun r9 M8 => ((r9 = 0 → wX0_tellSizes_40 K_126 Q n M8 x1 x2 (x4 + (1 : Int32))) ∧ (¬ r9 = 0 → ((x2 < (M8 6 n7) → wX0_tellSizes_40 K_126 Q n M8 x1 x2 (x4 + (1 : Int32))) ∧ (¬ x2 < (M8 6 n7) → ∃ n12 : Nat, n12 < 40 ∧ (M 5 n7) = nI n12 ∧ (((M8 6 n7) < (M8 8 n12) → wX0_tellSizes_40 K_126 Q n M8 x1 x2 (x4 + (1 : Int32))) ∧ (¬ (M8 6 n7) < (M8 8 n12) → wX0_tellSizes_40 K_126 Q n (mu (mu M8 59 n12 (M8 7 n7)) 8 n12 (M8 6 n7)) x1 x2 (x4 + (1 : Int32)))))))))))
def wX0_tellSizes_134 (Q : sy_M → Prop) : Nat → sy_M → Nat → Int32 → Prop
  | 0, _, _, _ => False
  | n + 1, M, x1, x4 => ((x4 ≤ 0 → Q M) ∧ (¬ x4 ≤ 0 → ∃ n17 : Nat, n17 < 40 ∧ x4 = nI n17 ∧ wX10_has M x1 (M (x1 + 1) n17) (fun r19 M18 => ((r19 = 0 → wX0_tellSizes_134 Q n M18 x1 (x4 + (-1 : Int32))) ∧ (¬ r19 = 0 → ∃ n21 : Nat, n21 < 40 ∧ (M18 (x1 + 1) n17) = nI n21 ∧ wX0_tellSizes_134 Q n (mu M18 59 n21 ((M18 59 n21) + (M18 59 n17))) x1 (x4 + (-1 : Int32)))))))
def wX0_tellSizes (M : sy_M) (p1 : Nat) (a2 : Int32) (Q : sy_M → Prop) : Prop := ∃ n24 : Nat, wX0_tellSizes_3 (fun (M3 : sy_M) (x1_4 : Nat) (x2_5 : Int32) => ∃ n23 : Nat, wX0_tellSizes_40 (fun (M14 : sy_M) (x1_15 : Nat) => ∃ n22 : Nat, wX0_tellSizes_134  Q n22 M14 x1_15 ((M14 x1_15 0) - (1 : Int32))) Q n23 M3 x1_4 x2_5 (0 : Int32)) Q n24 M p1 a2 (0 : Int32)
section
variable {p : Program} {l : Launch} {e : Env} {s : State} {m : MethodId} {args : Array Value} {below : List Frame} {meth : Method} {c : Code} {Y : sy_Y}
set_option maxHeartbeats 4000000 in
set_option maxRecDepth 100000 in
theorem kX0_tellSizes_3 (C : sy_C p m c cX0_tellSizes 6 s args vsX0_tellSizes RX0 meth none Y NX tfX) {Q : sy_M → Prop} {K_37 : sy_M → Nat → Int32 → Prop} (hK_37 : ∀ (M : sy_M) (x1 : Nat) (x2 : Int32) (hx1 : iX10 x1) (H : Heap) (locs : List Loc) (ls : Array Slot), K_37 M x1 x2 → sy_H Y NX EX s H locs M → lv_has ls 6 [(0, .ref (Y.2.1 4)), (1, .ref (Y.2.1 x1)), (2, .int x2), (3, .ref (Y.2.1 59))] → W p l e ({ frames := 1, cells := 0, slots := 0, locals := 21 } : Room) s m args below meth c H locs 0 0 (sy_ZV below args s Y NX EX Q) (F0 m 37 ls [])) :
    ∀ (n : Nat) (M : sy_M) (x1 : Nat) (x2 : Int32) (x4 : Int32) (hx1 : iX10 x1) (H : Heap) (locs : List Loc) (ls : Array Slot), wX0_tellSizes_3 K_37 Q n M x1 x2 x4 → sy_H Y NX EX s H locs M → lv_has ls 6 [(0, .ref (Y.2.1 4)), (1, .ref (Y.2.1 x1)), (2, .int x2), (3, .ref (Y.2.1 59)), (4, .int x4)] → W p l e ({ frames := 1, cells := 0, slots := 0, locals := 21 } : Room) s m args below meth c H locs 0 0 (sy_ZV below args s Y NX EX Q) (F0 m 3 ls []) := by
  have hx := C.1.1
  have hb := C.1.2.1
  intro n
  induction n with
  | zero =>
    intro M x1 x2 x4 hx1 H locs ls hq hh hl
    unfold wX0_tellSizes_3 at hq
    exact hq.elim
  | succ n ih =>
    intro M x1 x2 x4 hx1 H locs ls hq hh hl
    unfold wX0_tellSizes_3 at hq
    refine lv_iload hx hb dX0_tellSizes_3 (lv_at hl 4 rfl) ?_
    refine lv_aload_n hx hb dX0_tellSizes_5 rfl (lv_at hl 1 rfl) ?_
    refine sy_get C hh (fun w h => mc (uX_fX10 w h)) x1 (iX10_N hx1) (oX10 hx1) rfl 0 (by decide) (index := 28) (mc uX_14) (v := .int (M x1 0)) rfl dX0_tellSizes_6 ?_
    refine lv_icmp_ge (tgt := 37) hx hb dX0_tellSizes_9 (by decide) (fun c1 => ?_) (fun c1 => ?_)
    · have hq := hq.1 c1
      exact hK_37 M x1 x2 hx1 _ _ _ hq hh (lv_sub hl [0, 1, 2, 3] rfl)
    · have hq := hq.2 c1
      refine lv_aload_n hx hb dX0_tellSizes_12 rfl (lv_at hl 3 rfl) ?_
      refine lv_iload hx hb dX0_tellSizes_13 (lv_at hl 4 rfl) ?_
      refine lv_aload_n hx hb dX0_tellSizes_15 rfl (lv_at hl 1 rfl) ?_
      refine sy_get C hh (fun w h => mc (uX_fX10 w h)) x1 (iX10_N hx1) (oX10 hx1) rfl 6 (by decide) (index := 33) (mc uX_15) (v := .ref (Y.2.1 (x1 + 5))) rfl dX0_tellSizes_16 ?_
      refine lv_iload hx hb dX0_tellSizes_19 (lv_at hl 4 rfl) ?_
      obtain ⟨n2, hn2, en2, hq⟩ := hq
      refine sy_iald C hh (x1 + 5) (iX10_N5 hx1) (aX10_5 hx1) (tX10_5 hx1) hn2 en2 (by decide) dX0_tellSizes_21 ?_
      refine sy_iast C hh 59 (by decide) (aX_59 Y) tX_59 hn2 en2 (by decide) dX0_tellSizes_22 (fun H locs hh => ?_)
      refine lv_aload_n hx hb dX0_tellSizes_23 rfl (lv_at hl 0 rfl) ?_
      refine sy_get C hh (fun w h => mc (uX_fX0 w h)) 4 (by decide) (oX_4 Y) rfl 4 (by decide) (index := 25) (mc uX_9) (v := .ref (Y.2.1 8)) rfl dX0_tellSizes_24 ?_
      refine lv_iload hx hb dX0_tellSizes_27 (lv_at hl 4 rfl) ?_
      refine lv_iconst (v := (-1 : Int32)) hx hb dX0_tellSizes_29 (by decide) ?_
      refine sy_iast C hh 8 (by decide) (aX_8 Y) tX_8 hn2 en2 (by decide) dX0_tellSizes_30 (fun H locs hh => ?_)
      refine lv_iinc (v := (x4 + (1 : Int32))) (lv' := [(4, .int (x4 + (1 : Int32))), (0, .ref (Y.2.1 4)), (1, .ref (Y.2.1 x1)), (2, .int x2), (3, .ref (Y.2.1 59))]) hx hb dX0_tellSizes_31 hl (k := 4) rfl (sy_inc (by decide)) (by decide) rfl (fun ls hl => ?_)
      refine lv_goto (tgt := 3) hx hb dX0_tellSizes_34 (by decide) ?_
      exact ih (mu (mu M 59 n2 (M (x1 + 5) n2)) 8 n2 (-1 : Int32)) x1 x2 (x4 + (1 : Int32)) hx1 _ _ _ hq hh (lv_sub hl [1, 2, 3, 4, 0] rfl)

set_option maxHeartbeats 4000000 in
set_option maxRecDepth 100000 in
theorem kX0_tellSizes_40 (C : sy_C p m c cX0_tellSizes 6 s args vsX0_tellSizes RX0 meth none Y NX tfX) {Q : sy_M → Prop} {K_126 : sy_M → Nat → Prop} (hK_126 : ∀ (M : sy_M) (x1 : Nat) (hx1 : iX10 x1) (H : Heap) (locs : List Loc) (ls : Array Slot), K_126 M x1 → sy_H Y NX EX s H locs M → lv_has ls 6 [(1, .ref (Y.2.1 x1)), (3, .ref (Y.2.1 59))] → W p l e ({ frames := 1, cells := 0, slots := 0, locals := 21 } : Room) s m args below meth c H locs 0 0 (sy_ZV below args s Y NX EX Q) (F0 m 126 ls [])) :
    ∀ (n : Nat) (M : sy_M) (x1 : Nat) (x2 : Int32) (x4 : Int32) (hx1 : iX10 x1) (H : Heap) (locs : List Loc) (ls : Array Slot), wX0_tellSizes_40 K_126 Q n M x1 x2 x4 → sy_H Y NX EX s H locs M → lv_has ls 6 [(0, .ref (Y.2.1 4)), (1, .ref (Y.2.1 x1)), (2, .int x2), (3, .ref (Y.2.1 59)), (4, .int x4)] → W p l e ({ frames := 1, cells := 0, slots := 0, locals := 21 } : Room) s m args below meth c H locs 0 0 (sy_ZV below args s Y NX EX Q) (F0 m 40 ls []) := by
  have hx := C.1.1
  have hb := C.1.2.1
  intro n
  induction n with
  | zero =>
    intro M x1 x2 x4 hx1 H locs ls hq hh hl
    unfold wX0_tellSizes_40 at hq
    exact hq.elim
  | succ n ih =>
    intro M x1 x2 x4 hx1 H locs ls hq hh hl
    unfold wX0_tellSizes_40 at hq
    refine lv_iload hx hb dX0_tellSizes_40 (lv_at hl 4 rfl) ?_
    refine lv_aload_n hx hb dX0_tellSizes_42 rfl (lv_at hl 0 rfl) ?_
    refine sy_get C hh (fun w h => mc (uX_fX0 w h)) 4 (by decide) (oX_4 Y) rfl 0 (by decide) (index := 9) (mc uX_4) (v := .int (M 4 0)) rfl dX0_tellSizes_43 ?_
    refine lv_icmp_ge (tgt := 126) hx hb dX0_tellSizes_46 (by decide) (fun c6 => ?_) (fun c6 => ?_)
    · have hq := hq.1 c6
      exact hK_126 M x1 hx1 _ _ _ hq hh (lv_sub hl [1, 3] rfl)
    · have hq := hq.2 c6
      refine lv_aload_n hx hb dX0_tellSizes_49 rfl (lv_at hl 0 rfl) ?_
      refine sy_get C hh (fun w h => mc (uX_fX0 w h)) 4 (by decide) (oX_4 Y) rfl 1 (by decide) (index := 15) (mc uX_6) (v := .ref (Y.2.1 5)) rfl dX0_tellSizes_50 ?_
      refine lv_iload hx hb dX0_tellSizes_53 (lv_at hl 4 rfl) ?_
      obtain ⟨n7, hn7, en7, hq⟩ := hq
      refine sy_iald C hh 5 (by decide) (aX_5 Y) tX_5 hn7 en7 (by decide) dX0_tellSizes_55 ?_
      refine lv_istore (lv' := [(5, .int (M 5 n7)), (0, .ref (Y.2.1 4)), (1, .ref (Y.2.1 x1)), (2, .int x2), (3, .ref (Y.2.1 59)), (4, .int x4)]) hx hb dX0_tellSizes_56 hl (by decide) rfl (fun ls hl => ?_)
      refine lv_aload_n hx hb dX0_tellSizes_58 rfl (lv_at hl 2 rfl) ?_
      refine lv_iload hx hb dX0_tellSizes_59 (lv_at hl 0 rfl) ?_
      refine sy_cIV C hh (As := [.int (M 5 n7)]) (rest := []) x1 (iX10_N hx1) (oX10 hx1) rfl (mX10_has l Y _ M x1 hx1 (M 5 n7) _ hq) (cwV 1 C.1.2.2.2.2 (sy_goodV uX_good uX_17 uX_18 uX_19 uX_20 uX_11 _) rfl rfl rfl hdX10_has ⟨Nat.le_of_ble_eq_true rfl, Nat.le_of_ble_eq_true rfl⟩) rfl hl.1 rfl (Nat.le_of_ble_eq_true rfl) dX0_tellSizes_61 (fun r9 M8 H locs hq hh => ?_)
      refine lv_if_eq (tgt := 120) hx hb dX0_tellSizes_64 (by decide) (fun c10 => ?_) (fun c10 => ?_)
      · have hq := hq.1 c10
        refine lv_iinc (v := (x4 + (1 : Int32))) (lv' := [(4, .int (x4 + (1 : Int32))), (5, .int (M 5 n7)), (0, .ref (Y.2.1 4)), (1, .ref (Y.2.1 x1)), (2, .int x2), (3, .ref (Y.2.1 59))]) hx hb dX0_tellSizes_120 hl (k := 5) rfl (sy_inc (by decide)) (by decide) rfl (fun ls hl => ?_)
        refine lv_goto (tgt := 40) hx hb dX0_tellSizes_123 (by decide) ?_
        exact ih M8 x1 x2 (x4 + (1 : Int32)) hx1 _ _ _ hq hh (lv_sub hl [2, 3, 4, 5, 0] rfl)
      · have hq := hq.2 c10
        refine lv_aload_n hx hb dX0_tellSizes_67 rfl (lv_at hl 1 rfl) ?_
        refine sy_get C hh (fun w h => mc (uX_fX0 w h)) 4 (by decide) (oX_4 Y) rfl 2 (by decide) (index := 19) (mc uX_7) (v := .ref (Y.2.1 6)) rfl dX0_tellSizes_68 ?_
        refine lv_iload hx hb dX0_tellSizes_71 (lv_at hl 5 rfl) ?_
        refine sy_iald C hh 6 (by decide) (aX_6 Y) tX_6 hn7 en7 (by decide) dX0_tellSizes_73 ?_
        refine lv_iload_n hx hb dX0_tellSizes_74 rfl (lv_at hl 3 rfl) ?_
        refine lv_icmp_gt (tgt := 120) hx hb dX0_tellSizes_75 (by decide) (fun c11 => ?_) (fun c11 => ?_)
        · have hq := hq.1 c11
          refine lv_iinc (v := (x4 + (1 : Int32))) (lv' := [(4, .int (x4 + (1 : Int32))), (5, .int (M 5 n7)), (0, .ref (Y.2.1 4)), (1, .ref (Y.2.1 x1)), (2, .int x2), (3, .ref (Y.2.1 59))]) hx hb dX0_tellSizes_120 hl (k := 5) rfl (sy_inc (by decide)) (by decide) rfl (fun ls hl => ?_)
          refine lv_goto (tgt := 40) hx hb dX0_tellSizes_123 (by decide) ?_
          exact ih M8 x1 x2 (x4 + (1 : Int32)) hx1 _ _ _ hq hh (lv_sub hl [2, 3, 4, 5, 0] rfl)
        · have hq := hq.2 c11
          refine lv_aload_n hx hb dX0_tellSizes_78 rfl (lv_at hl 1 rfl) ?_
          refine sy_get C hh (fun w h => mc (uX_fX0 w h)) 4 (by decide) (oX_4 Y) rfl 2 (by decide) (index := 19) (mc uX_7) (v := .ref (Y.2.1 6)) rfl dX0_tellSizes_79 ?_
          refine lv_iload hx hb dX0_tellSizes_82 (lv_at hl 5 rfl) ?_
          refine sy_iald C hh 6 (by decide) (aX_6 Y) tX_6 hn7 en7 (by decide) dX0_tellSizes_84 ?_
          refine lv_aload_n hx hb dX0_tellSizes_85 rfl (lv_at hl 1 rfl) ?_
          refine sy_get C hh (fun w h => mc (uX_fX0 w h)) 4 (by decide) (oX_4 Y) rfl 4 (by decide) (index := 25) (mc uX_9) (v := .ref (Y.2.1 8)) rfl dX0_tellSizes_86 ?_
          refine lv_iload hx hb dX0_tellSizes_89 (lv_at hl 0 rfl) ?_
          obtain ⟨n12, hn12, en12, hq⟩ := hq
          refine sy_iald C hh 8 (by decide) (aX_8 Y) tX_8 hn12 en12 (by decide) dX0_tellSizes_91 ?_
          refine lv_icmp_lt (tgt := 120) hx hb dX0_tellSizes_92 (by decide) (fun c13 => ?_) (fun c13 => ?_)
          · have hq := hq.1 c13
            refine lv_iinc (v := (x4 + (1 : Int32))) (lv' := [(4, .int (x4 + (1 : Int32))), (5, .int (M 5 n7)), (0, .ref (Y.2.1 4)), (1, .ref (Y.2.1 x1)), (2, .int x2), (3, .ref (Y.2.1 59))]) hx hb dX0_tellSizes_120 hl (k := 5) rfl (sy_inc (by decide)) (by decide) rfl (fun ls hl => ?_)
            refine lv_goto (tgt := 40) hx hb dX0_tellSizes_123 (by decide) ?_
            exact ih M8 x1 x2 (x4 + (1 : Int32)) hx1 _ _ _ hq hh (lv_sub hl [2, 3, 4, 5, 0] rfl)
          · have hq := hq.2 c13
            refine lv_aload_n hx hb dX0_tellSizes_95 rfl (lv_at hl 4 rfl) ?_
            refine lv_iload hx hb dX0_tellSizes_96 (lv_at hl 0 rfl) ?_
            refine lv_aload_n hx hb dX0_tellSizes_98 rfl (lv_at hl 1 rfl) ?_
            refine sy_get C hh (fun w h => mc (uX_fX0 w h)) 4 (by decide) (oX_4 Y) rfl 3 (by decide) (index := 22) (mc uX_8) (v := .ref (Y.2.1 7)) rfl dX0_tellSizes_99 ?_
            refine lv_iload hx hb dX0_tellSizes_102 (lv_at hl 5 rfl) ?_
            refine sy_iald C hh 7 (by decide) (aX_7 Y) tX_7 hn7 en7 (by decide) dX0_tellSizes_104 ?_
            refine sy_iast C hh 59 (by decide) (aX_59 Y) tX_59 hn12 en12 (by decide) dX0_tellSizes_105 (fun H locs hh => ?_)
            refine lv_aload_n hx hb dX0_tellSizes_106 rfl (lv_at hl 1 rfl) ?_
            refine sy_get C hh (fun w h => mc (uX_fX0 w h)) 4 (by decide) (oX_4 Y) rfl 4 (by decide) (index := 25) (mc uX_9) (v := .ref (Y.2.1 8)) rfl dX0_tellSizes_107 ?_
            refine lv_iload hx hb dX0_tellSizes_110 (lv_at hl 0 rfl) ?_
            refine lv_aload_n hx hb dX0_tellSizes_112 rfl (lv_at hl 1 rfl) ?_
            refine sy_get C hh (fun w h => mc (uX_fX0 w h)) 4 (by decide) (oX_4 Y) rfl 2 (by decide) (index := 19) (mc uX_7) (v := .ref (Y.2.1 6)) rfl dX0_tellSizes_113 ?_
            refine lv_iload hx hb dX0_tellSizes_116 (lv_at hl 5 rfl) ?_
            refine sy_iald C hh 6 (by decide) (aX_6 Y) tX_6 hn7 en7 (by decide) dX0_tellSizes_118 ?_
            refine sy_iast C hh 8 (by decide) (aX_8 Y) tX_8 hn12 en12 (by decide) dX0_tellSizes_119 (fun H locs hh => ?_)
            refine lv_iinc (v := (x4 + (1 : Int32))) (lv' := [(4, .int (x4 + (1 : Int32))), (5, .int (M 5 n7)), (0, .ref (Y.2.1 4)), (1, .ref (Y.2.1 x1)), (2, .int x2), (3, .ref (Y.2.1 59))]) hx hb dX0_tellSizes_120 hl (k := 5) rfl (sy_inc (by decide)) (by decide) rfl (fun ls hl => ?_)
            refine lv_goto (tgt := 40) hx hb dX0_tellSizes_123 (by decide) ?_
            exact ih (mu (mu M8 59 n12 (M8 7 n7)) 8 n12 (M8 6 n7)) x1 x2 (x4 + (1 : Int32)) hx1 _ _ _ hq hh (lv_sub hl [2, 3, 4, 5, 0] rfl)

set_option maxHeartbeats 4000000 in
set_option maxRecDepth 100000 in
theorem kX0_tellSizes_134 (C : sy_C p m c cX0_tellSizes 6 s args vsX0_tellSizes RX0 meth none Y NX tfX) {Q : sy_M → Prop} :
    ∀ (n : Nat) (M : sy_M) (x1 : Nat) (x4 : Int32) (hx1 : iX10 x1) (H : Heap) (locs : List Loc) (ls : Array Slot), wX0_tellSizes_134 Q n M x1 x4 → sy_H Y NX EX s H locs M → lv_has ls 6 [(1, .ref (Y.2.1 x1)), (3, .ref (Y.2.1 59)), (4, .int x4)] → W p l e ({ frames := 1, cells := 0, slots := 0, locals := 21 } : Room) s m args below meth c H locs 0 0 (sy_ZV below args s Y NX EX Q) (F0 m 134 ls []) := by
  have hx := C.1.1
  have hb := C.1.2.1
  intro n
  induction n with
  | zero =>
    intro M x1 x4 hx1 H locs ls hq hh hl
    unfold wX0_tellSizes_134 at hq
    exact hq.elim
  | succ n ih =>
    intro M x1 x4 hx1 H locs ls hq hh hl
    unfold wX0_tellSizes_134 at hq
    refine lv_iload hx hb dX0_tellSizes_134 (lv_at hl 2 rfl) ?_
    refine lv_if_le (tgt := 175) hx hb dX0_tellSizes_136 (by decide) (fun c16 => ?_) (fun c16 => ?_)
    · have hq := hq.1 c16
      exact sy_vret C hh dX0_tellSizes_175 hq
    · have hq := hq.2 c16
      refine lv_aload_n hx hb dX0_tellSizes_139 rfl (lv_at hl 0 rfl) ?_
      refine lv_aload_n hx hb dX0_tellSizes_140 rfl (lv_at hl 0 rfl) ?_
      refine sy_get C hh (fun w h => mc (uX_fX10 w h)) x1 (iX10_N hx1) (oX10 hx1) rfl 2 (by decide) (index := 40) (mc uX_16) (v := .ref (Y.2.1 (x1 + 1))) rfl dX0_tellSizes_141 ?_
      refine lv_iload hx hb dX0_tellSizes_144 (lv_at hl 2 rfl) ?_
      obtain ⟨n17, hn17, en17, hq⟩ := hq
      refine sy_iald C hh (x1 + 1) (iX10_N1 hx1) (aX10_1 hx1) (tX10_1 hx1) hn17 en17 (by decide) dX0_tellSizes_146 ?_
      refine sy_cIV C hh (As := [.int (M (x1 + 1) n17)]) (rest := []) x1 (iX10_N hx1) (oX10 hx1) rfl (mX10_has l Y _ M x1 hx1 (M (x1 + 1) n17) _ hq) (cwV 1 C.1.2.2.2.2 (sy_goodV uX_good uX_17 uX_18 uX_19 uX_20 uX_11 _) rfl rfl rfl hdX10_has ⟨Nat.le_of_ble_eq_true rfl, Nat.le_of_ble_eq_true rfl⟩) rfl hl.1 rfl (Nat.le_of_ble_eq_true rfl) dX0_tellSizes_147 (fun r19 M18 H locs hq hh => ?_)
      refine lv_if_eq (tgt := 169) hx hb dX0_tellSizes_150 (by decide) (fun c20 => ?_) (fun c20 => ?_)
      · have hq := hq.1 c20
        refine lv_iinc (v := (x4 + (-1 : Int32))) (lv' := [(4, .int (x4 + (-1 : Int32))), (1, .ref (Y.2.1 x1)), (3, .ref (Y.2.1 59))]) hx hb dX0_tellSizes_169 hl (k := 2) rfl (sy_inc (by decide)) (by decide) rfl (fun ls hl => ?_)
        refine lv_goto (tgt := 134) hx hb dX0_tellSizes_172 (by decide) ?_
        exact ih M18 x1 (x4 + (-1 : Int32)) hx1 _ _ _ hq hh (lv_sub hl [1, 2, 0] rfl)
      · have hq := hq.2 c20
        refine lv_aload_n hx hb dX0_tellSizes_153 rfl (lv_at hl 1 rfl) ?_
        refine lv_aload_n hx hb dX0_tellSizes_154 rfl (lv_at hl 0 rfl) ?_
        refine sy_get C hh (fun w h => mc (uX_fX10 w h)) x1 (iX10_N hx1) (oX10 hx1) rfl 2 (by decide) (index := 40) (mc uX_16) (v := .ref (Y.2.1 (x1 + 1))) rfl dX0_tellSizes_155 ?_
        refine lv_iload hx hb dX0_tellSizes_158 (lv_at hl 2 rfl) ?_
        refine sy_iald C hh (x1 + 1) (iX10_N1 hx1) (aX10_1 hx1) (tX10_1 hx1) hn17 en17 (by decide) dX0_tellSizes_160 ?_
        refine lv_dup2_11 hx hb dX0_tellSizes_161 rfl rfl ?_
        obtain ⟨n21, hn21, en21, hq⟩ := hq
        refine sy_iald C hh 59 (by decide) (aX_59 Y) tX_59 hn21 en21 (by decide) dX0_tellSizes_162 ?_
        refine lv_aload_n hx hb dX0_tellSizes_163 rfl (lv_at hl 1 rfl) ?_
        refine lv_iload hx hb dX0_tellSizes_164 (lv_at hl 2 rfl) ?_
        refine sy_iald C hh 59 (by decide) (aX_59 Y) tX_59 hn17 en17 (by decide) dX0_tellSizes_166 ?_
        refine lv_iadd hx hb dX0_tellSizes_167 ?_
        refine sy_iast C hh 59 (by decide) (aX_59 Y) tX_59 hn21 en21 (by decide) dX0_tellSizes_168 (fun H locs hh => ?_)
        refine lv_iinc (v := (x4 + (-1 : Int32))) (lv' := [(4, .int (x4 + (-1 : Int32))), (1, .ref (Y.2.1 x1)), (3, .ref (Y.2.1 59))]) hx hb dX0_tellSizes_169 hl (k := 2) rfl (sy_inc (by decide)) (by decide) rfl (fun ls hl => ?_)
        refine lv_goto (tgt := 134) hx hb dX0_tellSizes_172 (by decide) ?_
        exact ih (mu M18 59 n21 ((M18 59 n21) + (M18 59 n17))) x1 (x4 + (-1 : Int32)) hx1 _ _ _ hq hh (lv_sub hl [1, 2, 0] rfl)

end
set_option maxHeartbeats 4000000 in
set_option maxRecDepth 100000 in
theorem mX0_tellSizes (l : Launch) (Y : sy_Y) (sz : Nat) (M : sy_M) (p1 : Nat) (hp1 : iX10 p1) (a2 : Int32) (Q : sy_M → Prop) (hq : wX0_tellSizes M p1 a2 Q) : Met l yX0_tellSizes vsX0_tellSizes ({ frames := 1, cells := 0, slots := 0, locals := 21 } : Room) (va_Pc [.ref (Y.2.1 4), .ref (Y.2.1 p1), .int a2, .ref (Y.2.1 59)] (sy_pre Y NX EX tfX sz M)) (sy_QV Y NX EX sz Q) 0 0 (sy_A NX Y.2.1 sz) := by
  refine sy_metV (by decide) rfl (Nat.le_of_ble_eq_true rfl) ?_
  intro p e s m args below meth c C ls hl hh
  have hx := C.1.1
  have hb := C.1.2.1
  have hl : lv_has ls 6 [(0, .ref (Y.2.1 4)), (1, .ref (Y.2.1 p1)), (2, .int a2), (3, .ref (Y.2.1 59))] := hl
  unfold wX0_tellSizes at hq
  refine lv_iconst (v := (0 : Int32)) hx hb dX0_tellSizes_0 (by decide) ?_
  refine lv_istore (lv' := [(4, .int (0 : Int32)), (0, .ref (Y.2.1 4)), (1, .ref (Y.2.1 p1)), (2, .int a2), (3, .ref (Y.2.1 59))]) hx hb dX0_tellSizes_1 hl (by decide) rfl (fun ls hl => ?_)
  obtain ⟨n24, hq⟩ := hq
  refine kX0_tellSizes_3 C (fun M3 x1_4 x2_5 hx1_4 H locs ls hq hh hl => ?_) n24 M p1 a2 (0 : Int32) hp1 _ _ _ hq hh (lv_sub hl [1, 2, 3, 4, 0] rfl)
  · refine lv_iconst (v := (0 : Int32)) hx hb dX0_tellSizes_37 (by decide) ?_
    refine lv_istore (lv' := [(4, .int (0 : Int32)), (0, .ref (Y.2.1 4)), (1, .ref (Y.2.1 x1_4)), (2, .int x2_5), (3, .ref (Y.2.1 59))]) hx hb dX0_tellSizes_38 hl (by decide) rfl (fun ls hl => ?_)
    obtain ⟨n23, hq⟩ := hq
    refine kX0_tellSizes_40 C (fun M14 x1_15 hx1_15 H locs ls hq hh hl => ?_) n23 M3 x1_4 x2_5 (0 : Int32) hx1_4 _ _ _ hq hh (lv_sub hl [1, 2, 3, 4, 0] rfl)
    · refine lv_aload_n hx hb dX0_tellSizes_126 rfl (lv_at hl 0 rfl) ?_
      refine sy_get C hh (fun w h => mc (uX_fX10 w h)) x1_15 (iX10_N hx1_15) (oX10 hx1_15) rfl 0 (by decide) (index := 28) (mc uX_14) (v := .int (M14 x1_15 0)) rfl dX0_tellSizes_127 ?_
      refine lv_iconst (v := (1 : Int32)) hx hb dX0_tellSizes_130 (by decide) ?_
      refine lv_isub hx hb dX0_tellSizes_131 ?_
      refine lv_istore (lv' := [(4, .int ((M14 x1_15 0) - (1 : Int32))), (1, .ref (Y.2.1 x1_15)), (3, .ref (Y.2.1 59))]) hx hb dX0_tellSizes_132 hl (by decide) rfl (fun ls hl => ?_)
      obtain ⟨n22, hq⟩ := hq
      refine kX0_tellSizes_134 C  n22 M14 x1_15 ((M14 x1_15 0) - (1 : Int32)) hx1_15 _ _ _ hq hh (lv_sub hl [1, 2, 0] rfl)

