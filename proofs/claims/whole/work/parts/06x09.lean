/-! AreaSetter.letter(II)I -/
def wX11_letter (M : sy_M) (a1 : Int32) (a2 : Int32) (Q : Int32 → sy_M → Prop) : Prop := ∃ t1 : Nat, (M 0 6) = nI t1 ∧ iX10 t1 ∧ wX10_has M t1 a1 (fun r3 M2 => ((r3 = 0 → Q (-1 : Int32) M2) ∧ (¬ r3 = 0 → ((a2 < 0 → Q (-1 : Int32) M2) ∧ (¬ a2 < 0 → ∃ t6 : Nat, (M2 0 6) = nI t6 ∧ iX10 t6 ∧ ∃ n7 : Nat, n7 < 40 ∧ a1 = nI n7 ∧ (((M2 (t6 + 6) n7) ≤ a2 → Q (-1 : Int32) M2) ∧ (¬ (M2 (t6 + 6) n7) ≤ a2 → ∃ t9 : Nat, (M2 0 6) = nI t9 ∧ iX10 t9 ∧ wX10_nameByte M2 t9 a1 a2 (fun r11 M10 => Q r11 M10))))))))
section
variable {p : Program} {l : Launch} {e : Env} {s : State} {m : MethodId} {args : Array Value} {below : List Frame} {meth : Method} {c : Code} {Y : sy_Y}
end
set_option maxHeartbeats 4000000 in
set_option maxRecDepth 100000 in
theorem mX11_letter (l : Launch) (Y : sy_Y) (sz : Nat) (M : sy_M) (a1 : Int32) (a2 : Int32) (Q : Int32 → sy_M → Prop) (hq : wX11_letter M a1 a2 Q) : Met l yX11_letter vsX11_letter ({ frames := 1, cells := 0, slots := 0, locals := 22 } : Room) (va_Pc [.ref (Y.2.1 0), .int a1, .int a2] (sy_pre Y NX EX tfX sz M)) (sy_QI Y NX EX sz Q) 0 0 (sy_A NX Y.2.1 sz) := by
  refine sy_metI (by decide) rfl (Nat.le_of_ble_eq_true rfl) ?_
  intro p e s m args below meth c C ls hl hh
  have hx := C.1.1
  have hb := C.1.2.1
  have hl : lv_has ls 3 [(0, .ref (Y.2.1 0)), (1, .int a1), (2, .int a2)] := hl
  unfold wX11_letter at hq
  refine lv_aload_n hx hb dX11_letter_0 rfl (lv_at hl 0 rfl) ?_
  obtain ⟨t1, et1, ht1, hq⟩ := hq
  refine sy_get C hh (fun w h => mc (uX_fX11 w h)) 0 (by decide) (oX_0 Y) rfl 6 (by decide) (index := 49) (mc uX_498) (v := .ref (Y.2.1 t1)) (sy_rf_of et1 (by have := iX10_lt ht1; omega)) dX11_letter_1 ?_
  refine lv_iload_n hx hb dX11_letter_4 rfl (lv_at hl 1 rfl) ?_
  refine sy_cIV C hh (As := [.int a1]) (rest := []) t1 (iX10_N ht1) (oX10 ht1) rfl (mX10_has l Y _ M t1 ht1 a1 _ hq) (cwV 1 C.1.2.2.2.2 (sy_goodV uX_good uX_557 uX_18 uX_19 uX_20 uX_11 _) rfl rfl rfl hdX10_has ⟨Nat.le_of_ble_eq_true rfl, Nat.le_of_ble_eq_true rfl⟩) rfl hl.1 rfl (Nat.le_of_ble_eq_true rfl) dX11_letter_5 (fun r3 M2 H locs hq hh => ?_)
  refine lv_if_eq (tgt := 40) hx hb dX11_letter_8 (by decide) (fun c4 => ?_) (fun c4 => ?_)
  · have hq := hq.1 c4
    refine lv_iconst (v := (-1 : Int32)) hx hb dX11_letter_40 (by decide) ?_
    exact sy_iret C hh dX11_letter_41 hq
  · have hq := hq.2 c4
    refine lv_iload_n hx hb dX11_letter_11 rfl (lv_at hl 2 rfl) ?_
    refine lv_if_lt (tgt := 40) hx hb dX11_letter_12 (by decide) (fun c5 => ?_) (fun c5 => ?_)
    · have hq := hq.1 c5
      refine lv_iconst (v := (-1 : Int32)) hx hb dX11_letter_40 (by decide) ?_
      exact sy_iret C hh dX11_letter_41 hq
    · have hq := hq.2 c5
      refine lv_iload_n hx hb dX11_letter_15 rfl (lv_at hl 2 rfl) ?_
      refine lv_aload_n hx hb dX11_letter_16 rfl (lv_at hl 0 rfl) ?_
      obtain ⟨t6, et6, ht6, hq⟩ := hq
      refine sy_get C hh (fun w h => mc (uX_fX11 w h)) 0 (by decide) (oX_0 Y) rfl 6 (by decide) (index := 49) (mc uX_498) (v := .ref (Y.2.1 t6)) (sy_rf_of et6 (by have := iX10_lt ht6; omega)) dX11_letter_17 ?_
      refine sy_get C hh (fun w h => mc (uX_fX10 w h)) t6 (iX10_N ht6) (oX10 ht6) rfl 7 (by decide) (index := 179) (mc uX_575) (v := .ref (Y.2.1 (t6 + 6))) rfl dX11_letter_20 ?_
      refine lv_iload_n hx hb dX11_letter_23 rfl (lv_at hl 1 rfl) ?_
      obtain ⟨n7, hn7, en7, hq⟩ := hq
      refine sy_iald C hh (t6 + 6) (iX10_N6 ht6) (aX10_6 ht6) (tX10_6 ht6) hn7 en7 (by decide) dX11_letter_24 ?_
      refine lv_icmp_ge (tgt := 40) hx hb dX11_letter_25 (by decide) (fun c8 => ?_) (fun c8 => ?_)
      · have hq := hq.1 c8
        refine lv_iconst (v := (-1 : Int32)) hx hb dX11_letter_40 (by decide) ?_
        exact sy_iret C hh dX11_letter_41 hq
      · have hq := hq.2 c8
        refine lv_aload_n hx hb dX11_letter_28 rfl (lv_at hl 0 rfl) ?_
        obtain ⟨t9, et9, ht9, hq⟩ := hq
        refine sy_get C hh (fun w h => mc (uX_fX11 w h)) 0 (by decide) (oX_0 Y) rfl 6 (by decide) (index := 49) (mc uX_498) (v := .ref (Y.2.1 t9)) (sy_rf_of et9 (by have := iX10_lt ht9; omega)) dX11_letter_29 ?_
        refine lv_iload_n hx hb dX11_letter_32 rfl (lv_at hl 1 rfl) ?_
        refine lv_iload_n hx hb dX11_letter_33 rfl (lv_at hl 2 rfl) ?_
        refine sy_cIV C hh (As := [.int a1, .int a2]) (rest := []) t9 (iX10_N ht9) (oX10 ht9) rfl (mX10_nameByte l Y _ M2 t9 ht9 a1 a2 _ hq) (cwV 2 C.1.2.2.2.2 (sy_goodV uX_good uX_599 uX_416 uX_417 uX_20 uX_413 _) rfl rfl rfl hdX10_nameByte ⟨Nat.le_of_ble_eq_true rfl, Nat.le_of_ble_eq_true rfl⟩) rfl hl.1 rfl (Nat.le_of_ble_eq_true rfl) dX11_letter_34 (fun r11 M10 H locs hq hh => ?_)
        refine lv_goto (tgt := 41) hx hb dX11_letter_37 (by decide) ?_
        exact sy_iret C hh dX11_letter_41 hq

/-! AreaSetter.named()I -/
def wX11_named (M : sy_M)  (Q : Int32 → sy_M → Prop) : Prop := ∃ t1 : Nat, (M 0 6) = nI t1 ∧ iX10 t1 ∧ wX10_find M t1 (0 : Int32) (M 1 0) (fun r3 M2 => Q r3 (mu M2 1 0 (0 : Int32)))
section
variable {p : Program} {l : Launch} {e : Env} {s : State} {m : MethodId} {args : Array Value} {below : List Frame} {meth : Method} {c : Code} {Y : sy_Y}
end
set_option maxHeartbeats 4000000 in
set_option maxRecDepth 100000 in
theorem mX11_named (l : Launch) (Y : sy_Y) (sz : Nat) (M : sy_M) (Q : Int32 → sy_M → Prop) (hq : wX11_named M  Q) : Met l yX11_named vsX11_named ({ frames := 3, cells := 0, slots := 0, locals := 70 } : Room) (va_Pc [.ref (Y.2.1 0)] (sy_pre Y NX EX tfX sz M)) (sy_QI Y NX EX sz Q) 0 0 (sy_A NX Y.2.1 sz) := by
  refine sy_metI (by decide) rfl (Nat.le_of_ble_eq_true rfl) ?_
  intro p e s m args below meth c C ls hl hh
  have hx := C.1.1
  have hb := C.1.2.1
  have hl : lv_has ls 2 [(0, .ref (Y.2.1 0))] := hl
  unfold wX11_named at hq
  refine lv_aload_n hx hb dX11_named_0 rfl (lv_at hl 0 rfl) ?_
  obtain ⟨t1, et1, ht1, hq⟩ := hq
  refine sy_get C hh (fun w h => mc (uX_fX11 w h)) 0 (by decide) (oX_0 Y) rfl 6 (by decide) (index := 49) (mc uX_498) (v := .ref (Y.2.1 t1)) (sy_rf_of et1 (by have := iX10_lt ht1; omega)) dX11_named_1 ?_
  refine lv_aload_n hx hb dX11_named_4 rfl (lv_at hl 0 rfl) ?_
  refine sy_get C hh (fun w h => mc (uX_fX11 w h)) 0 (by decide) (oX_0 Y) rfl 1 (by decide) (index := 20) (mc uX_485) (v := .ref (Y.2.1 1)) rfl dX11_named_5 ?_
  refine lv_iconst (v := (0 : Int32)) hx hb dX11_named_8 (by decide) ?_
  refine lv_aload_n hx hb dX11_named_9 rfl (lv_at hl 0 rfl) ?_
  refine sy_get C hh (fun w h => mc (uX_fX11 w h)) 0 (by decide) (oX_0 Y) rfl 1 (by decide) (index := 20) (mc uX_485) (v := .ref (Y.2.1 1)) rfl dX11_named_10 ?_
  refine sy_get C hh (fun w h => mc (uX_fX9 w h)) 1 (by decide) (oX_1 Y) rfl 0 (by decide) (index := 67) (mc uX_513) (v := .int (M 1 0)) rfl dX11_named_13 ?_
  refine sy_cIV C hh (As := [.ref (Y.2.1 1), .int (0 : Int32), .int (M 1 0)]) (rest := []) t1 (iX10_N ht1) (oX10 ht1) rfl (mX10_find l Y _ M t1 ht1 (0 : Int32) (M 1 0) _ hq) (cwV 3 C.1.2.2.2.2 (sy_goodV uX_good uX_600 uX_434 uX_435 uX_20 uX_419 _) rfl rfl rfl hdX10_find ⟨Nat.le_of_ble_eq_true rfl, Nat.le_of_ble_eq_true rfl⟩) rfl hl.1 rfl (Nat.le_of_ble_eq_true rfl) dX11_named_16 (fun r3 M2 H locs hq hh => ?_)
  refine lv_istore_n (lv' := [(1, .int r3), (0, .ref (Y.2.1 0))]) hx hb dX11_named_19 rfl hl (by decide) rfl (fun ls hl => ?_)
  refine lv_aload_n hx hb dX11_named_20 rfl (lv_at hl 1 rfl) ?_
  refine sy_get C hh (fun w h => mc (uX_fX11 w h)) 0 (by decide) (oX_0 Y) rfl 1 (by decide) (index := 20) (mc uX_485) (v := .ref (Y.2.1 1)) rfl dX11_named_21 ?_
  refine lv_iconst (v := (0 : Int32)) hx hb dX11_named_24 (by decide) ?_
  refine sy_put C hh (fun w h => mc (uX_fX9 w h)) tyX9 tyX9_ok nmX9 1 (by decide) (oX_1 Y) rfl 0 (by decide) (index := 67) (mc uX_513) rfl 0 (0 : Int32) (ty := .int) (tyX9_ok 0 (by decide)) rfl rfl (Nat.le_of_ble_eq_true rfl) (pX9_0 Y _ _ _) dX11_named_25 (fun H locs hh => ?_)
  refine lv_iload_n hx hb dX11_named_28 rfl (lv_at hl 0 rfl) ?_
  exact sy_iret C hh dX11_named_29 hq

/-! AreaSetter.sizeIn(II)I -/
def wX11_sizeIn (M : sy_M) (a1 : Int32) (a2 : Int32) (Q : Int32 → sy_M → Prop) : Prop := ∃ t1 : Nat, (M 0 6) = nI t1 ∧ iX10 t1 ∧ wX10_has M t1 a1 (fun r3 M2 => ((r3 = 0 → Q (-1 : Int32) M2) ∧ (¬ r3 = 0 → wX11_isTick M2 a2 (fun r6 M5 => ((¬ r6 = 0 → ∃ t8 : Nat, (M5 0 6) = nI t8 ∧ iX10 t8 ∧ wX0_tellSizes M5 t8 a2 (fun M9 => ∃ n10 : Nat, n10 < 40 ∧ a1 = nI n10 ∧ Q (M9 59 n10) M9)) ∧ (r6 = 0 → Q (-1 : Int32) M5))))))
section
variable {p : Program} {l : Launch} {e : Env} {s : State} {m : MethodId} {args : Array Value} {below : List Frame} {meth : Method} {c : Code} {Y : sy_Y}
end
set_option maxHeartbeats 4000000 in
set_option maxRecDepth 100000 in
theorem mX11_sizeIn (l : Launch) (Y : sy_Y) (sz : Nat) (M : sy_M) (a1 : Int32) (a2 : Int32) (Q : Int32 → sy_M → Prop) (hq : wX11_sizeIn M a1 a2 Q) : Met l yX11_sizeIn vsX11_sizeIn ({ frames := 2, cells := 0, slots := 0, locals := 46 } : Room) (va_Pc [.ref (Y.2.1 0), .int a1, .int a2] (sy_pre Y NX EX tfX sz M)) (sy_QI Y NX EX sz Q) 0 0 (sy_A NX Y.2.1 sz) := by
  refine sy_metI (by decide) rfl (Nat.le_of_ble_eq_true rfl) ?_
  intro p e s m args below meth c C ls hl hh
  have hx := C.1.1
  have hb := C.1.2.1
  have hl : lv_has ls 3 [(0, .ref (Y.2.1 0)), (1, .int a1), (2, .int a2)] := hl
  unfold wX11_sizeIn at hq
  refine lv_aload_n hx hb dX11_sizeIn_0 rfl (lv_at hl 0 rfl) ?_
  obtain ⟨t1, et1, ht1, hq⟩ := hq
  refine sy_get C hh (fun w h => mc (uX_fX11 w h)) 0 (by decide) (oX_0 Y) rfl 6 (by decide) (index := 49) (mc uX_498) (v := .ref (Y.2.1 t1)) (sy_rf_of et1 (by have := iX10_lt ht1; omega)) dX11_sizeIn_1 ?_
  refine lv_iload_n hx hb dX11_sizeIn_4 rfl (lv_at hl 1 rfl) ?_
  refine sy_cIV C hh (As := [.int a1]) (rest := []) t1 (iX10_N ht1) (oX10 ht1) rfl (mX10_has l Y _ M t1 ht1 a1 _ hq) (cwV 1 C.1.2.2.2.2 (sy_goodV uX_good uX_557 uX_18 uX_19 uX_20 uX_11 _) rfl rfl rfl hdX10_has ⟨Nat.le_of_ble_eq_true rfl, Nat.le_of_ble_eq_true rfl⟩) rfl hl.1 rfl (Nat.le_of_ble_eq_true rfl) dX11_sizeIn_5 (fun r3 M2 H locs hq hh => ?_)
  refine lv_if_eq (tgt := 18) hx hb dX11_sizeIn_8 (by decide) (fun c4 => ?_) (fun c4 => ?_)
  · have hq := hq.1 c4
    refine lv_iconst (v := (-1 : Int32)) hx hb dX11_sizeIn_18 (by decide) ?_
    exact sy_iret C hh dX11_sizeIn_19 hq
  · have hq := hq.2 c4
    refine lv_iload_n hx hb dX11_sizeIn_11 rfl (lv_at hl 2 rfl) ?_
    refine sy_cIS C hh (As := [.int a2]) (rest := []) (mX11_isTick l Y _ M2 a2 _ hq) (va_cwS 1 C.1.2.2.2.2 (sy_goodS uX_good uX_531 uX_532 uX_58 uX_528 _) rfl rfl rfl hdX11_isTick.2 ⟨Nat.le_of_ble_eq_true rfl, Nat.le_of_ble_eq_true rfl⟩) rfl hl.1 rfl (Nat.le_of_ble_eq_true rfl) dX11_sizeIn_12 (fun r6 M5 H locs hq hh => ?_)
    refine lv_if_ne (tgt := 20) hx hb dX11_sizeIn_15 (by decide) (fun c7 => ?_) (fun c7 => ?_)
    · have hq := hq.1 c7
      refine lv_aload_n hx hb dX11_sizeIn_20 rfl (lv_at hl 0 rfl) ?_
      refine sy_get C hh (fun w h => mc (uX_fX11 w h)) 0 (by decide) (oX_0 Y) rfl 2 (by decide) (index := 24) (mc uX_489) (v := .ref (Y.2.1 4)) rfl dX11_sizeIn_21 ?_
      refine lv_aload_n hx hb dX11_sizeIn_24 rfl (lv_at hl 0 rfl) ?_
      obtain ⟨t8, et8, ht8, hq⟩ := hq
      refine sy_get C hh (fun w h => mc (uX_fX11 w h)) 0 (by decide) (oX_0 Y) rfl 6 (by decide) (index := 49) (mc uX_498) (v := .ref (Y.2.1 t8)) (sy_rf_of et8 (by have := iX10_lt ht8; omega)) dX11_sizeIn_25 ?_
      refine lv_iload_n hx hb dX11_sizeIn_28 rfl (lv_at hl 2 rfl) ?_
      refine lv_aload_n hx hb dX11_sizeIn_29 rfl (lv_at hl 0 rfl) ?_
      refine sy_get C hh (fun w h => mc (uX_fX11 w h)) 0 (by decide) (oX_0 Y) rfl 5 (by decide) (index := 42) (mc uX_496) (v := .ref (Y.2.1 59)) rfl dX11_sizeIn_30 ?_
      refine sy_cVV C hh (As := [.ref (Y.2.1 t8), .int a2, .ref (Y.2.1 59)]) (rest := []) 4 (by decide) (oX_4 Y) rfl (mX0_tellSizes l Y _ M5 t8 ht8 a2 _ hq) (cwV 3 C.1.2.2.2.2 (sy_goodV uX_good uX_541 uX_542 uX_543 uX_488 uX_13 _) rfl rfl rfl hdX0_tellSizes ⟨Nat.le_of_ble_eq_true rfl, Nat.le_of_ble_eq_true rfl⟩) rfl hl.1 rfl (Nat.le_of_ble_eq_true rfl) dX11_sizeIn_33 (fun M9 H locs hq hh => ?_)
      refine lv_aload_n hx hb dX11_sizeIn_36 rfl (lv_at hl 0 rfl) ?_
      refine sy_get C hh (fun w h => mc (uX_fX11 w h)) 0 (by decide) (oX_0 Y) rfl 5 (by decide) (index := 42) (mc uX_496) (v := .ref (Y.2.1 59)) rfl dX11_sizeIn_37 ?_
      refine lv_iload_n hx hb dX11_sizeIn_40 rfl (lv_at hl 1 rfl) ?_
      obtain ⟨n10, hn10, en10, hq⟩ := hq
      refine sy_iald C hh 59 (by decide) (aX_59 Y) tX_59 hn10 en10 (by decide) dX11_sizeIn_41 ?_
      exact sy_iret C hh dX11_sizeIn_42 hq
    · have hq := hq.2 c7
      refine lv_iconst (v := (-1 : Int32)) hx hb dX11_sizeIn_18 (by decide) ?_
      exact sy_iret C hh dX11_sizeIn_19 hq

/-! AreaSetter$Drawings.countShown(LAreaSetter$Tree;)I -/
def wX2_countShown_4 (Q : Int32 → sy_M → Prop) : Nat → sy_M → Nat → Int32 → Int32 → Prop
  | 0, _, _, _, _ => False
  | n + 1, M, x1, x2, x3 => (((M x1 0) ≤ x3 → Q x2 M) ∧ (¬ (M x1 0) ≤ x3 → (((M 9 0) ≤ 0 → Q x2 M) ∧ (¬ (M 9 0) ≤ 0 → wX2_latestCell M x3 (fun r4 M3 => ∃ n5 : Nat, n5 < 2000 ∧ r4 = nI n5 ∧ (((M3 17 n5) = 0 → wX2_countShown_4 Q n M3 x1 x2 (x3 + (1 : Int32))) ∧ (¬ (M3 17 n5) = 0 → wX2_countShown_4 Q n M3 x1 (x2 + (1 : Int32)) (x3 + (1 : Int32)))))))))
def wX2_countShown (M : sy_M) (p1 : Nat) (Q : Int32 → sy_M → Prop) : Prop := ∃ n7 : Nat, wX2_countShown_4  Q n7 M p1 (0 : Int32) (0 : Int32)
section
variable {p : Program} {l : Launch} {e : Env} {s : State} {m : MethodId} {args : Array Value} {below : List Frame} {meth : Method} {c : Code} {Y : sy_Y}
set_option maxHeartbeats 4000000 in
set_option maxRecDepth 100000 in
theorem kX2_countShown_4 (C : sy_C p m c cX2_countShown 4 s args vsX2_countShown RX2 meth (some .int) Y NX tfX) {Q : Int32 → sy_M → Prop} :
    ∀ (n : Nat) (M : sy_M) (x1 : Nat) (x2 : Int32) (x3 : Int32) (hx1 : iX10 x1) (H : Heap) (locs : List Loc) (ls : Array Slot), wX2_countShown_4 Q n M x1 x2 x3 → sy_H Y NX EX s H locs M → lv_has ls 4 [(0, .ref (Y.2.1 9)), (1, .ref (Y.2.1 x1)), (2, .int x2), (3, .int x3)] → W p l e ({ frames := 2, cells := 0, slots := 0, locals := 43 } : Room) s m args below meth c H locs 0 0 (sy_ZI below args s Y NX EX Q) (F0 m 4 ls []) := by
  have hx := C.1.1
  have hb := C.1.2.1
  intro n
  induction n with
  | zero =>
    intro M x1 x2 x3 hx1 H locs ls hq hh hl
    unfold wX2_countShown_4 at hq
    exact hq.elim
  | succ n ih =>
    intro M x1 x2 x3 hx1 H locs ls hq hh hl
    unfold wX2_countShown_4 at hq
    refine lv_iload_n hx hb dX2_countShown_4 rfl (lv_at hl 3 rfl) ?_
    refine lv_aload_n hx hb dX2_countShown_5 rfl (lv_at hl 1 rfl) ?_
    refine sy_get C hh (fun w h => mc (uX_fX10 w h)) x1 (iX10_N hx1) (oX10 hx1) rfl 0 (by decide) (index := 65) (mc uX_130) (v := .int (M x1 0)) rfl dX2_countShown_6 ?_
    refine lv_icmp_ge (tgt := 41) hx hb dX2_countShown_9 (by decide) (fun c1 => ?_) (fun c1 => ?_)
    · have hq := hq.1 c1
      refine lv_iload_n hx hb dX2_countShown_41 rfl (lv_at hl 2 rfl) ?_
      exact sy_iret C hh dX2_countShown_42 hq
    · have hq := hq.2 c1
      refine lv_aload_n hx hb dX2_countShown_12 rfl (lv_at hl 0 rfl) ?_
      refine sy_get C hh (fun w h => mc (uX_fX2 w h)) 9 (by decide) (oX_9 Y) rfl 0 (by decide) (index := 9) (mc uX_96) (v := .int (M 9 0)) rfl dX2_countShown_13 ?_
      refine lv_if_le (tgt := 41) hx hb dX2_countShown_16 (by decide) (fun c2 => ?_) (fun c2 => ?_)
      · have hq := hq.1 c2
        refine lv_iload_n hx hb dX2_countShown_41 rfl (lv_at hl 2 rfl) ?_
        exact sy_iret C hh dX2_countShown_42 hq
      · have hq := hq.2 c2
        refine lv_aload_n hx hb dX2_countShown_19 rfl (lv_at hl 0 rfl) ?_
        refine sy_get C hh (fun w h => mc (uX_fX2 w h)) 9 (by decide) (oX_9 Y) rfl 3 (by decide) (index := 28) (mc uX_101) (v := .ref (Y.2.1 17)) rfl dX2_countShown_20 ?_
        refine lv_aload_n hx hb dX2_countShown_23 rfl (lv_at hl 0 rfl) ?_
        refine lv_iload_n hx hb dX2_countShown_24 rfl (lv_at hl 3 rfl) ?_
        refine sy_cIV C hh (As := [.int x3]) (rest := [.ref (Y.2.1 17)]) 9 (by decide) (oX_9 Y) rfl (mX2_latestCell l Y _ M x3 _ hq) (cwV 1 C.1.2.2.2.2 (sy_goodV uX_good uX_117 uX_118 uX_119 uX_114 uX_110 _) rfl rfl rfl hdX2_latestCell ⟨Nat.le_of_ble_eq_true rfl, Nat.le_of_ble_eq_true rfl⟩) rfl hl.1 rfl (Nat.le_of_ble_eq_true rfl) dX2_countShown_25 (fun r4 M3 H locs hq hh => ?_)
        obtain ⟨n5, hn5, en5, hq⟩ := hq
        refine sy_zald C hh 17 (by decide) (aX_17 Y) tX_17 hn5 en5 (by decide) dX2_countShown_28 ?_
        refine lv_if_eq (tgt := 35) hx hb dX2_countShown_29 (by decide) (fun c6 => ?_) (fun c6 => ?_)
        · have hq := hq.1 c6
          refine lv_iinc (v := (x3 + (1 : Int32))) (lv' := [(3, .int (x3 + (1 : Int32))), (0, .ref (Y.2.1 9)), (1, .ref (Y.2.1 x1)), (2, .int x2)]) hx hb dX2_countShown_35 hl (k := 3) rfl (sy_inc (by decide)) (by decide) rfl (fun ls hl => ?_)
          refine lv_goto (tgt := 4) hx hb dX2_countShown_38 (by decide) ?_
          exact ih M3 x1 x2 (x3 + (1 : Int32)) hx1 _ _ _ hq hh (lv_sub hl [1, 2, 3, 0] rfl)
        · have hq := hq.2 c6
          refine lv_iinc (v := (x2 + (1 : Int32))) (lv' := [(2, .int (x2 + (1 : Int32))), (0, .ref (Y.2.1 9)), (1, .ref (Y.2.1 x1)), (3, .int x3)]) hx hb dX2_countShown_32 hl (k := 2) rfl (sy_inc (by decide)) (by decide) rfl (fun ls hl => ?_)
          refine lv_iinc (v := (x3 + (1 : Int32))) (lv' := [(3, .int (x3 + (1 : Int32))), (2, .int (x2 + (1 : Int32))), (0, .ref (Y.2.1 9)), (1, .ref (Y.2.1 x1))]) hx hb dX2_countShown_35 hl (k := 3) rfl (sy_inc (by decide)) (by decide) rfl (fun ls hl => ?_)
          refine lv_goto (tgt := 4) hx hb dX2_countShown_38 (by decide) ?_
          exact ih M3 x1 (x2 + (1 : Int32)) (x3 + (1 : Int32)) hx1 _ _ _ hq hh (lv_sub hl [2, 3, 1, 0] rfl)

end
set_option maxHeartbeats 4000000 in
set_option maxRecDepth 100000 in
theorem mX2_countShown (l : Launch) (Y : sy_Y) (sz : Nat) (M : sy_M) (p1 : Nat) (hp1 : iX10 p1) (Q : Int32 → sy_M → Prop) (hq : wX2_countShown M p1 Q) : Met l yX2_countShown vsX2_countShown ({ frames := 2, cells := 0, slots := 0, locals := 43 } : Room) (va_Pc [.ref (Y.2.1 9), .ref (Y.2.1 p1)] (sy_pre Y NX EX tfX sz M)) (sy_QI Y NX EX sz Q) 0 0 (sy_A NX Y.2.1 sz) := by
  refine sy_metI (by decide) rfl (Nat.le_of_ble_eq_true rfl) ?_
  intro p e s m args below meth c C ls hl hh
  have hx := C.1.1
  have hb := C.1.2.1
  have hl : lv_has ls 4 [(0, .ref (Y.2.1 9)), (1, .ref (Y.2.1 p1))] := hl
  unfold wX2_countShown at hq
  refine lv_iconst (v := (0 : Int32)) hx hb dX2_countShown_0 (by decide) ?_
  refine lv_istore_n (lv' := [(2, .int (0 : Int32)), (0, .ref (Y.2.1 9)), (1, .ref (Y.2.1 p1))]) hx hb dX2_countShown_1 rfl hl (by decide) rfl (fun ls hl => ?_)
  refine lv_iconst (v := (0 : Int32)) hx hb dX2_countShown_2 (by decide) ?_
  refine lv_istore_n (lv' := [(3, .int (0 : Int32)), (2, .int (0 : Int32)), (0, .ref (Y.2.1 9)), (1, .ref (Y.2.1 p1))]) hx hb dX2_countShown_3 rfl hl (by decide) rfl (fun ls hl => ?_)
  obtain ⟨n7, hq⟩ := hq
  refine kX2_countShown_4 C  n7 M p1 (0 : Int32) (0 : Int32) hp1 _ _ _ hq hh (lv_sub hl [2, 3, 1, 0] rfl)

/-! AreaSetter$Drawings.greatestWorst(LAreaSetter$Tree;)I -/
def wX2_greatestWorst_4 (Q : Int32 → sy_M → Prop) : Nat → sy_M → Nat → Int32 → Int32 → Prop
  | 0, _, _, _, _ => False
  | n + 1, M, x1, x2, x3 => (((M x1 0) ≤ x3 → Q x2 M) ∧ (¬ (M x1 0) ≤ x3 → (((M 9 0) ≤ 0 → Q x2 M) ∧ (¬ (M 9 0) ≤ 0 → wX10_isGroup M x1 x3 (fun r4 M3 => ((r4 = 0 → wX2_greatestWorst_4 Q n M3 x1 x2 (x3 + (1 : Int32))) ∧ (¬ r4 = 0 → ∃ n6 : Nat, n6 < 40 ∧ x3 = nI n6 ∧ wX2_greatestWorst_4 Q n M3 x1 (imax x2 (M3 19 n6)) (x3 + (1 : Int32)))))))))
def wX2_greatestWorst (M : sy_M) (p1 : Nat) (Q : Int32 → sy_M → Prop) : Prop := ∃ n7 : Nat, wX2_greatestWorst_4  Q n7 M p1 (0 : Int32) (0 : Int32)
section
variable {p : Program} {l : Launch} {e : Env} {s : State} {m : MethodId} {args : Array Value} {below : List Frame} {meth : Method} {c : Code} {Y : sy_Y}
set_option maxHeartbeats 4000000 in
set_option maxRecDepth 100000 in
theorem kX2_greatestWorst_4 (C : sy_C p m c cX2_greatestWorst 4 s args vsX2_greatestWorst RX2 meth (some .int) Y NX tfX) {Q : Int32 → sy_M → Prop} :
    ∀ (n : Nat) (M : sy_M) (x1 : Nat) (x2 : Int32) (x3 : Int32) (hx1 : iX10 x1) (H : Heap) (locs : List Loc) (ls : Array Slot), wX2_greatestWorst_4 Q n M x1 x2 x3 → sy_H Y NX EX s H locs M → lv_has ls 4 [(0, .ref (Y.2.1 9)), (1, .ref (Y.2.1 x1)), (2, .int x2), (3, .int x3)] → W p l e ({ frames := 2, cells := 0, slots := 0, locals := 42 } : Room) s m args below meth c H locs 0 0 (sy_ZI below args s Y NX EX Q) (F0 m 4 ls []) := by
  have hx := C.1.1
  have hb := C.1.2.1
  intro n
  induction n with
  | zero =>
    intro M x1 x2 x3 hx1 H locs ls hq hh hl
    unfold wX2_greatestWorst_4 at hq
    exact hq.elim
  | succ n ih =>
    intro M x1 x2 x3 hx1 H locs ls hq hh hl
    unfold wX2_greatestWorst_4 at hq
    refine lv_iload_n hx hb dX2_greatestWorst_4 rfl (lv_at hl 3 rfl) ?_
    refine lv_aload_n hx hb dX2_greatestWorst_5 rfl (lv_at hl 1 rfl) ?_
    refine sy_get C hh (fun w h => mc (uX_fX10 w h)) x1 (iX10_N hx1) (oX10 hx1) rfl 0 (by decide) (index := 65) (mc uX_130) (v := .int (M x1 0)) rfl dX2_greatestWorst_6 ?_
    refine lv_icmp_ge (tgt := 44) hx hb dX2_greatestWorst_9 (by decide) (fun c1 => ?_) (fun c1 => ?_)
    · have hq := hq.1 c1
      refine lv_iload_n hx hb dX2_greatestWorst_44 rfl (lv_at hl 2 rfl) ?_
      exact sy_iret C hh dX2_greatestWorst_45 hq
    · have hq := hq.2 c1
      refine lv_aload_n hx hb dX2_greatestWorst_12 rfl (lv_at hl 0 rfl) ?_
      refine sy_get C hh (fun w h => mc (uX_fX2 w h)) 9 (by decide) (oX_9 Y) rfl 0 (by decide) (index := 9) (mc uX_96) (v := .int (M 9 0)) rfl dX2_greatestWorst_13 ?_
      refine lv_if_le (tgt := 44) hx hb dX2_greatestWorst_16 (by decide) (fun c2 => ?_) (fun c2 => ?_)
      · have hq := hq.1 c2
        refine lv_iload_n hx hb dX2_greatestWorst_44 rfl (lv_at hl 2 rfl) ?_
        exact sy_iret C hh dX2_greatestWorst_45 hq
      · have hq := hq.2 c2
        refine lv_aload_n hx hb dX2_greatestWorst_19 rfl (lv_at hl 1 rfl) ?_
        refine lv_iload_n hx hb dX2_greatestWorst_20 rfl (lv_at hl 3 rfl) ?_
        refine sy_cIV C hh (As := [.int x3]) (rest := []) x1 (iX10_N hx1) (oX10 hx1) rfl (mX10_isGroup l Y _ M x1 hx1 x3 _ hq) (cwV 1 C.1.2.2.2.2 (sy_goodV uX_good uX_126 uX_127 uX_128 uX_20 uX_122 _) rfl rfl rfl hdX10_isGroup ⟨Nat.le_of_ble_eq_true rfl, Nat.le_of_ble_eq_true rfl⟩) rfl hl.1 rfl (Nat.le_of_ble_eq_true rfl) dX2_greatestWorst_21 (fun r4 M3 H locs hq hh => ?_)
        refine lv_if_eq (tgt := 38) hx hb dX2_greatestWorst_24 (by decide) (fun c5 => ?_) (fun c5 => ?_)
        · have hq := hq.1 c5
          refine lv_iinc (v := (x3 + (1 : Int32))) (lv' := [(3, .int (x3 + (1 : Int32))), (0, .ref (Y.2.1 9)), (1, .ref (Y.2.1 x1)), (2, .int x2)]) hx hb dX2_greatestWorst_38 hl (k := 3) rfl (sy_inc (by decide)) (by decide) rfl (fun ls hl => ?_)
          refine lv_goto (tgt := 4) hx hb dX2_greatestWorst_41 (by decide) ?_
          exact ih M3 x1 x2 (x3 + (1 : Int32)) hx1 _ _ _ hq hh (lv_sub hl [1, 2, 3, 0] rfl)
        · have hq := hq.2 c5
          refine lv_iload_n hx hb dX2_greatestWorst_27 rfl (lv_at hl 2 rfl) ?_
          refine lv_aload_n hx hb dX2_greatestWorst_28 rfl (lv_at hl 0 rfl) ?_
          refine sy_get C hh (fun w h => mc (uX_fX2 w h)) 9 (by decide) (oX_9 Y) rfl 5 (by decide) (index := 35) (mc uX_103) (v := .ref (Y.2.1 19)) rfl dX2_greatestWorst_29 ?_
          refine lv_iload_n hx hb dX2_greatestWorst_32 rfl (lv_at hl 3 rfl) ?_
          obtain ⟨n6, hn6, en6, hq⟩ := hq
          refine sy_iald C hh 19 (by decide) (aX_19 Y) tX_19 hn6 en6 (by decide) dX2_greatestWorst_33 ?_
          refine sy_mmax C hl (index := 67) (mc uX_132) (mc uX_24) (mc uX_25) (mc uX_26) (by decide) (Nat.le_of_ble_eq_true rfl) dX2_greatestWorst_34 ?_
          refine lv_istore_n (lv' := [(2, .int (imax x2 (M3 19 n6))), (0, .ref (Y.2.1 9)), (1, .ref (Y.2.1 x1)), (3, .int x3)]) hx hb dX2_greatestWorst_37 rfl hl (by decide) rfl (fun ls hl => ?_)
          refine lv_iinc (v := (x3 + (1 : Int32))) (lv' := [(3, .int (x3 + (1 : Int32))), (2, .int (imax x2 (M3 19 n6))), (0, .ref (Y.2.1 9)), (1, .ref (Y.2.1 x1))]) hx hb dX2_greatestWorst_38 hl (k := 3) rfl (sy_inc (by decide)) (by decide) rfl (fun ls hl => ?_)
          refine lv_goto (tgt := 4) hx hb dX2_greatestWorst_41 (by decide) ?_
          exact ih M3 x1 (imax x2 (M3 19 n6)) (x3 + (1 : Int32)) hx1 _ _ _ hq hh (lv_sub hl [2, 3, 1, 0] rfl)

end
set_option maxHeartbeats 4000000 in
set_option maxRecDepth 100000 in
theorem mX2_greatestWorst (l : Launch) (Y : sy_Y) (sz : Nat) (M : sy_M) (p1 : Nat) (hp1 : iX10 p1) (Q : Int32 → sy_M → Prop) (hq : wX2_greatestWorst M p1 Q) : Met l yX2_greatestWorst vsX2_greatestWorst ({ frames := 2, cells := 0, slots := 0, locals := 42 } : Room) (va_Pc [.ref (Y.2.1 9), .ref (Y.2.1 p1)] (sy_pre Y NX EX tfX sz M)) (sy_QI Y NX EX sz Q) 0 0 (sy_A NX Y.2.1 sz) := by
  refine sy_metI (by decide) rfl (Nat.le_of_ble_eq_true rfl) ?_
  intro p e s m args below meth c C ls hl hh
  have hx := C.1.1
  have hb := C.1.2.1
  have hl : lv_has ls 4 [(0, .ref (Y.2.1 9)), (1, .ref (Y.2.1 p1))] := hl
  unfold wX2_greatestWorst at hq
  refine lv_iconst (v := (0 : Int32)) hx hb dX2_greatestWorst_0 (by decide) ?_
  refine lv_istore_n (lv' := [(2, .int (0 : Int32)), (0, .ref (Y.2.1 9)), (1, .ref (Y.2.1 p1))]) hx hb dX2_greatestWorst_1 rfl hl (by decide) rfl (fun ls hl => ?_)
  refine lv_iconst (v := (0 : Int32)) hx hb dX2_greatestWorst_2 (by decide) ?_
  refine lv_istore_n (lv' := [(3, .int (0 : Int32)), (2, .int (0 : Int32)), (0, .ref (Y.2.1 9)), (1, .ref (Y.2.1 p1))]) hx hb dX2_greatestWorst_3 rfl hl (by decide) rfl (fun ls hl => ?_)
  obtain ⟨n7, hq⟩ := hq
  refine kX2_greatestWorst_4 C  n7 M p1 (0 : Int32) (0 : Int32) hp1 _ _ _ hq hh (lv_sub hl [2, 3, 1, 0] rfl)

/-! AreaSetter.count(I)I -/
def wX11_count (M : sy_M) (a1 : Int32) (Q : Int32 → sy_M → Prop) : Prop := ((a1 = (0 : Int32) → ∃ t2 : Nat, (M 0 6) = nI t2 ∧ iX10 t2 ∧ Q (M t2 0) M) ∧ (¬ a1 = (0 : Int32) → ((a1 = (1 : Int32) → ∃ t4 : Nat, (M 0 6) = nI t4 ∧ iX10 t4 ∧ Q (M t4 1) M) ∧ (¬ a1 = (1 : Int32) → ((a1 = (nI 2) → Q (M 4 0) M) ∧ (¬ a1 = (nI 2) → ((a1 = (nI 3) → Q (M 9 0) M) ∧ (¬ a1 = (nI 3) → ((a1 = (nI 4) → Q (M 1 0) M) ∧ (¬ a1 = (nI 4) → ((a1 = (nI 5) → ∃ t9 : Nat, (M 0 6) = nI t9 ∧ iX10 t9 ∧ wX2_countShown M t9 (fun r11 M10 => Q r11 M10)) ∧ (¬ a1 = (nI 5) → ((a1 = (nI 6) → ∃ t13 : Nat, (M 0 6) = nI t13 ∧ iX10 t13 ∧ wX2_greatestWorst M t13 (fun r15 M14 => Q r15 M14)) ∧ (¬ a1 = (nI 6) → Q (-1 : Int32) M))))))))))))))
section
variable {p : Program} {l : Launch} {e : Env} {s : State} {m : MethodId} {args : Array Value} {below : List Frame} {meth : Method} {c : Code} {Y : sy_Y}
end
set_option maxHeartbeats 4000000 in
set_option maxRecDepth 100000 in
theorem mX11_count (l : Launch) (Y : sy_Y) (sz : Nat) (M : sy_M) (a1 : Int32) (Q : Int32 → sy_M → Prop) (hq : wX11_count M a1 Q) : Met l yX11_count vsX11_count ({ frames := 3, cells := 0, slots := 0, locals := 66 } : Room) (va_Pc [.ref (Y.2.1 0), .int a1] (sy_pre Y NX EX tfX sz M)) (sy_QI Y NX EX sz Q) 0 0 (sy_A NX Y.2.1 sz) := by
  refine sy_metI (by decide) rfl (Nat.le_of_ble_eq_true rfl) ?_
  intro p e s m args below meth c C ls hl hh
  have hx := C.1.1
  have hb := C.1.2.1
  have hl : lv_has ls 2 [(0, .ref (Y.2.1 0)), (1, .int a1)] := hl
  unfold wX11_count at hq
  refine lv_iload_n hx hb dX11_count_0 rfl (lv_at hl 1 rfl) ?_
  by_cases c1 : a1 = (0 : Int32)
  · have hq := hq.1 c1
    refine lv_tableIn (tgt := 44) (off := 43) hx hb dX11_count_1 (by rw [c1]; decide) (by rw [c1]; decide) (by rw [c1]; rfl) (by decide) ?_
    refine lv_aload_n hx hb dX11_count_44 rfl (lv_at hl 0 rfl) ?_
    obtain ⟨t2, et2, ht2, hq⟩ := hq
    refine sy_get C hh (fun w h => mc (uX_fX11 w h)) 0 (by decide) (oX_0 Y) rfl 6 (by decide) (index := 49) (mc uX_498) (v := .ref (Y.2.1 t2)) (sy_rf_of et2 (by have := iX10_lt ht2; omega)) dX11_count_45 ?_
    refine sy_get C hh (fun w h => mc (uX_fX10 w h)) t2 (iX10_N ht2) (oX10 ht2) rfl 0 (by decide) (index := 89) (mc uX_521) (v := .int (M t2 0)) rfl dX11_count_48 ?_
    exact sy_iret C hh dX11_count_51 hq
  · have hq := hq.2 c1
    by_cases c3 : a1 = (1 : Int32)
    · have hq := hq.1 c3
      refine lv_tableIn (tgt := 52) (off := 51) hx hb dX11_count_1 (by rw [c3]; decide) (by rw [c3]; decide) (by rw [c3]; rfl) (by decide) ?_
      refine lv_aload_n hx hb dX11_count_52 rfl (lv_at hl 0 rfl) ?_
      obtain ⟨t4, et4, ht4, hq⟩ := hq
      refine sy_get C hh (fun w h => mc (uX_fX11 w h)) 0 (by decide) (oX_0 Y) rfl 6 (by decide) (index := 49) (mc uX_498) (v := .ref (Y.2.1 t4)) (sy_rf_of et4 (by have := iX10_lt ht4; omega)) dX11_count_53 ?_
      refine sy_get C hh (fun w h => mc (uX_fX10 w h)) t4 (iX10_N ht4) (oX10 ht4) rfl 1 (by decide) (index := 222) (mc uX_603) (v := .int (M t4 1)) rfl dX11_count_56 ?_
      exact sy_iret C hh dX11_count_59 hq
    · have hq := hq.2 c3
      by_cases c5 : a1 = (nI 2)
      · have hq := hq.1 c5
        refine lv_tableIn (tgt := 60) (off := 59) hx hb dX11_count_1 (by rw [c5]; decide) (by rw [c5]; decide) (by rw [c5]; rfl) (by decide) ?_
        refine lv_aload_n hx hb dX11_count_60 rfl (lv_at hl 0 rfl) ?_
        refine sy_get C hh (fun w h => mc (uX_fX11 w h)) 0 (by decide) (oX_0 Y) rfl 2 (by decide) (index := 24) (mc uX_489) (v := .ref (Y.2.1 4)) rfl dX11_count_61 ?_
        refine sy_get C hh (fun w h => mc (uX_fX0 w h)) 4 (by decide) (oX_4 Y) rfl 0 (by decide) (index := 83) (mc uX_519) (v := .int (M 4 0)) rfl dX11_count_64 ?_
        exact sy_iret C hh dX11_count_67 hq
      · have hq := hq.2 c5
        by_cases c6 : a1 = (nI 3)
        · have hq := hq.1 c6
          refine lv_tableIn (tgt := 68) (off := 67) hx hb dX11_count_1 (by rw [c6]; decide) (by rw [c6]; decide) (by rw [c6]; rfl) (by decide) ?_
          refine lv_aload_n hx hb dX11_count_68 rfl (lv_at hl 0 rfl) ?_
          refine sy_get C hh (fun w h => mc (uX_fX11 w h)) 0 (by decide) (oX_0 Y) rfl 3 (by decide) (index := 31) (mc uX_492) (v := .ref (Y.2.1 9)) rfl dX11_count_69 ?_
          refine sy_get C hh (fun w h => mc (uX_fX2 w h)) 9 (by decide) (oX_9 Y) rfl 0 (by decide) (index := 86) (mc uX_520) (v := .int (M 9 0)) rfl dX11_count_72 ?_
          exact sy_iret C hh dX11_count_75 hq
        · have hq := hq.2 c6
          by_cases c7 : a1 = (nI 4)
          · have hq := hq.1 c7
            refine lv_tableIn (tgt := 76) (off := 75) hx hb dX11_count_1 (by rw [c7]; decide) (by rw [c7]; decide) (by rw [c7]; rfl) (by decide) ?_
            refine lv_aload_n hx hb dX11_count_76 rfl (lv_at hl 0 rfl) ?_
            refine sy_get C hh (fun w h => mc (uX_fX11 w h)) 0 (by decide) (oX_0 Y) rfl 1 (by decide) (index := 20) (mc uX_485) (v := .ref (Y.2.1 1)) rfl dX11_count_77 ?_
            refine sy_get C hh (fun w h => mc (uX_fX9 w h)) 1 (by decide) (oX_1 Y) rfl 0 (by decide) (index := 67) (mc uX_513) (v := .int (M 1 0)) rfl dX11_count_80 ?_
            exact sy_iret C hh dX11_count_83 hq
          · have hq := hq.2 c7
            by_cases c8 : a1 = (nI 5)
            · have hq := hq.1 c8
              refine lv_tableIn (tgt := 84) (off := 83) hx hb dX11_count_1 (by rw [c8]; decide) (by rw [c8]; decide) (by rw [c8]; rfl) (by decide) ?_
              refine lv_aload_n hx hb dX11_count_84 rfl (lv_at hl 0 rfl) ?_
              refine sy_get C hh (fun w h => mc (uX_fX11 w h)) 0 (by decide) (oX_0 Y) rfl 3 (by decide) (index := 31) (mc uX_492) (v := .ref (Y.2.1 9)) rfl dX11_count_85 ?_
              refine lv_aload_n hx hb dX11_count_88 rfl (lv_at hl 0 rfl) ?_
              obtain ⟨t9, et9, ht9, hq⟩ := hq
              refine sy_get C hh (fun w h => mc (uX_fX11 w h)) 0 (by decide) (oX_0 Y) rfl 6 (by decide) (index := 49) (mc uX_498) (v := .ref (Y.2.1 t9)) (sy_rf_of et9 (by have := iX10_lt ht9; omega)) dX11_count_89 ?_
              refine sy_cIV C hh (As := [.ref (Y.2.1 t9)]) (rest := []) 9 (by decide) (oX_9 Y) rfl (mX2_countShown l Y _ M t9 ht9 _ hq) (cwV 1 C.1.2.2.2.2 (sy_goodV uX_good uX_604 uX_605 uX_606 uX_114 uX_129 _) rfl rfl rfl hdX2_countShown ⟨Nat.le_of_ble_eq_true rfl, Nat.le_of_ble_eq_true rfl⟩) rfl hl.1 rfl (Nat.le_of_ble_eq_true rfl) dX11_count_92 (fun r11 M10 H locs hq hh => ?_)
              exact sy_iret C hh dX11_count_95 hq
            · have hq := hq.2 c8
              by_cases c12 : a1 = (nI 6)
              · have hq := hq.1 c12
                refine lv_tableIn (tgt := 96) (off := 95) hx hb dX11_count_1 (by rw [c12]; decide) (by rw [c12]; decide) (by rw [c12]; rfl) (by decide) ?_
                refine lv_aload_n hx hb dX11_count_96 rfl (lv_at hl 0 rfl) ?_
                refine sy_get C hh (fun w h => mc (uX_fX11 w h)) 0 (by decide) (oX_0 Y) rfl 3 (by decide) (index := 31) (mc uX_492) (v := .ref (Y.2.1 9)) rfl dX11_count_97 ?_
                refine lv_aload_n hx hb dX11_count_100 rfl (lv_at hl 0 rfl) ?_
                obtain ⟨t13, et13, ht13, hq⟩ := hq
                refine sy_get C hh (fun w h => mc (uX_fX11 w h)) 0 (by decide) (oX_0 Y) rfl 6 (by decide) (index := 49) (mc uX_498) (v := .ref (Y.2.1 t13)) (sy_rf_of et13 (by have := iX10_lt ht13; omega)) dX11_count_101 ?_
                refine sy_cIV C hh (As := [.ref (Y.2.1 t13)]) (rest := []) 9 (by decide) (oX_9 Y) rfl (mX2_greatestWorst l Y _ M t13 ht13 _ hq) (cwV 1 C.1.2.2.2.2 (sy_goodV uX_good uX_607 uX_608 uX_609 uX_114 uX_131 _) rfl rfl rfl hdX2_greatestWorst ⟨Nat.le_of_ble_eq_true rfl, Nat.le_of_ble_eq_true rfl⟩) rfl hl.1 rfl (Nat.le_of_ble_eq_true rfl) dX11_count_104 (fun r15 M14 H locs hq hh => ?_)
                exact sy_iret C hh dX11_count_107 hq
              · have hq := hq.2 c12
                refine lv_tableOut (tgt := 108) hx hb dX11_count_1 (by have := lv_neT c1 (a := 0) (by decide); have := lv_neT c3 (a := 1) (by decide); have := lv_neT c5 (a := 2) (by decide); have := lv_neT c6 (a := 3) (by decide); have := lv_neT c7 (a := 4) (by decide); have := lv_neT c8 (a := 5) (by decide); have := lv_neT c12 (a := 6) (by decide); omega) (by decide) ?_
                refine lv_iconst (v := (-1 : Int32)) hx hb dX11_count_108 (by decide) ?_
                exact sy_iret C hh dX11_count_109 hq

/-! AreaSetter$Drawings.keeps(I)Z -/
def wX2_keeps (M : sy_M) (a1 : Int32) (Q : Int32 → sy_M → Prop) : Prop := ((a1 < 0 → Q (0 : Int32) M) ∧ (¬ a1 < 0 → (((M 9 0) ≤ a1 → Q (0 : Int32) M) ∧ (¬ (M 9 0) ≤ a1 → ((a1 < ((M 9 0) - (nI 50)) → Q (0 : Int32) M) ∧ (¬ a1 < ((M 9 0) - (nI 50)) → Q (1 : Int32) M))))))
section
variable {p : Program} {l : Launch} {e : Env} {s : State} {m : MethodId} {args : Array Value} {below : List Frame} {meth : Method} {c : Code} {Y : sy_Y}
end
set_option maxHeartbeats 4000000 in
set_option maxRecDepth 100000 in
theorem mX2_keeps (l : Launch) (Y : sy_Y) (sz : Nat) (M : sy_M) (a1 : Int32) (Q : Int32 → sy_M → Prop) (hq : wX2_keeps M a1 Q) : Met l yX2_keeps vsX2_keeps ({ frames := 0, cells := 0, slots := 0, locals := 0 } : Room) (va_Pc [.ref (Y.2.1 9), .int a1] (sy_pre Y NX EX tfX sz M)) (sy_QI Y NX EX sz Q) 0 0 (sy_A NX Y.2.1 sz) := by
  refine sy_metI (by decide) rfl (Nat.le_of_ble_eq_true rfl) ?_
  intro p e s m args below meth c C ls hl hh
  have hx := C.1.1
  have hb := C.1.2.1
  have hl : lv_has ls 2 [(0, .ref (Y.2.1 9)), (1, .int a1)] := hl
  unfold wX2_keeps at hq
  refine lv_iload_n hx hb dX2_keeps_0 rfl (lv_at hl 1 rfl) ?_
  refine lv_if_lt (tgt := 27) hx hb dX2_keeps_1 (by decide) (fun c1 => ?_) (fun c1 => ?_)
  · have hq := hq.1 c1
    refine lv_iconst (v := (0 : Int32)) hx hb dX2_keeps_27 (by decide) ?_
    exact sy_zret C hh dX2_keeps_28 (by decide) hq
  · have hq := hq.2 c1
    refine lv_iload_n hx hb dX2_keeps_4 rfl (lv_at hl 1 rfl) ?_
    refine lv_aload_n hx hb dX2_keeps_5 rfl (lv_at hl 0 rfl) ?_
    refine sy_get C hh (fun w h => mc (uX_fX2 w h)) 9 (by decide) (oX_9 Y) rfl 0 (by decide) (index := 9) (mc uX_96) (v := .int (M 9 0)) rfl dX2_keeps_6 ?_
    refine lv_icmp_ge (tgt := 27) hx hb dX2_keeps_9 (by decide) (fun c2 => ?_) (fun c2 => ?_)
    · have hq := hq.1 c2
      refine lv_iconst (v := (0 : Int32)) hx hb dX2_keeps_27 (by decide) ?_
      exact sy_zret C hh dX2_keeps_28 (by decide) hq
    · have hq := hq.2 c2
      refine lv_iload_n hx hb dX2_keeps_12 rfl (lv_at hl 1 rfl) ?_
      refine lv_aload_n hx hb dX2_keeps_13 rfl (lv_at hl 0 rfl) ?_
      refine sy_get C hh (fun w h => mc (uX_fX2 w h)) 9 (by decide) (oX_9 Y) rfl 0 (by decide) (index := 9) (mc uX_96) (v := .int (M 9 0)) rfl dX2_keeps_14 ?_
      refine lv_bipush (v := (nI 50)) hx hb dX2_keeps_17 (by decide) ?_
      refine lv_isub hx hb dX2_keeps_19 ?_
      refine lv_icmp_lt (tgt := 27) hx hb dX2_keeps_20 (by decide) (fun c3 => ?_) (fun c3 => ?_)
      · have hq := hq.1 c3
        refine lv_iconst (v := (0 : Int32)) hx hb dX2_keeps_27 (by decide) ?_
        exact sy_zret C hh dX2_keeps_28 (by decide) hq
      · have hq := hq.2 c3
        refine lv_iconst (v := (1 : Int32)) hx hb dX2_keeps_23 (by decide) ?_
        refine lv_goto (tgt := 28) hx hb dX2_keeps_24 (by decide) ?_
        exact sy_zret C hh dX2_keeps_28 (by decide) hq

