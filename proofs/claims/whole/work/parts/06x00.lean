/-! AreaSetter.isFrom(III)Z -/
def wX11_isFrom (M : sy_M) (a1 : Int32) (a2 : Int32) (a3 : Int32) (Q : Int32 → sy_M → Prop) : Prop := ((a3 < a1 → Q (0 : Int32) M) ∧ (¬ a3 < a1 → ((a2 < a3 → Q (0 : Int32) M) ∧ (¬ a2 < a3 → Q (1 : Int32) M))))
section
variable {p : Program} {l : Launch} {e : Env} {s : State} {m : MethodId} {args : Array Value} {below : List Frame} {meth : Method} {c : Code} {Y : sy_Y}
end
set_option maxHeartbeats 4000000 in
set_option maxRecDepth 100000 in
theorem mX11_isFrom (l : Launch) (Y : sy_Y) (sz : Nat) (M : sy_M) (a1 : Int32) (a2 : Int32) (a3 : Int32) (Q : Int32 → sy_M → Prop) (hq : wX11_isFrom M a1 a2 a3 Q) : Met l yX11_isFrom vsX11_isFrom ({ frames := 0, cells := 0, slots := 0, locals := 0 } : Room) (va_Pc [.int a1, .int a2, .int a3] (sy_pre Y NX EX tfX sz M)) (sy_QI Y NX EX sz Q) 0 0 (sy_A NX Y.2.1 sz) := by
  refine sy_metI (by decide) rfl (Nat.le_of_ble_eq_true rfl) ?_
  intro p e s m args below meth c C ls hl hh
  have hx := C.1.1
  have hb := C.1.2.1
  have hl : lv_has ls 3 [(0, .int a1), (1, .int a2), (2, .int a3)] := hl
  unfold wX11_isFrom at hq
  refine lv_iload_n hx hb dX11_isFrom_0 rfl (lv_at hl 2 rfl) ?_
  refine lv_iload_n hx hb dX11_isFrom_1 rfl (lv_at hl 0 rfl) ?_
  refine lv_icmp_lt (tgt := 14) hx hb dX11_isFrom_2 (by decide) (fun c1 => ?_) (fun c1 => ?_)
  · have hq := hq.1 c1
    refine lv_iconst (v := (0 : Int32)) hx hb dX11_isFrom_14 (by decide) ?_
    exact sy_zret C hh dX11_isFrom_15 (by decide) hq
  · have hq := hq.2 c1
    refine lv_iload_n hx hb dX11_isFrom_5 rfl (lv_at hl 2 rfl) ?_
    refine lv_iload_n hx hb dX11_isFrom_6 rfl (lv_at hl 1 rfl) ?_
    refine lv_icmp_gt (tgt := 14) hx hb dX11_isFrom_7 (by decide) (fun c2 => ?_) (fun c2 => ?_)
    · have hq := hq.1 c2
      refine lv_iconst (v := (0 : Int32)) hx hb dX11_isFrom_14 (by decide) ?_
      exact sy_zret C hh dX11_isFrom_15 (by decide) hq
    · have hq := hq.2 c2
      refine lv_iconst (v := (1 : Int32)) hx hb dX11_isFrom_10 (by decide) ?_
      refine lv_goto (tgt := 15) hx hb dX11_isFrom_11 (by decide) ?_
      exact sy_zret C hh dX11_isFrom_15 (by decide) hq

/-! AreaSetter.sheet(II)Z -/
def wX11_sheet (M : sy_M) (a1 : Int32) (a2 : Int32) (Q : Int32 → sy_M → Prop) : Prop := wX11_isFrom M (1 : Int32) (nI 3000) a1 (fun r2 M1 => ((r2 = 0 → Q (0 : Int32) M1) ∧ (¬ r2 = 0 → wX11_isFrom M1 (1 : Int32) (nI 3000) a2 (fun r5 M4 => ((¬ r5 = 0 → Q (1 : Int32) (mu (mu M4 0 8 a1) 0 9 a2)) ∧ (r5 = 0 → Q (0 : Int32) M4))))))
section
variable {p : Program} {l : Launch} {e : Env} {s : State} {m : MethodId} {args : Array Value} {below : List Frame} {meth : Method} {c : Code} {Y : sy_Y}
end
set_option maxHeartbeats 4000000 in
set_option maxRecDepth 100000 in
theorem mX11_sheet (l : Launch) (Y : sy_Y) (sz : Nat) (M : sy_M) (a1 : Int32) (a2 : Int32) (Q : Int32 → sy_M → Prop) (hq : wX11_sheet M a1 a2 Q) : Met l yX11_sheet vsX11_sheet ({ frames := 1, cells := 0, slots := 0, locals := 22 } : Room) (va_Pc [.ref (Y.2.1 0), .int a1, .int a2] (sy_pre Y NX EX tfX sz M)) (sy_QI Y NX EX sz Q) 0 0 (sy_A NX Y.2.1 sz) := by
  refine sy_metI (by decide) rfl (Nat.le_of_ble_eq_true rfl) ?_
  intro p e s m args below meth c C ls hl hh
  have hx := C.1.1
  have hb := C.1.2.1
  have hl : lv_has ls 3 [(0, .ref (Y.2.1 0)), (1, .int a1), (2, .int a2)] := hl
  unfold wX11_sheet at hq
  refine lv_iconst (v := (1 : Int32)) hx hb dX11_sheet_0 (by decide) ?_
  refine lv_sipush (v := (nI 3000)) hx hb dX11_sheet_1 (by decide) ?_
  refine lv_iload_n hx hb dX11_sheet_4 rfl (lv_at hl 1 rfl) ?_
  refine sy_cIS C hh (As := [.int (1 : Int32), .int (nI 3000), .int a1]) (rest := []) (mX11_isFrom l Y _ M (1 : Int32) (nI 3000) a1 _ hq) (va_cwS 3 C.1.2.2.2.2 (sy_goodS uX_good uX_508 uX_509 uX_58 uX_506 _) rfl rfl rfl hdX11_isFrom.2 ⟨Nat.le_of_ble_eq_true rfl, Nat.le_of_ble_eq_true rfl⟩) rfl hl.1 rfl (Nat.le_of_ble_eq_true rfl) dX11_sheet_5 (fun r2 M1 H locs hq hh => ?_)
  refine lv_if_eq (tgt := 22) hx hb dX11_sheet_8 (by decide) (fun c3 => ?_) (fun c3 => ?_)
  · have hq := hq.1 c3
    refine lv_iconst (v := (0 : Int32)) hx hb dX11_sheet_22 (by decide) ?_
    exact sy_zret C hh dX11_sheet_23 (by decide) hq
  · have hq := hq.2 c3
    refine lv_iconst (v := (1 : Int32)) hx hb dX11_sheet_11 (by decide) ?_
    refine lv_sipush (v := (nI 3000)) hx hb dX11_sheet_12 (by decide) ?_
    refine lv_iload_n hx hb dX11_sheet_15 rfl (lv_at hl 2 rfl) ?_
    refine sy_cIS C hh (As := [.int (1 : Int32), .int (nI 3000), .int a2]) (rest := []) (mX11_isFrom l Y _ M1 (1 : Int32) (nI 3000) a2 _ hq) (va_cwS 3 C.1.2.2.2.2 (sy_goodS uX_good uX_508 uX_509 uX_58 uX_506 _) rfl rfl rfl hdX11_isFrom.2 ⟨Nat.le_of_ble_eq_true rfl, Nat.le_of_ble_eq_true rfl⟩) rfl hl.1 rfl (Nat.le_of_ble_eq_true rfl) dX11_sheet_16 (fun r5 M4 H locs hq hh => ?_)
    refine lv_if_ne (tgt := 24) hx hb dX11_sheet_19 (by decide) (fun c6 => ?_) (fun c6 => ?_)
    · have hq := hq.1 c6
      refine lv_aload_n hx hb dX11_sheet_24 rfl (lv_at hl 0 rfl) ?_
      refine lv_iload_n hx hb dX11_sheet_25 rfl (lv_at hl 1 rfl) ?_
      refine sy_put C hh (fun w h => mc (uX_fX11 w h)) tyX11 tyX11_ok nmX11 0 (by decide) (oX_0 Y) rfl 7 (by decide) (index := 53) (mc uX_499) rfl 8 a1 (ty := .int) (tyX11_ok 7 (by decide)) rfl rfl (Nat.le_of_ble_eq_true rfl) (pX11_7 Y _ _ _) dX11_sheet_26 (fun H locs hh => ?_)
      refine lv_aload_n hx hb dX11_sheet_29 rfl (lv_at hl 0 rfl) ?_
      refine lv_iload_n hx hb dX11_sheet_30 rfl (lv_at hl 2 rfl) ?_
      refine sy_put C hh (fun w h => mc (uX_fX11 w h)) tyX11 tyX11_ok nmX11 0 (by decide) (oX_0 Y) rfl 8 (by decide) (index := 57) (mc uX_500) rfl 9 a2 (ty := .int) (tyX11_ok 8 (by decide)) rfl rfl (Nat.le_of_ble_eq_true rfl) (pX11_8 Y _ _ _) dX11_sheet_31 (fun H locs hh => ?_)
      refine lv_iconst (v := (1 : Int32)) hx hb dX11_sheet_34 (by decide) ?_
      exact sy_zret C hh dX11_sheet_35 (by decide) hq
    · have hq := hq.2 c6
      refine lv_iconst (v := (0 : Int32)) hx hb dX11_sheet_22 (by decide) ?_
      exact sy_zret C hh dX11_sheet_23 (by decide) hq

/-! AreaSetter.price(I)Z -/
def wX11_price (M : sy_M) (a1 : Int32) (Q : Int32 → sy_M → Prop) : Prop := wX11_isFrom M (0 : Int32) (nI 1000) a1 (fun r2 M1 => ((¬ r2 = 0 → Q (1 : Int32) (mu M1 27 0 a1)) ∧ (r2 = 0 → Q (0 : Int32) M1)))
section
variable {p : Program} {l : Launch} {e : Env} {s : State} {m : MethodId} {args : Array Value} {below : List Frame} {meth : Method} {c : Code} {Y : sy_Y}
end
set_option maxHeartbeats 4000000 in
set_option maxRecDepth 100000 in
theorem mX11_price (l : Launch) (Y : sy_Y) (sz : Nat) (M : sy_M) (a1 : Int32) (Q : Int32 → sy_M → Prop) (hq : wX11_price M a1 Q) : Met l yX11_price vsX11_price ({ frames := 1, cells := 0, slots := 0, locals := 22 } : Room) (va_Pc [.ref (Y.2.1 0), .int a1] (sy_pre Y NX EX tfX sz M)) (sy_QI Y NX EX sz Q) 0 0 (sy_A NX Y.2.1 sz) := by
  refine sy_metI (by decide) rfl (Nat.le_of_ble_eq_true rfl) ?_
  intro p e s m args below meth c C ls hl hh
  have hx := C.1.1
  have hb := C.1.2.1
  have hl : lv_has ls 2 [(0, .ref (Y.2.1 0)), (1, .int a1)] := hl
  unfold wX11_price at hq
  refine lv_iconst (v := (0 : Int32)) hx hb dX11_price_0 (by decide) ?_
  refine lv_sipush (v := (nI 1000)) hx hb dX11_price_1 (by decide) ?_
  refine lv_iload_n hx hb dX11_price_4 rfl (lv_at hl 1 rfl) ?_
  refine sy_cIS C hh (As := [.int (0 : Int32), .int (nI 1000), .int a1]) (rest := []) (mX11_isFrom l Y _ M (0 : Int32) (nI 1000) a1 _ hq) (va_cwS 3 C.1.2.2.2.2 (sy_goodS uX_good uX_508 uX_509 uX_58 uX_506 _) rfl rfl rfl hdX11_isFrom.2 ⟨Nat.le_of_ble_eq_true rfl, Nat.le_of_ble_eq_true rfl⟩) rfl hl.1 rfl (Nat.le_of_ble_eq_true rfl) dX11_price_5 (fun r2 M1 H locs hq hh => ?_)
  refine lv_if_ne (tgt := 13) hx hb dX11_price_8 (by decide) (fun c3 => ?_) (fun c3 => ?_)
  · have hq := hq.1 c3
    refine lv_aload_n hx hb dX11_price_13 rfl (lv_at hl 0 rfl) ?_
    refine sy_get C hh (fun w h => mc (uX_fX11 w h)) 0 (by decide) (oX_0 Y) rfl 4 (by decide) (index := 38) (mc uX_495) (v := .ref (Y.2.1 27)) rfl dX11_price_14 ?_
    refine lv_iload_n hx hb dX11_price_17 rfl (lv_at hl 1 rfl) ?_
    refine sy_put C hh (fun w h => mc (uX_fX4 w h)) tyX4 tyX4_ok nmX4 27 (by decide) (oX_27 Y) rfl 0 (by decide) (index := 64) (mc uX_511) rfl 0 a1 (ty := .int) (tyX4_ok 0 (by decide)) rfl rfl (Nat.le_of_ble_eq_true rfl) (pX4_0 Y _ _ _) dX11_price_18 (fun H locs hh => ?_)
    refine lv_iconst (v := (1 : Int32)) hx hb dX11_price_21 (by decide) ?_
    exact sy_zret C hh dX11_price_22 (by decide) hq
  · have hq := hq.2 c3
    refine lv_iconst (v := (0 : Int32)) hx hb dX11_price_11 (by decide) ?_
    exact sy_zret C hh dX11_price_12 (by decide) hq

/-! AreaSetter$Tape.add(I)V -/
def wX9_add (M : sy_M) (a1 : Int32) (Q : sy_M → Prop) : Prop := (((M 1 0) ≤ (nI 996) → ∃ n2 : Nat, n2 < 1000 ∧ (M 1 0) = nI n2 ∧ ∃ n3 : Nat, n3 < 1000 ∧ ((M 1 0) + (1 : Int32)) = nI n3 ∧ ∃ n4 : Nat, n4 < 1000 ∧ ((M 1 0) + (nI 2)) = nI n4 ∧ ∃ n5 : Nat, n5 < 1000 ∧ ((M 1 0) + (nI 3)) = nI n5 ∧ Q (mu (mu (mu (mu (mu M 2 n2 (vp_nar .byte ((a1 >>> ((nI 24) &&& 31)).toInt8.toInt32))) 2 n3 (vp_nar .byte ((a1 >>> ((nI 16) &&& 31)).toInt8.toInt32))) 2 n4 (vp_nar .byte ((a1 >>> ((nI 8) &&& 31)).toInt8.toInt32))) 2 n5 (vp_nar .byte (a1.toInt8.toInt32))) 1 0 ((M 1 0) + (nI 4)))) ∧ (¬ (M 1 0) ≤ (nI 996) → Q M))
section
variable {p : Program} {l : Launch} {e : Env} {s : State} {m : MethodId} {args : Array Value} {below : List Frame} {meth : Method} {c : Code} {Y : sy_Y}
end
set_option maxHeartbeats 4000000 in
set_option maxRecDepth 100000 in
theorem mX9_add (l : Launch) (Y : sy_Y) (sz : Nat) (M : sy_M) (a1 : Int32) (Q : sy_M → Prop) (hq : wX9_add M a1 Q) : Met l yX9_add vsX9_add ({ frames := 0, cells := 0, slots := 0, locals := 0 } : Room) (va_Pc [.ref (Y.2.1 1), .int a1] (sy_pre Y NX EX tfX sz M)) (sy_QV Y NX EX sz Q) 0 0 (sy_A NX Y.2.1 sz) := by
  refine sy_metV (by decide) rfl (Nat.le_of_ble_eq_true rfl) ?_
  intro p e s m args below meth c C ls hl hh
  have hx := C.1.1
  have hb := C.1.2.1
  have hl : lv_has ls 2 [(0, .ref (Y.2.1 1)), (1, .int a1)] := hl
  unfold wX9_add at hq
  refine lv_aload_n hx hb dX9_add_0 rfl (lv_at hl 0 rfl) ?_
  refine sy_get C hh (fun w h => mc (uX_fX9 w h)) 1 (by decide) (oX_1 Y) rfl 0 (by decide) (index := 9) (mc uX_311) (v := .int (M 1 0)) rfl dX9_add_1 ?_
  refine lv_sipush (v := (nI 996)) hx hb dX9_add_4 (by decide) ?_
  refine lv_icmp_le (tgt := 11) hx hb dX9_add_7 (by decide) (fun c1 => ?_) (fun c1 => ?_)
  · have hq := hq.1 c1
    refine lv_aload_n hx hb dX9_add_11 rfl (lv_at hl 0 rfl) ?_
    refine sy_get C hh (fun w h => mc (uX_fX9 w h)) 1 (by decide) (oX_1 Y) rfl 1 (by decide) (index := 15) (mc uX_313) (v := .ref (Y.2.1 2)) rfl dX9_add_12 ?_
    refine lv_aload_n hx hb dX9_add_15 rfl (lv_at hl 0 rfl) ?_
    refine sy_get C hh (fun w h => mc (uX_fX9 w h)) 1 (by decide) (oX_1 Y) rfl 0 (by decide) (index := 9) (mc uX_311) (v := .int (M 1 0)) rfl dX9_add_16 ?_
    refine lv_iload_n hx hb dX9_add_19 rfl (lv_at hl 1 rfl) ?_
    refine lv_bipush (v := (nI 24)) hx hb dX9_add_20 (by decide) ?_
    refine lv_ishr hx hb dX9_add_22 ?_
    refine lv_i2b (v := ((a1 >>> ((nI 24) &&& 31)).toInt8.toInt32)) hx hb dX9_add_23 rfl ?_
    obtain ⟨n2, hn2, en2, hq⟩ := hq
    refine sy_bast C hh 2 (by decide) (aX_2 Y) tX_2 hn2 en2 (by decide) dX9_add_24 (fun H locs hh => ?_)
    refine lv_aload_n hx hb dX9_add_25 rfl (lv_at hl 0 rfl) ?_
    refine sy_get C hh (fun w h => mc (uX_fX9 w h)) 1 (by decide) (oX_1 Y) rfl 1 (by decide) (index := 15) (mc uX_313) (v := .ref (Y.2.1 2)) rfl dX9_add_26 ?_
    refine lv_aload_n hx hb dX9_add_29 rfl (lv_at hl 0 rfl) ?_
    refine sy_get C hh (fun w h => mc (uX_fX9 w h)) 1 (by decide) (oX_1 Y) rfl 0 (by decide) (index := 9) (mc uX_311) (v := .int (M 1 0)) rfl dX9_add_30 ?_
    refine lv_iconst (v := (1 : Int32)) hx hb dX9_add_33 (by decide) ?_
    refine lv_iadd hx hb dX9_add_34 ?_
    refine lv_iload_n hx hb dX9_add_35 rfl (lv_at hl 1 rfl) ?_
    refine lv_bipush (v := (nI 16)) hx hb dX9_add_36 (by decide) ?_
    refine lv_ishr hx hb dX9_add_38 ?_
    refine lv_i2b (v := ((a1 >>> ((nI 16) &&& 31)).toInt8.toInt32)) hx hb dX9_add_39 rfl ?_
    obtain ⟨n3, hn3, en3, hq⟩ := hq
    refine sy_bast C hh 2 (by decide) (aX_2 Y) tX_2 hn3 en3 (by decide) dX9_add_40 (fun H locs hh => ?_)
    refine lv_aload_n hx hb dX9_add_41 rfl (lv_at hl 0 rfl) ?_
    refine sy_get C hh (fun w h => mc (uX_fX9 w h)) 1 (by decide) (oX_1 Y) rfl 1 (by decide) (index := 15) (mc uX_313) (v := .ref (Y.2.1 2)) rfl dX9_add_42 ?_
    refine lv_aload_n hx hb dX9_add_45 rfl (lv_at hl 0 rfl) ?_
    refine sy_get C hh (fun w h => mc (uX_fX9 w h)) 1 (by decide) (oX_1 Y) rfl 0 (by decide) (index := 9) (mc uX_311) (v := .int (M 1 0)) rfl dX9_add_46 ?_
    refine lv_iconst (v := (nI 2)) hx hb dX9_add_49 (by decide) ?_
    refine lv_iadd hx hb dX9_add_50 ?_
    refine lv_iload_n hx hb dX9_add_51 rfl (lv_at hl 1 rfl) ?_
    refine lv_bipush (v := (nI 8)) hx hb dX9_add_52 (by decide) ?_
    refine lv_ishr hx hb dX9_add_54 ?_
    refine lv_i2b (v := ((a1 >>> ((nI 8) &&& 31)).toInt8.toInt32)) hx hb dX9_add_55 rfl ?_
    obtain ⟨n4, hn4, en4, hq⟩ := hq
    refine sy_bast C hh 2 (by decide) (aX_2 Y) tX_2 hn4 en4 (by decide) dX9_add_56 (fun H locs hh => ?_)
    refine lv_aload_n hx hb dX9_add_57 rfl (lv_at hl 0 rfl) ?_
    refine sy_get C hh (fun w h => mc (uX_fX9 w h)) 1 (by decide) (oX_1 Y) rfl 1 (by decide) (index := 15) (mc uX_313) (v := .ref (Y.2.1 2)) rfl dX9_add_58 ?_
    refine lv_aload_n hx hb dX9_add_61 rfl (lv_at hl 0 rfl) ?_
    refine sy_get C hh (fun w h => mc (uX_fX9 w h)) 1 (by decide) (oX_1 Y) rfl 0 (by decide) (index := 9) (mc uX_311) (v := .int (M 1 0)) rfl dX9_add_62 ?_
    refine lv_iconst (v := (nI 3)) hx hb dX9_add_65 (by decide) ?_
    refine lv_iadd hx hb dX9_add_66 ?_
    refine lv_iload_n hx hb dX9_add_67 rfl (lv_at hl 1 rfl) ?_
    refine lv_i2b (v := (a1.toInt8.toInt32)) hx hb dX9_add_68 rfl ?_
    obtain ⟨n5, hn5, en5, hq⟩ := hq
    refine sy_bast C hh 2 (by decide) (aX_2 Y) tX_2 hn5 en5 (by decide) dX9_add_69 (fun H locs hh => ?_)
    refine lv_aload_n hx hb dX9_add_70 rfl (lv_at hl 0 rfl) ?_
    refine lv_dup hx hb dX9_add_71 rfl ?_
    refine sy_get C hh (fun w h => mc (uX_fX9 w h)) 1 (by decide) (oX_1 Y) rfl 0 (by decide) (index := 9) (mc uX_311) (v := .int (M 1 0)) rfl dX9_add_72 ?_
    refine lv_iconst (v := (nI 4)) hx hb dX9_add_75 (by decide) ?_
    refine lv_iadd hx hb dX9_add_76 ?_
    refine sy_put C hh (fun w h => mc (uX_fX9 w h)) tyX9 tyX9_ok nmX9 1 (by decide) (oX_1 Y) rfl 0 (by decide) (index := 9) (mc uX_311) rfl 0 ((M 1 0) + (nI 4)) (ty := .int) (tyX9_ok 0 (by decide)) rfl rfl (Nat.le_of_ble_eq_true rfl) (pX9_0 Y _ _ _) dX9_add_77 (fun H locs hh => ?_)
    exact sy_vret C hh dX9_add_80 hq
  · have hq := hq.2 c1
    exact sy_vret C hh dX9_add_10 hq

/-! AreaSetter.feed(IIIII)I -/
def wX11_feed (M : sy_M) (a1 : Int32) (a2 : Int32) (a3 : Int32) (a4 : Int32) (a5 : Int32) (Q : Int32 → sy_M → Prop) : Prop := (((M 1 0) ≤ (nI 980) → wX9_add M a1 (fun M2 => wX9_add M2 a2 (fun M3 => wX9_add M3 a3 (fun M4 => wX9_add M4 a4 (fun M5 => wX9_add M5 a5 (fun M6 => Q (M6 1 0) M6)))))) ∧ (¬ (M 1 0) ≤ (nI 980) → Q (-1 : Int32) M))
section
variable {p : Program} {l : Launch} {e : Env} {s : State} {m : MethodId} {args : Array Value} {below : List Frame} {meth : Method} {c : Code} {Y : sy_Y}
end
set_option maxHeartbeats 4000000 in
set_option maxRecDepth 100000 in
theorem mX11_feed (l : Launch) (Y : sy_Y) (sz : Nat) (M : sy_M) (a1 : Int32) (a2 : Int32) (a3 : Int32) (a4 : Int32) (a5 : Int32) (Q : Int32 → sy_M → Prop) (hq : wX11_feed M a1 a2 a3 a4 a5 Q) : Met l yX11_feed vsX11_feed ({ frames := 1, cells := 0, slots := 0, locals := 21 } : Room) (va_Pc [.ref (Y.2.1 0), .int a1, .int a2, .int a3, .int a4, .int a5] (sy_pre Y NX EX tfX sz M)) (sy_QI Y NX EX sz Q) 0 0 (sy_A NX Y.2.1 sz) := by
  refine sy_metI (by decide) rfl (Nat.le_of_ble_eq_true rfl) ?_
  intro p e s m args below meth c C ls hl hh
  have hx := C.1.1
  have hb := C.1.2.1
  have hl : lv_has ls 6 [(0, .ref (Y.2.1 0)), (1, .int a1), (2, .int a2), (3, .int a3), (4, .int a4), (5, .int a5)] := hl
  unfold wX11_feed at hq
  refine lv_aload_n hx hb dX11_feed_0 rfl (lv_at hl 0 rfl) ?_
  refine sy_get C hh (fun w h => mc (uX_fX11 w h)) 0 (by decide) (oX_0 Y) rfl 1 (by decide) (index := 20) (mc uX_485) (v := .ref (Y.2.1 1)) rfl dX11_feed_1 ?_
  refine sy_get C hh (fun w h => mc (uX_fX9 w h)) 1 (by decide) (oX_1 Y) rfl 0 (by decide) (index := 67) (mc uX_513) (v := .int (M 1 0)) rfl dX11_feed_4 ?_
  refine lv_sipush (v := (nI 980)) hx hb dX11_feed_7 (by decide) ?_
  refine lv_icmp_le (tgt := 15) hx hb dX11_feed_10 (by decide) (fun c1 => ?_) (fun c1 => ?_)
  · have hq := hq.1 c1
    refine lv_aload_n hx hb dX11_feed_15 rfl (lv_at hl 0 rfl) ?_
    refine sy_get C hh (fun w h => mc (uX_fX11 w h)) 0 (by decide) (oX_0 Y) rfl 1 (by decide) (index := 20) (mc uX_485) (v := .ref (Y.2.1 1)) rfl dX11_feed_16 ?_
    refine lv_iload_n hx hb dX11_feed_19 rfl (lv_at hl 1 rfl) ?_
    refine sy_cVV C hh (As := [.int a1]) (rest := []) 1 (by decide) (oX_1 Y) rfl (mX9_add l Y _ M a1 _ hq) (cwV 1 C.1.2.2.2.2 (sy_goodV uX_good uX_514 uX_515 uX_516 uX_329 uX_479 _) rfl rfl rfl hdX9_add ⟨Nat.le_of_ble_eq_true rfl, Nat.le_of_ble_eq_true rfl⟩) rfl hl.1 rfl (Nat.le_of_ble_eq_true rfl) dX11_feed_20 (fun M2 H locs hq hh => ?_)
    refine lv_aload_n hx hb dX11_feed_23 rfl (lv_at hl 0 rfl) ?_
    refine sy_get C hh (fun w h => mc (uX_fX11 w h)) 0 (by decide) (oX_0 Y) rfl 1 (by decide) (index := 20) (mc uX_485) (v := .ref (Y.2.1 1)) rfl dX11_feed_24 ?_
    refine lv_iload_n hx hb dX11_feed_27 rfl (lv_at hl 2 rfl) ?_
    refine sy_cVV C hh (As := [.int a2]) (rest := []) 1 (by decide) (oX_1 Y) rfl (mX9_add l Y _ M2 a2 _ hq) (cwV 1 C.1.2.2.2.2 (sy_goodV uX_good uX_514 uX_515 uX_516 uX_329 uX_479 _) rfl rfl rfl hdX9_add ⟨Nat.le_of_ble_eq_true rfl, Nat.le_of_ble_eq_true rfl⟩) rfl hl.1 rfl (Nat.le_of_ble_eq_true rfl) dX11_feed_28 (fun M3 H locs hq hh => ?_)
    refine lv_aload_n hx hb dX11_feed_31 rfl (lv_at hl 0 rfl) ?_
    refine sy_get C hh (fun w h => mc (uX_fX11 w h)) 0 (by decide) (oX_0 Y) rfl 1 (by decide) (index := 20) (mc uX_485) (v := .ref (Y.2.1 1)) rfl dX11_feed_32 ?_
    refine lv_iload_n hx hb dX11_feed_35 rfl (lv_at hl 3 rfl) ?_
    refine sy_cVV C hh (As := [.int a3]) (rest := []) 1 (by decide) (oX_1 Y) rfl (mX9_add l Y _ M3 a3 _ hq) (cwV 1 C.1.2.2.2.2 (sy_goodV uX_good uX_514 uX_515 uX_516 uX_329 uX_479 _) rfl rfl rfl hdX9_add ⟨Nat.le_of_ble_eq_true rfl, Nat.le_of_ble_eq_true rfl⟩) rfl hl.1 rfl (Nat.le_of_ble_eq_true rfl) dX11_feed_36 (fun M4 H locs hq hh => ?_)
    refine lv_aload_n hx hb dX11_feed_39 rfl (lv_at hl 0 rfl) ?_
    refine sy_get C hh (fun w h => mc (uX_fX11 w h)) 0 (by decide) (oX_0 Y) rfl 1 (by decide) (index := 20) (mc uX_485) (v := .ref (Y.2.1 1)) rfl dX11_feed_40 ?_
    refine lv_iload hx hb dX11_feed_43 (lv_at hl 4 rfl) ?_
    refine sy_cVV C hh (As := [.int a4]) (rest := []) 1 (by decide) (oX_1 Y) rfl (mX9_add l Y _ M4 a4 _ hq) (cwV 1 C.1.2.2.2.2 (sy_goodV uX_good uX_514 uX_515 uX_516 uX_329 uX_479 _) rfl rfl rfl hdX9_add ⟨Nat.le_of_ble_eq_true rfl, Nat.le_of_ble_eq_true rfl⟩) rfl hl.1 rfl (Nat.le_of_ble_eq_true rfl) dX11_feed_45 (fun M5 H locs hq hh => ?_)
    refine lv_aload_n hx hb dX11_feed_48 rfl (lv_at hl 0 rfl) ?_
    refine sy_get C hh (fun w h => mc (uX_fX11 w h)) 0 (by decide) (oX_0 Y) rfl 1 (by decide) (index := 20) (mc uX_485) (v := .ref (Y.2.1 1)) rfl dX11_feed_49 ?_
    refine lv_iload hx hb dX11_feed_52 (lv_at hl 5 rfl) ?_
    refine sy_cVV C hh (As := [.int a5]) (rest := []) 1 (by decide) (oX_1 Y) rfl (mX9_add l Y _ M5 a5 _ hq) (cwV 1 C.1.2.2.2.2 (sy_goodV uX_good uX_514 uX_515 uX_516 uX_329 uX_479 _) rfl rfl rfl hdX9_add ⟨Nat.le_of_ble_eq_true rfl, Nat.le_of_ble_eq_true rfl⟩) rfl hl.1 rfl (Nat.le_of_ble_eq_true rfl) dX11_feed_54 (fun M6 H locs hq hh => ?_)
    refine lv_aload_n hx hb dX11_feed_57 rfl (lv_at hl 0 rfl) ?_
    refine sy_get C hh (fun w h => mc (uX_fX11 w h)) 0 (by decide) (oX_0 Y) rfl 1 (by decide) (index := 20) (mc uX_485) (v := .ref (Y.2.1 1)) rfl dX11_feed_58 ?_
    refine sy_get C hh (fun w h => mc (uX_fX9 w h)) 1 (by decide) (oX_1 Y) rfl 0 (by decide) (index := 67) (mc uX_513) (v := .int (M6 1 0)) rfl dX11_feed_61 ?_
    exact sy_iret C hh dX11_feed_64 hq
  · have hq := hq.2 c1
    refine lv_iconst (v := (-1 : Int32)) hx hb dX11_feed_13 (by decide) ?_
    exact sy_iret C hh dX11_feed_14 hq

/-! AreaSetter.end(I)I -/
def wX11_end (M : sy_M) (a1 : Int32) (Q : Int32 → sy_M → Prop) : Prop := wX11_isFrom M (0 : Int32) (M 1 0) a1 (fun r2 M1 => ((¬ r2 = 0 → Q a1 (mu M1 1 0 a1)) ∧ (r2 = 0 → Q (-1 : Int32) M1)))
section
variable {p : Program} {l : Launch} {e : Env} {s : State} {m : MethodId} {args : Array Value} {below : List Frame} {meth : Method} {c : Code} {Y : sy_Y}
end
set_option maxHeartbeats 4000000 in
set_option maxRecDepth 100000 in
theorem mX11_end (l : Launch) (Y : sy_Y) (sz : Nat) (M : sy_M) (a1 : Int32) (Q : Int32 → sy_M → Prop) (hq : wX11_end M a1 Q) : Met l yX11_end vsX11_end ({ frames := 1, cells := 0, slots := 0, locals := 22 } : Room) (va_Pc [.ref (Y.2.1 0), .int a1] (sy_pre Y NX EX tfX sz M)) (sy_QI Y NX EX sz Q) 0 0 (sy_A NX Y.2.1 sz) := by
  refine sy_metI (by decide) rfl (Nat.le_of_ble_eq_true rfl) ?_
  intro p e s m args below meth c C ls hl hh
  have hx := C.1.1
  have hb := C.1.2.1
  have hl : lv_has ls 2 [(0, .ref (Y.2.1 0)), (1, .int a1)] := hl
  unfold wX11_end at hq
  refine lv_iconst (v := (0 : Int32)) hx hb dX11_end_0 (by decide) ?_
  refine lv_aload_n hx hb dX11_end_1 rfl (lv_at hl 0 rfl) ?_
  refine sy_get C hh (fun w h => mc (uX_fX11 w h)) 0 (by decide) (oX_0 Y) rfl 1 (by decide) (index := 20) (mc uX_485) (v := .ref (Y.2.1 1)) rfl dX11_end_2 ?_
  refine sy_get C hh (fun w h => mc (uX_fX9 w h)) 1 (by decide) (oX_1 Y) rfl 0 (by decide) (index := 67) (mc uX_513) (v := .int (M 1 0)) rfl dX11_end_5 ?_
  refine lv_iload_n hx hb dX11_end_8 rfl (lv_at hl 1 rfl) ?_
  refine sy_cIS C hh (As := [.int (0 : Int32), .int (M 1 0), .int a1]) (rest := []) (mX11_isFrom l Y _ M (0 : Int32) (M 1 0) a1 _ hq) (va_cwS 3 C.1.2.2.2.2 (sy_goodS uX_good uX_508 uX_509 uX_58 uX_506 _) rfl rfl rfl hdX11_isFrom.2 ⟨Nat.le_of_ble_eq_true rfl, Nat.le_of_ble_eq_true rfl⟩) rfl hl.1 rfl (Nat.le_of_ble_eq_true rfl) dX11_end_9 (fun r2 M1 H locs hq hh => ?_)
  refine lv_if_ne (tgt := 17) hx hb dX11_end_12 (by decide) (fun c3 => ?_) (fun c3 => ?_)
  · have hq := hq.1 c3
    refine lv_aload_n hx hb dX11_end_17 rfl (lv_at hl 0 rfl) ?_
    refine sy_get C hh (fun w h => mc (uX_fX11 w h)) 0 (by decide) (oX_0 Y) rfl 1 (by decide) (index := 20) (mc uX_485) (v := .ref (Y.2.1 1)) rfl dX11_end_18 ?_
    refine lv_iload_n hx hb dX11_end_21 rfl (lv_at hl 1 rfl) ?_
    refine sy_put C hh (fun w h => mc (uX_fX9 w h)) tyX9 tyX9_ok nmX9 1 (by decide) (oX_1 Y) rfl 0 (by decide) (index := 67) (mc uX_513) rfl 0 a1 (ty := .int) (tyX9_ok 0 (by decide)) rfl rfl (Nat.le_of_ble_eq_true rfl) (pX9_0 Y _ _ _) dX11_end_22 (fun H locs hh => ?_)
    refine lv_iload_n hx hb dX11_end_25 rfl (lv_at hl 1 rfl) ?_
    exact sy_iret C hh dX11_end_26 hq
  · have hq := hq.2 c3
    refine lv_iconst (v := (-1 : Int32)) hx hb dX11_end_15 (by decide) ?_
    exact sy_iret C hh dX11_end_16 hq

/-! AreaSetter$Reader.isBlank(I)Z -/
def wX6_isBlank (M : sy_M) (a1 : Int32) (Q : Int32 → sy_M → Prop) : Prop := ((a1 = (nI 32) → Q (1 : Int32) M) ∧ (¬ a1 = (nI 32) → ((¬ a1 = (nI 10) → Q (0 : Int32) M) ∧ (a1 = (nI 10) → Q (1 : Int32) M))))
section
variable {p : Program} {l : Launch} {e : Env} {s : State} {m : MethodId} {args : Array Value} {below : List Frame} {meth : Method} {c : Code} {Y : sy_Y}
end
set_option maxHeartbeats 4000000 in
set_option maxRecDepth 100000 in
theorem mX6_isBlank (l : Launch) (Y : sy_Y) (sz : Nat) (M : sy_M) (a1 : Int32) (Q : Int32 → sy_M → Prop) (hq : wX6_isBlank M a1 Q) : Met l yX6_isBlank vsX6_isBlank ({ frames := 0, cells := 0, slots := 0, locals := 0 } : Room) (va_Pc [.int a1] (sy_pre Y NX EX tfX sz M)) (sy_QI Y NX EX sz Q) 0 0 (sy_A NX Y.2.1 sz) := by
  refine sy_metI (by decide) rfl (Nat.le_of_ble_eq_true rfl) ?_
  intro p e s m args below meth c C ls hl hh
  have hx := C.1.1
  have hb := C.1.2.1
  have hl : lv_has ls 1 [(0, .int a1)] := hl
  unfold wX6_isBlank at hq
  refine lv_iload_n hx hb dX6_isBlank_0 rfl (lv_at hl 0 rfl) ?_
  refine lv_bipush (v := (nI 32)) hx hb dX6_isBlank_1 (by decide) ?_
  refine lv_icmp_eq (tgt := 12) hx hb dX6_isBlank_3 (by decide) (fun c1 => ?_) (fun c1 => ?_)
  · have hq := hq.1 c1
    refine lv_iconst (v := (1 : Int32)) hx hb dX6_isBlank_12 (by decide) ?_
    refine lv_goto (tgt := 17) hx hb dX6_isBlank_13 (by decide) ?_
    exact sy_zret C hh dX6_isBlank_17 (by decide) hq
  · have hq := hq.2 c1
    refine lv_iload_n hx hb dX6_isBlank_6 rfl (lv_at hl 0 rfl) ?_
    refine lv_bipush (v := (nI 10)) hx hb dX6_isBlank_7 (by decide) ?_
    refine lv_icmp_ne (tgt := 16) hx hb dX6_isBlank_9 (by decide) (fun c2 => ?_) (fun c2 => ?_)
    · have hq := hq.1 c2
      refine lv_iconst (v := (0 : Int32)) hx hb dX6_isBlank_16 (by decide) ?_
      exact sy_zret C hh dX6_isBlank_17 (by decide) hq
    · have hq := hq.2 c2
      refine lv_iconst (v := (1 : Int32)) hx hb dX6_isBlank_12 (by decide) ?_
      refine lv_goto (tgt := 17) hx hb dX6_isBlank_13 (by decide) ?_
      exact sy_zret C hh dX6_isBlank_17 (by decide) hq

/-! AreaSetter$Reader.kindOf(I)I -/
def wX6_kindOf_15 (Q : Int32 → sy_M → Prop) (M : sy_M) (x0 : Int32) : Prop := ((x0 < (nI 48) → Q x0 M) ∧ (¬ x0 < (nI 48) → (((nI 57) < x0 → Q x0 M) ∧ (¬ (nI 57) < x0 → Q (nI 48) M))))
def wX6_kindOf (M : sy_M) (a1 : Int32) (Q : Int32 → sy_M → Prop) : Prop := ((a1 < (nI 97) → wX6_kindOf_15  Q M a1) ∧ (¬ a1 < (nI 97) → (((nI 122) < a1 → wX6_kindOf_15  Q M a1) ∧ (¬ (nI 122) < a1 → Q (nI 97) M))))
section
variable {p : Program} {l : Launch} {e : Env} {s : State} {m : MethodId} {args : Array Value} {below : List Frame} {meth : Method} {c : Code} {Y : sy_Y}
set_option maxHeartbeats 4000000 in
set_option maxRecDepth 100000 in
theorem kX6_kindOf_15 (C : sy_C p m c cX6_kindOf 1 s args vsX6_kindOf RX6 meth (some .int) Y NX tfX) {Q : Int32 → sy_M → Prop} :
    ∀ (M : sy_M) (x0 : Int32) (H : Heap) (locs : List Loc) (ls : Array Slot), wX6_kindOf_15 Q M x0 → sy_H Y NX EX s H locs M → lv_has ls 1 [(0, .int x0)] → W p l e ({ frames := 0, cells := 0, slots := 0, locals := 0 } : Room) s m args below meth c H locs 0 0 (sy_ZI below args s Y NX EX Q) (F0 m 15 ls []) := by
  have hx := C.1.1
  have hb := C.1.2.1
  intro M x0 H locs ls hq hh hl
  unfold wX6_kindOf_15 at hq
  refine lv_iload_n hx hb dX6_kindOf_15 rfl (lv_at hl 0 rfl) ?_
  refine lv_bipush (v := (nI 48)) hx hb dX6_kindOf_16 (by decide) ?_
  refine lv_icmp_lt (tgt := 32) hx hb dX6_kindOf_18 (by decide) (fun c2 => ?_) (fun c2 => ?_)
  · have hq := hq.1 c2
    refine lv_iload_n hx hb dX6_kindOf_32 rfl (lv_at hl 0 rfl) ?_
    exact sy_iret C hh dX6_kindOf_33 hq
  · have hq := hq.2 c2
    refine lv_iload_n hx hb dX6_kindOf_21 rfl (lv_at hl 0 rfl) ?_
    refine lv_bipush (v := (nI 57)) hx hb dX6_kindOf_22 (by decide) ?_
    refine lv_icmp_gt (tgt := 32) hx hb dX6_kindOf_24 (by decide) (fun c3 => ?_) (fun c3 => ?_)
    · have hq := hq.1 c3
      refine lv_iload_n hx hb dX6_kindOf_32 rfl (lv_at hl 0 rfl) ?_
      exact sy_iret C hh dX6_kindOf_33 hq
    · have hq := hq.2 c3
      refine lv_bipush (v := (nI 48)) hx hb dX6_kindOf_27 (by decide) ?_
      refine lv_goto (tgt := 33) hx hb dX6_kindOf_29 (by decide) ?_
      exact sy_iret C hh dX6_kindOf_33 hq

end
set_option maxHeartbeats 4000000 in
set_option maxRecDepth 100000 in
theorem mX6_kindOf (l : Launch) (Y : sy_Y) (sz : Nat) (M : sy_M) (a1 : Int32) (Q : Int32 → sy_M → Prop) (hq : wX6_kindOf M a1 Q) : Met l yX6_kindOf vsX6_kindOf ({ frames := 0, cells := 0, slots := 0, locals := 0 } : Room) (va_Pc [.int a1] (sy_pre Y NX EX tfX sz M)) (sy_QI Y NX EX sz Q) 0 0 (sy_A NX Y.2.1 sz) := by
  refine sy_metI (by decide) rfl (Nat.le_of_ble_eq_true rfl) ?_
  intro p e s m args below meth c C ls hl hh
  have hx := C.1.1
  have hb := C.1.2.1
  have hl : lv_has ls 1 [(0, .int a1)] := hl
  unfold wX6_kindOf at hq
  refine lv_iload_n hx hb dX6_kindOf_0 rfl (lv_at hl 0 rfl) ?_
  refine lv_bipush (v := (nI 97)) hx hb dX6_kindOf_1 (by decide) ?_
  refine lv_icmp_lt (tgt := 15) hx hb dX6_kindOf_3 (by decide) (fun c1 => ?_) (fun c1 => ?_)
  · have hq := hq.1 c1
    refine kX6_kindOf_15 C  M a1 _ _ _ hq hh (lv_sub hl [0] rfl)
  · have hq := hq.2 c1
    refine lv_iload_n hx hb dX6_kindOf_6 rfl (lv_at hl 0 rfl) ?_
    refine lv_bipush (v := (nI 122)) hx hb dX6_kindOf_7 (by decide) ?_
    refine lv_icmp_gt (tgt := 15) hx hb dX6_kindOf_9 (by decide) (fun c4 => ?_) (fun c4 => ?_)
    · have hq := hq.1 c4
      refine kX6_kindOf_15 C  M a1 _ _ _ hq hh (lv_sub hl [0] rfl)
    · have hq := hq.2 c4
      refine lv_bipush (v := (nI 97)) hx hb dX6_kindOf_12 (by decide) ?_
      exact sy_iret C hh dX6_kindOf_14 hq

/-! AreaSetter$Tape.byteAt(I)I -/
def wX9_byteAt (M : sy_M) (a1 : Int32) (Q : Int32 → sy_M → Prop) : Prop := ((a1 < 0 → Q (-1 : Int32) M) ∧ (¬ a1 < 0 → (((M 1 0) ≤ a1 → Q (-1 : Int32) M) ∧ (¬ (M 1 0) ≤ a1 → ∃ n3 : Nat, n3 < 1000 ∧ a1 = nI n3 ∧ Q ((M 2 n3) &&& (nI 255)) M))))
section
variable {p : Program} {l : Launch} {e : Env} {s : State} {m : MethodId} {args : Array Value} {below : List Frame} {meth : Method} {c : Code} {Y : sy_Y}
end
set_option maxHeartbeats 4000000 in
set_option maxRecDepth 100000 in
theorem mX9_byteAt (l : Launch) (Y : sy_Y) (sz : Nat) (M : sy_M) (a1 : Int32) (Q : Int32 → sy_M → Prop) (hq : wX9_byteAt M a1 Q) : Met l yX9_byteAt vsX9_byteAt ({ frames := 0, cells := 0, slots := 0, locals := 0 } : Room) (va_Pc [.ref (Y.2.1 1), .int a1] (sy_pre Y NX EX tfX sz M)) (sy_QI Y NX EX sz Q) 0 0 (sy_A NX Y.2.1 sz) := by
  refine sy_metI (by decide) rfl (Nat.le_of_ble_eq_true rfl) ?_
  intro p e s m args below meth c C ls hl hh
  have hx := C.1.1
  have hb := C.1.2.1
  have hl : lv_has ls 2 [(0, .ref (Y.2.1 1)), (1, .int a1)] := hl
  unfold wX9_byteAt at hq
  refine lv_iload_n hx hb dX9_byteAt_0 rfl (lv_at hl 1 rfl) ?_
  refine lv_if_lt (tgt := 25) hx hb dX9_byteAt_1 (by decide) (fun c1 => ?_) (fun c1 => ?_)
  · have hq := hq.1 c1
    refine lv_iconst (v := (-1 : Int32)) hx hb dX9_byteAt_25 (by decide) ?_
    exact sy_iret C hh dX9_byteAt_26 hq
  · have hq := hq.2 c1
    refine lv_iload_n hx hb dX9_byteAt_4 rfl (lv_at hl 1 rfl) ?_
    refine lv_aload_n hx hb dX9_byteAt_5 rfl (lv_at hl 0 rfl) ?_
    refine sy_get C hh (fun w h => mc (uX_fX9 w h)) 1 (by decide) (oX_1 Y) rfl 0 (by decide) (index := 9) (mc uX_311) (v := .int (M 1 0)) rfl dX9_byteAt_6 ?_
    refine lv_icmp_ge (tgt := 25) hx hb dX9_byteAt_9 (by decide) (fun c2 => ?_) (fun c2 => ?_)
    · have hq := hq.1 c2
      refine lv_iconst (v := (-1 : Int32)) hx hb dX9_byteAt_25 (by decide) ?_
      exact sy_iret C hh dX9_byteAt_26 hq
    · have hq := hq.2 c2
      refine lv_aload_n hx hb dX9_byteAt_12 rfl (lv_at hl 0 rfl) ?_
      refine sy_get C hh (fun w h => mc (uX_fX9 w h)) 1 (by decide) (oX_1 Y) rfl 1 (by decide) (index := 15) (mc uX_313) (v := .ref (Y.2.1 2)) rfl dX9_byteAt_13 ?_
      refine lv_iload_n hx hb dX9_byteAt_16 rfl (lv_at hl 1 rfl) ?_
      obtain ⟨n3, hn3, en3, hq⟩ := hq
      refine sy_bald C hh 2 (by decide) (aX_2 Y) tX_2 hn3 en3 (by decide) dX9_byteAt_17 ?_
      refine lv_sipush (v := (nI 255)) hx hb dX9_byteAt_18 (by decide) ?_
      refine lv_iand hx hb dX9_byteAt_21 ?_
      refine lv_goto (tgt := 26) hx hb dX9_byteAt_22 (by decide) ?_
      exact sy_iret C hh dX9_byteAt_26 hq

/-! AreaSetter$Reader.nextToken()V -/
def wX6_nextToken_8 (K_52 : sy_M → Prop) (Q : sy_M → Prop) : Nat → sy_M → Prop
  | 0, _ => False
  | n + 1, M => (((M 1 0) ≤ (M 3 6) → K_52 M) ∧ (¬ (M 1 0) ≤ (M 3 6) → wX9_byteAt M (M 3 6) (fun r3 M2 => wX6_isBlank M2 r3 (fun r5 M4 => ((r5 = 0 → K_52 M4) ∧ (¬ r5 = 0 → wX6_nextToken_8 K_52 Q n (mu M4 3 6 ((M4 3 6) + (1 : Int32)))))))))
def wX6_nextToken_112 (K_80 : sy_M → Prop) (Q : sy_M → Prop) (M : sy_M) : Prop := wX9_byteAt M (M 3 7) (fun r15 M14 => wX6_kindOf M14 r15 (fun r17 M16 => ((¬ r17 = (M16 3 5) → Q M16) ∧ (r17 = (M16 3 5) → K_80 (mu M16 3 7 ((M16 3 7) + (1 : Int32)))))))
def wX6_nextToken_80 (Q : sy_M → Prop) : Nat → sy_M → Prop
  | 0, _ => False
  | n + 1, M => (((M 1 0) ≤ (M 3 7) → Q M) ∧ (¬ (M 1 0) ≤ (M 3 7) → (((M 3 5) = (nI 97) → wX6_nextToken_112 (fun (M19 : sy_M) => wX6_nextToken_80 Q n M19) Q M) ∧ (¬ (M 3 5) = (nI 97) → ((¬ (M 3 5) = (nI 48) → Q M) ∧ ((M 3 5) = (nI 48) → wX6_nextToken_112 (fun (M21 : sy_M) => wX6_nextToken_80 Q n M21) Q M))))))
def wX6_nextToken_52 (Q : sy_M → Prop) (M : sy_M) : Prop := wX9_byteAt M (M 3 6) (fun r9 M8 => wX6_kindOf M8 r9 (fun r11 M10 => ∃ n22 : Nat, wX6_nextToken_80  Q n22 (mu (mu M10 3 5 r11) 3 7 ((M10 3 6) + (1 : Int32)))))
def wX6_nextToken (M : sy_M)  (Q : sy_M → Prop) : Prop := ∃ n23 : Nat, wX6_nextToken_8 (fun (M7 : sy_M) => wX6_nextToken_52  Q M7) Q n23 (mu M 3 6 (M 3 7))
section
variable {p : Program} {l : Launch} {e : Env} {s : State} {m : MethodId} {args : Array Value} {below : List Frame} {meth : Method} {c : Code} {Y : sy_Y}
set_option maxHeartbeats 4000000 in
set_option maxRecDepth 100000 in
theorem kX6_nextToken_8 (C : sy_C p m c cX6_nextToken 1 s args vsX6_nextToken RX6 meth none Y NX tfX) {Q : sy_M → Prop} {K_52 : sy_M → Prop} (hK_52 : ∀ (M : sy_M) (H : Heap) (locs : List Loc) (ls : Array Slot), K_52 M → sy_H Y NX EX s H locs M → lv_has ls 1 [(0, .ref (Y.2.1 3))] → W p l e ({ frames := 1, cells := 0, slots := 0, locals := 21 } : Room) s m args below meth c H locs 0 0 (sy_ZV below args s Y NX EX Q) (F0 m 52 ls [])) :
    ∀ (n : Nat) (M : sy_M) (H : Heap) (locs : List Loc) (ls : Array Slot), wX6_nextToken_8 K_52 Q n M → sy_H Y NX EX s H locs M → lv_has ls 1 [(0, .ref (Y.2.1 3))] → W p l e ({ frames := 1, cells := 0, slots := 0, locals := 21 } : Room) s m args below meth c H locs 0 0 (sy_ZV below args s Y NX EX Q) (F0 m 8 ls []) := by
  have hx := C.1.1
  have hb := C.1.2.1
  intro n
  induction n with
  | zero =>
    intro M H locs ls hq hh hl
    unfold wX6_nextToken_8 at hq
    exact hq.elim
  | succ n ih =>
    intro M H locs ls hq hh hl
    unfold wX6_nextToken_8 at hq
    refine lv_aload_n hx hb dX6_nextToken_8 rfl (lv_at hl 0 rfl) ?_
    refine sy_get C hh (fun w h => mc (uX_fX6 w h)) 3 (by decide) (oX_3 Y) rfl 6 (by decide) (index := 51) (mc uX_343) (v := .int (M 3 6)) rfl dX6_nextToken_9 ?_
    refine lv_aload_n hx hb dX6_nextToken_12 rfl (lv_at hl 0 rfl) ?_
    refine sy_get C hh (fun w h => mc (uX_fX6 w h)) 3 (by decide) (oX_3 Y) rfl 0 (by decide) (index := 12) (mc uX_330) (v := .ref (Y.2.1 1)) rfl dX6_nextToken_13 ?_
    refine sy_get C hh (fun w h => mc (uX_fX9 w h)) 1 (by decide) (oX_1 Y) rfl 0 (by decide) (index := 57) (mc uX_344) (v := .int (M 1 0)) rfl dX6_nextToken_16 ?_
    refine lv_icmp_ge (tgt := 52) hx hb dX6_nextToken_19 (by decide) (fun c1 => ?_) (fun c1 => ?_)
    · have hq := hq.1 c1
      exact hK_52 M  _ _ _ hq hh (lv_sub hl [0] rfl)
    · have hq := hq.2 c1
      refine lv_aload_n hx hb dX6_nextToken_22 rfl (lv_at hl 0 rfl) ?_
      refine sy_get C hh (fun w h => mc (uX_fX6 w h)) 3 (by decide) (oX_3 Y) rfl 0 (by decide) (index := 12) (mc uX_330) (v := .ref (Y.2.1 1)) rfl dX6_nextToken_23 ?_
      refine lv_aload_n hx hb dX6_nextToken_26 rfl (lv_at hl 0 rfl) ?_
      refine sy_get C hh (fun w h => mc (uX_fX6 w h)) 3 (by decide) (oX_3 Y) rfl 6 (by decide) (index := 51) (mc uX_343) (v := .int (M 3 6)) rfl dX6_nextToken_27 ?_
      refine sy_cIV C hh (As := [.int (M 3 6)]) (rest := []) 1 (by decide) (oX_1 Y) rfl (mX9_byteAt l Y _ M (M 3 6) _ hq) (cwV 1 C.1.2.2.2.2 (sy_goodV uX_good uX_346 uX_347 uX_348 uX_329 uX_338 _) rfl rfl rfl hdX9_byteAt ⟨Nat.le_of_ble_eq_true rfl, Nat.le_of_ble_eq_true rfl⟩) rfl hl.1 rfl (Nat.le_of_ble_eq_true rfl) dX6_nextToken_30 (fun r3 M2 H locs hq hh => ?_)
      refine sy_cIS C hh (As := [.int r3]) (rest := []) (mX6_isBlank l Y _ M2 r3 _ hq) (va_cwS 1 C.1.2.2.2.2 (sy_goodS uX_good uX_349 uX_350 uX_351 uX_339 _) rfl rfl rfl hdX6_isBlank.2 ⟨Nat.le_of_ble_eq_true rfl, Nat.le_of_ble_eq_true rfl⟩) rfl hl.1 rfl (Nat.le_of_ble_eq_true rfl) dX6_nextToken_33 (fun r5 M4 H locs hq hh => ?_)
      refine lv_if_eq (tgt := 52) hx hb dX6_nextToken_36 (by decide) (fun c6 => ?_) (fun c6 => ?_)
      · have hq := hq.1 c6
        exact hK_52 M4  _ _ _ hq hh (lv_sub hl [0] rfl)
      · have hq := hq.2 c6
        refine lv_aload_n hx hb dX6_nextToken_39 rfl (lv_at hl 0 rfl) ?_
        refine lv_dup hx hb dX6_nextToken_40 rfl ?_
        refine sy_get C hh (fun w h => mc (uX_fX6 w h)) 3 (by decide) (oX_3 Y) rfl 6 (by decide) (index := 51) (mc uX_343) (v := .int (M4 3 6)) rfl dX6_nextToken_41 ?_
        refine lv_iconst (v := (1 : Int32)) hx hb dX6_nextToken_44 (by decide) ?_
        refine lv_iadd hx hb dX6_nextToken_45 ?_
        refine sy_put C hh (fun w h => mc (uX_fX6 w h)) tyX6 tyX6_ok nmX6 3 (by decide) (oX_3 Y) rfl 6 (by decide) (index := 51) (mc uX_343) rfl 6 ((M4 3 6) + (1 : Int32)) (ty := .int) (tyX6_ok 6 (by decide)) rfl rfl (Nat.le_of_ble_eq_true rfl) (pX6_6 Y _ _ _) dX6_nextToken_46 (fun H locs hh => ?_)
        refine lv_goto (tgt := 8) hx hb dX6_nextToken_49 (by decide) ?_
        exact ih (mu M4 3 6 ((M4 3 6) + (1 : Int32)))  _ _ _ hq hh (lv_sub hl [0] rfl)

set_option maxHeartbeats 4000000 in
set_option maxRecDepth 100000 in
theorem kX6_nextToken_112 (C : sy_C p m c cX6_nextToken 1 s args vsX6_nextToken RX6 meth none Y NX tfX) {Q : sy_M → Prop} {K_80 : sy_M → Prop} (hK_80 : ∀ (M : sy_M) (H : Heap) (locs : List Loc) (ls : Array Slot), K_80 M → sy_H Y NX EX s H locs M → lv_has ls 1 [(0, .ref (Y.2.1 3))] → W p l e ({ frames := 1, cells := 0, slots := 0, locals := 21 } : Room) s m args below meth c H locs 0 0 (sy_ZV below args s Y NX EX Q) (F0 m 80 ls [])) :
    ∀ (M : sy_M) (H : Heap) (locs : List Loc) (ls : Array Slot), wX6_nextToken_112 K_80 Q M → sy_H Y NX EX s H locs M → lv_has ls 1 [(0, .ref (Y.2.1 3))] → W p l e ({ frames := 1, cells := 0, slots := 0, locals := 21 } : Room) s m args below meth c H locs 0 0 (sy_ZV below args s Y NX EX Q) (F0 m 112 ls []) := by
  have hx := C.1.1
  have hb := C.1.2.1
  intro M H locs ls hq hh hl
  unfold wX6_nextToken_112 at hq
  refine lv_aload_n hx hb dX6_nextToken_112 rfl (lv_at hl 0 rfl) ?_
  refine sy_get C hh (fun w h => mc (uX_fX6 w h)) 3 (by decide) (oX_3 Y) rfl 0 (by decide) (index := 12) (mc uX_330) (v := .ref (Y.2.1 1)) rfl dX6_nextToken_113 ?_
  refine lv_aload_n hx hb dX6_nextToken_116 rfl (lv_at hl 0 rfl) ?_
  refine sy_get C hh (fun w h => mc (uX_fX6 w h)) 3 (by decide) (oX_3 Y) rfl 7 (by decide) (index := 41) (mc uX_342) (v := .int (M 3 7)) rfl dX6_nextToken_117 ?_
  refine sy_cIV C hh (As := [.int (M 3 7)]) (rest := []) 1 (by decide) (oX_1 Y) rfl (mX9_byteAt l Y _ M (M 3 7) _ hq) (cwV 1 C.1.2.2.2.2 (sy_goodV uX_good uX_346 uX_347 uX_348 uX_329 uX_338 _) rfl rfl rfl hdX9_byteAt ⟨Nat.le_of_ble_eq_true rfl, Nat.le_of_ble_eq_true rfl⟩) rfl hl.1 rfl (Nat.le_of_ble_eq_true rfl) dX6_nextToken_120 (fun r15 M14 H locs hq hh => ?_)
  refine sy_cIS C hh (As := [.int r15]) (rest := []) (mX6_kindOf l Y _ M14 r15 _ hq) (va_cwS 1 C.1.2.2.2.2 (sy_goodS uX_good uX_352 uX_353 uX_351 uX_340 _) rfl rfl rfl hdX6_kindOf.2 ⟨Nat.le_of_ble_eq_true rfl, Nat.le_of_ble_eq_true rfl⟩) rfl hl.1 rfl (Nat.le_of_ble_eq_true rfl) dX6_nextToken_123 (fun r17 M16 H locs hq hh => ?_)
  refine lv_aload_n hx hb dX6_nextToken_126 rfl (lv_at hl 0 rfl) ?_
  refine sy_get C hh (fun w h => mc (uX_fX6 w h)) 3 (by decide) (oX_3 Y) rfl 5 (by decide) (index := 54) (mc uX_345) (v := .int (M16 3 5)) rfl dX6_nextToken_127 ?_
  refine lv_icmp_ne (tgt := 146) hx hb dX6_nextToken_130 (by decide) (fun c18 => ?_) (fun c18 => ?_)
  · have hq := hq.1 c18
    exact sy_vret C hh dX6_nextToken_146 hq
  · have hq := hq.2 c18
    refine lv_aload_n hx hb dX6_nextToken_133 rfl (lv_at hl 0 rfl) ?_
    refine lv_dup hx hb dX6_nextToken_134 rfl ?_
    refine sy_get C hh (fun w h => mc (uX_fX6 w h)) 3 (by decide) (oX_3 Y) rfl 7 (by decide) (index := 41) (mc uX_342) (v := .int (M16 3 7)) rfl dX6_nextToken_135 ?_
    refine lv_iconst (v := (1 : Int32)) hx hb dX6_nextToken_138 (by decide) ?_
    refine lv_iadd hx hb dX6_nextToken_139 ?_
    refine sy_put C hh (fun w h => mc (uX_fX6 w h)) tyX6 tyX6_ok nmX6 3 (by decide) (oX_3 Y) rfl 7 (by decide) (index := 41) (mc uX_342) rfl 7 ((M16 3 7) + (1 : Int32)) (ty := .int) (tyX6_ok 7 (by decide)) rfl rfl (Nat.le_of_ble_eq_true rfl) (pX6_7 Y _ _ _) dX6_nextToken_140 (fun H locs hh => ?_)
    refine lv_goto (tgt := 80) hx hb dX6_nextToken_143 (by decide) ?_
    exact hK_80 (mu M16 3 7 ((M16 3 7) + (1 : Int32)))  _ _ _ hq hh (lv_sub hl [0] rfl)

set_option maxHeartbeats 4000000 in
set_option maxRecDepth 100000 in
theorem kX6_nextToken_80 (C : sy_C p m c cX6_nextToken 1 s args vsX6_nextToken RX6 meth none Y NX tfX) {Q : sy_M → Prop} :
    ∀ (n : Nat) (M : sy_M) (H : Heap) (locs : List Loc) (ls : Array Slot), wX6_nextToken_80 Q n M → sy_H Y NX EX s H locs M → lv_has ls 1 [(0, .ref (Y.2.1 3))] → W p l e ({ frames := 1, cells := 0, slots := 0, locals := 21 } : Room) s m args below meth c H locs 0 0 (sy_ZV below args s Y NX EX Q) (F0 m 80 ls []) := by
  have hx := C.1.1
  have hb := C.1.2.1
  intro n
  induction n with
  | zero =>
    intro M H locs ls hq hh hl
    unfold wX6_nextToken_80 at hq
    exact hq.elim
  | succ n ih =>
    intro M H locs ls hq hh hl
    unfold wX6_nextToken_80 at hq
    refine lv_aload_n hx hb dX6_nextToken_80 rfl (lv_at hl 0 rfl) ?_
    refine sy_get C hh (fun w h => mc (uX_fX6 w h)) 3 (by decide) (oX_3 Y) rfl 7 (by decide) (index := 41) (mc uX_342) (v := .int (M 3 7)) rfl dX6_nextToken_81 ?_
    refine lv_aload_n hx hb dX6_nextToken_84 rfl (lv_at hl 0 rfl) ?_
    refine sy_get C hh (fun w h => mc (uX_fX6 w h)) 3 (by decide) (oX_3 Y) rfl 0 (by decide) (index := 12) (mc uX_330) (v := .ref (Y.2.1 1)) rfl dX6_nextToken_85 ?_
    refine sy_get C hh (fun w h => mc (uX_fX9 w h)) 1 (by decide) (oX_1 Y) rfl 0 (by decide) (index := 57) (mc uX_344) (v := .int (M 1 0)) rfl dX6_nextToken_88 ?_
    refine lv_icmp_ge (tgt := 146) hx hb dX6_nextToken_91 (by decide) (fun c12 => ?_) (fun c12 => ?_)
    · have hq := hq.1 c12
      exact sy_vret C hh dX6_nextToken_146 hq
    · have hq := hq.2 c12
      refine lv_aload_n hx hb dX6_nextToken_94 rfl (lv_at hl 0 rfl) ?_
      refine sy_get C hh (fun w h => mc (uX_fX6 w h)) 3 (by decide) (oX_3 Y) rfl 5 (by decide) (index := 54) (mc uX_345) (v := .int (M 3 5)) rfl dX6_nextToken_95 ?_
      refine lv_bipush (v := (nI 97)) hx hb dX6_nextToken_98 (by decide) ?_
      refine lv_icmp_eq (tgt := 112) hx hb dX6_nextToken_100 (by decide) (fun c13 => ?_) (fun c13 => ?_)
      · have hq := hq.1 c13
        refine kX6_nextToken_112 C (fun M19 H locs ls hq hh hl => ?_) M  _ _ _ hq hh (lv_sub hl [0] rfl)
        · exact ih M19  _ _ _ hq hh (lv_sub hl [0] rfl)
      · have hq := hq.2 c13
        refine lv_aload_n hx hb dX6_nextToken_103 rfl (lv_at hl 0 rfl) ?_
        refine sy_get C hh (fun w h => mc (uX_fX6 w h)) 3 (by decide) (oX_3 Y) rfl 5 (by decide) (index := 54) (mc uX_345) (v := .int (M 3 5)) rfl dX6_nextToken_104 ?_
        refine lv_bipush (v := (nI 48)) hx hb dX6_nextToken_107 (by decide) ?_
        refine lv_icmp_ne (tgt := 146) hx hb dX6_nextToken_109 (by decide) (fun c20 => ?_) (fun c20 => ?_)
        · have hq := hq.1 c20
          exact sy_vret C hh dX6_nextToken_146 hq
        · have hq := hq.2 c20
          refine kX6_nextToken_112 C (fun M21 H locs ls hq hh hl => ?_) M  _ _ _ hq hh (lv_sub hl [0] rfl)
          · exact ih M21  _ _ _ hq hh (lv_sub hl [0] rfl)

set_option maxHeartbeats 4000000 in
set_option maxRecDepth 100000 in
theorem kX6_nextToken_52 (C : sy_C p m c cX6_nextToken 1 s args vsX6_nextToken RX6 meth none Y NX tfX) {Q : sy_M → Prop} :
    ∀ (M : sy_M) (H : Heap) (locs : List Loc) (ls : Array Slot), wX6_nextToken_52 Q M → sy_H Y NX EX s H locs M → lv_has ls 1 [(0, .ref (Y.2.1 3))] → W p l e ({ frames := 1, cells := 0, slots := 0, locals := 21 } : Room) s m args below meth c H locs 0 0 (sy_ZV below args s Y NX EX Q) (F0 m 52 ls []) := by
  have hx := C.1.1
  have hb := C.1.2.1
  intro M H locs ls hq hh hl
  unfold wX6_nextToken_52 at hq
  refine lv_aload_n hx hb dX6_nextToken_52 rfl (lv_at hl 0 rfl) ?_
  refine lv_aload_n hx hb dX6_nextToken_53 rfl (lv_at hl 0 rfl) ?_
  refine sy_get C hh (fun w h => mc (uX_fX6 w h)) 3 (by decide) (oX_3 Y) rfl 0 (by decide) (index := 12) (mc uX_330) (v := .ref (Y.2.1 1)) rfl dX6_nextToken_54 ?_
  refine lv_aload_n hx hb dX6_nextToken_57 rfl (lv_at hl 0 rfl) ?_
  refine sy_get C hh (fun w h => mc (uX_fX6 w h)) 3 (by decide) (oX_3 Y) rfl 6 (by decide) (index := 51) (mc uX_343) (v := .int (M 3 6)) rfl dX6_nextToken_58 ?_
  refine sy_cIV C hh (As := [.int (M 3 6)]) (rest := [.ref (Y.2.1 3)]) 1 (by decide) (oX_1 Y) rfl (mX9_byteAt l Y _ M (M 3 6) _ hq) (cwV 1 C.1.2.2.2.2 (sy_goodV uX_good uX_346 uX_347 uX_348 uX_329 uX_338 _) rfl rfl rfl hdX9_byteAt ⟨Nat.le_of_ble_eq_true rfl, Nat.le_of_ble_eq_true rfl⟩) rfl hl.1 rfl (Nat.le_of_ble_eq_true rfl) dX6_nextToken_61 (fun r9 M8 H locs hq hh => ?_)
  refine sy_cIS C hh (As := [.int r9]) (rest := [.ref (Y.2.1 3)]) (mX6_kindOf l Y _ M8 r9 _ hq) (va_cwS 1 C.1.2.2.2.2 (sy_goodS uX_good uX_352 uX_353 uX_351 uX_340 _) rfl rfl rfl hdX6_kindOf.2 ⟨Nat.le_of_ble_eq_true rfl, Nat.le_of_ble_eq_true rfl⟩) rfl hl.1 rfl (Nat.le_of_ble_eq_true rfl) dX6_nextToken_64 (fun r11 M10 H locs hq hh => ?_)
  refine sy_put C hh (fun w h => mc (uX_fX6 w h)) tyX6 tyX6_ok nmX6 3 (by decide) (oX_3 Y) rfl 5 (by decide) (index := 54) (mc uX_345) rfl 5 r11 (ty := .int) (tyX6_ok 5 (by decide)) rfl rfl (Nat.le_of_ble_eq_true rfl) (pX6_5 Y _ _ _) dX6_nextToken_67 (fun H locs hh => ?_)
  refine lv_aload_n hx hb dX6_nextToken_70 rfl (lv_at hl 0 rfl) ?_
  refine lv_aload_n hx hb dX6_nextToken_71 rfl (lv_at hl 0 rfl) ?_
  refine sy_get C hh (fun w h => mc (uX_fX6 w h)) 3 (by decide) (oX_3 Y) rfl 6 (by decide) (index := 51) (mc uX_343) (v := .int (M10 3 6)) rfl dX6_nextToken_72 ?_
  refine lv_iconst (v := (1 : Int32)) hx hb dX6_nextToken_75 (by decide) ?_
  refine lv_iadd hx hb dX6_nextToken_76 ?_
  refine sy_put C hh (fun w h => mc (uX_fX6 w h)) tyX6 tyX6_ok nmX6 3 (by decide) (oX_3 Y) rfl 7 (by decide) (index := 41) (mc uX_342) rfl 7 ((M10 3 6) + (1 : Int32)) (ty := .int) (tyX6_ok 7 (by decide)) rfl rfl (Nat.le_of_ble_eq_true rfl) (pX6_7 Y _ _ _) dX6_nextToken_77 (fun H locs hh => ?_)
  obtain ⟨n22, hq⟩ := hq
  refine kX6_nextToken_80 C  n22 (mu (mu M10 3 5 r11) 3 7 ((M10 3 6) + (1 : Int32)))  _ _ _ hq hh (lv_sub hl [0] rfl)

end
set_option maxHeartbeats 4000000 in
set_option maxRecDepth 100000 in
theorem mX6_nextToken (l : Launch) (Y : sy_Y) (sz : Nat) (M : sy_M) (Q : sy_M → Prop) (hq : wX6_nextToken M  Q) : Met l yX6_nextToken vsX6_nextToken ({ frames := 1, cells := 0, slots := 0, locals := 21 } : Room) (va_Pc [.ref (Y.2.1 3)] (sy_pre Y NX EX tfX sz M)) (sy_QV Y NX EX sz Q) 0 0 (sy_A NX Y.2.1 sz) := by
  refine sy_metV (by decide) rfl (Nat.le_of_ble_eq_true rfl) ?_
  intro p e s m args below meth c C ls hl hh
  have hx := C.1.1
  have hb := C.1.2.1
  have hl : lv_has ls 1 [(0, .ref (Y.2.1 3))] := hl
  unfold wX6_nextToken at hq
  refine lv_aload_n hx hb dX6_nextToken_0 rfl (lv_at hl 0 rfl) ?_
  refine lv_aload_n hx hb dX6_nextToken_1 rfl (lv_at hl 0 rfl) ?_
  refine sy_get C hh (fun w h => mc (uX_fX6 w h)) 3 (by decide) (oX_3 Y) rfl 7 (by decide) (index := 41) (mc uX_342) (v := .int (M 3 7)) rfl dX6_nextToken_2 ?_
  refine sy_put C hh (fun w h => mc (uX_fX6 w h)) tyX6 tyX6_ok nmX6 3 (by decide) (oX_3 Y) rfl 6 (by decide) (index := 51) (mc uX_343) rfl 6 (M 3 7) (ty := .int) (tyX6_ok 6 (by decide)) rfl rfl (Nat.le_of_ble_eq_true rfl) (pX6_6 Y _ _ _) dX6_nextToken_5 (fun H locs hh => ?_)
  obtain ⟨n23, hq⟩ := hq
  refine kX6_nextToken_8 C (fun M7 H locs ls hq hh hl => ?_) n23 (mu M 3 6 (M 3 7))  _ _ _ hq hh (lv_sub hl [0] rfl)
  · refine kX6_nextToken_52 C  M7  _ _ _ hq hh (lv_sub hl [0] rfl)

/-! AreaSetter$Tape.says(Ljava/lang/String;II)Z -/
def wX9_says_15 (Q : Int32 → sy_M → Prop) : Nat → sy_M → Nat → Int32 → Int32 → Prop
  | 0, _, _, _, _ => False
  | n + 1, M, x1, x2, x4 => (((nI (sy_len.getD x1 0)) ≤ x4 → Q (1 : Int32) M) ∧ (¬ (nI (sy_len.getD x1 0)) ≤ x4 → wX9_byteAt M (x2 + x4) (fun r4 M3 => ∃ n5 : Nat, n5 < sy_len.getD x1 0 ∧ x4 = nI n5 ∧ ((r4 = ((sy_byt.getD x1 []).getD n5 0) → wX9_says_15 Q n M3 x1 x2 (x4 + (1 : Int32))) ∧ (¬ r4 = ((sy_byt.getD x1 []).getD n5 0) → Q (0 : Int32) M3)))))
def wX9_says (M : sy_M) (w1 : Nat) (a2 : Int32) (a3 : Int32) (Q : Int32 → sy_M → Prop) : Prop := (((a3 - a2) = (nI (sy_len.getD w1 0)) → ∃ n7 : Nat, wX9_says_15  Q n7 M w1 a2 (0 : Int32)) ∧ (¬ (a3 - a2) = (nI (sy_len.getD w1 0)) → Q (0 : Int32) M))
section
variable {p : Program} {l : Launch} {e : Env} {s : State} {m : MethodId} {args : Array Value} {below : List Frame} {meth : Method} {c : Code} {Y : sy_Y}
set_option maxHeartbeats 4000000 in
set_option maxRecDepth 100000 in
theorem kX9_says_15 (C : sy_C p m c cX9_says 5 s args vsX9_says RX9 meth (some .boolean) Y NX tfX) {Q : Int32 → sy_M → Prop} :
    ∀ (n : Nat) (M : sy_M) (x1 : Nat) (x2 : Int32) (x4 : Int32) (hx1 : x1 < 5) (H : Heap) (locs : List Loc) (ls : Array Slot), wX9_says_15 Q n M x1 x2 x4 → sy_H Y NX EX s H locs M → lv_has ls 5 [(0, .ref (Y.2.1 1)), (1, .ref (Y.2.2.2.1 x1)), (2, .int x2), (4, .int x4)] → W p l e ({ frames := 6, cells := 0, slots := 0, locals := 200 } : Room) s m args below meth c H locs 0 0 (sy_ZI below args s Y NX EX Q) (F0 m 15 ls []) := by
  have hx := C.1.1
  have hb := C.1.2.1
  intro n
  induction n with
  | zero =>
    intro M x1 x2 x4 hx1 H locs ls hq hh hl
    unfold wX9_says_15 at hq
    exact hq.elim
  | succ n ih =>
    intro M x1 x2 x4 hx1 H locs ls hq hh hl
    unfold wX9_says_15 at hq
    refine lv_iload hx hb dX9_says_15 (lv_at hl 3 rfl) ?_
    refine lv_aload_n hx hb dX9_says_17 rfl (lv_at hl 1 rfl) ?_
    refine sy_slen_X9_says C hh hl hx1 (Nat.le_of_ble_eq_true rfl) dX9_says_18 (fun H locs hh => ?_)
    refine lv_icmp_ge (tgt := 49) hx hb dX9_says_21 (by decide) (fun c2 => ?_) (fun c2 => ?_)
    · have hq := hq.1 c2
      refine lv_iconst (v := (1 : Int32)) hx hb dX9_says_49 (by decide) ?_
      exact sy_zret C hh dX9_says_50 (by decide) hq
    · have hq := hq.2 c2
      refine lv_aload_n hx hb dX9_says_24 rfl (lv_at hl 0 rfl) ?_
      refine lv_iload_n hx hb dX9_says_25 rfl (lv_at hl 2 rfl) ?_
      refine lv_iload hx hb dX9_says_26 (lv_at hl 3 rfl) ?_
      refine lv_iadd hx hb dX9_says_28 ?_
      refine sy_cIV C hh (As := [.int (x2 + x4)]) (rest := []) 1 (by decide) (oX_1 Y) rfl (mX9_byteAt l Y _ M (x2 + x4) _ hq) (cwV 1 C.1.2.2.2.2 (sy_goodV uX_good uX_366 uX_347 uX_348 uX_329 uX_338 _) rfl rfl rfl hdX9_byteAt ⟨Nat.le_of_ble_eq_true rfl, Nat.le_of_ble_eq_true rfl⟩) rfl hl.1 rfl (Nat.le_of_ble_eq_true rfl) dX9_says_29 (fun r4 M3 H locs hq hh => ?_)
      refine lv_aload_n hx hb dX9_says_32 rfl (lv_at hl 1 rfl) ?_
      refine lv_iload hx hb dX9_says_33 (lv_at hl 3 rfl) ?_
      obtain ⟨n5, hn5, en5, hq⟩ := hq
      refine sy_schar_X9_says C hh hl hx1 hn5 en5 (Nat.le_of_ble_eq_true rfl) dX9_says_35 (fun H locs hh => ?_)
      refine lv_icmp_eq (tgt := 43) hx hb dX9_says_38 (by decide) (fun c6 => ?_) (fun c6 => ?_)
      · have hq := hq.1 c6
        refine lv_iinc (v := (x4 + (1 : Int32))) (lv' := [(4, .int (x4 + (1 : Int32))), (0, .ref (Y.2.1 1)), (1, .ref (Y.2.2.2.1 x1)), (2, .int x2)]) hx hb dX9_says_43 hl (k := 3) rfl (sy_inc (by decide)) (by decide) rfl (fun ls hl => ?_)
        refine lv_goto (tgt := 15) hx hb dX9_says_46 (by decide) ?_
        exact ih M3 x1 x2 (x4 + (1 : Int32)) hx1 _ _ _ hq hh (lv_sub hl [1, 2, 3, 0] rfl)
      · have hq := hq.2 c6
        refine lv_iconst (v := (0 : Int32)) hx hb dX9_says_41 (by decide) ?_
        exact sy_zret C hh dX9_says_42 (by decide) hq

end
set_option maxHeartbeats 4000000 in
set_option maxRecDepth 100000 in
theorem mX9_says (l : Launch) (Y : sy_Y) (sz : Nat) (M : sy_M) (w1 : Nat) (hw1 : w1 < 5) (a2 : Int32) (a3 : Int32) (Q : Int32 → sy_M → Prop) (hq : wX9_says M w1 a2 a3 Q) : Met l yX9_says vsX9_says ({ frames := 6, cells := 0, slots := 0, locals := 200 } : Room) (va_Pc [.ref (Y.2.1 1), .ref (Y.2.2.2.1 w1), .int a2, .int a3] (sy_pre Y NX EX tfX sz M)) (sy_QI Y NX EX sz Q) 0 0 (sy_A NX Y.2.1 sz) := by
  refine sy_metI (by decide) rfl (Nat.le_of_ble_eq_true rfl) ?_
  intro p e s m args below meth c C ls hl hh
  have hx := C.1.1
  have hb := C.1.2.1
  have hl : lv_has ls 5 [(0, .ref (Y.2.1 1)), (1, .ref (Y.2.2.2.1 w1)), (2, .int a2), (3, .int a3)] := hl
  unfold wX9_says at hq
  refine lv_iload_n hx hb dX9_says_0 rfl (lv_at hl 3 rfl) ?_
  refine lv_iload_n hx hb dX9_says_1 rfl (lv_at hl 2 rfl) ?_
  refine lv_isub hx hb dX9_says_2 ?_
  refine lv_aload_n hx hb dX9_says_3 rfl (lv_at hl 1 rfl) ?_
  refine sy_slen_X9_says C hh hl hw1 (Nat.le_of_ble_eq_true rfl) dX9_says_4 (fun H locs hh => ?_)
  refine lv_icmp_eq (tgt := 12) hx hb dX9_says_7 (by decide) (fun c1 => ?_) (fun c1 => ?_)
  · have hq := hq.1 c1
    refine lv_iconst (v := (0 : Int32)) hx hb dX9_says_12 (by decide) ?_
    refine lv_istore (lv' := [(4, .int (0 : Int32)), (0, .ref (Y.2.1 1)), (1, .ref (Y.2.2.2.1 w1)), (2, .int a2), (3, .int a3)]) hx hb dX9_says_13 hl (by decide) rfl (fun ls hl => ?_)
    obtain ⟨n7, hq⟩ := hq
    refine kX9_says_15 C  n7 M w1 a2 (0 : Int32) hw1 _ _ _ hq hh (lv_sub hl [1, 2, 3, 0] rfl)
  · have hq := hq.2 c1
    refine lv_iconst (v := (0 : Int32)) hx hb dX9_says_10 (by decide) ?_
    exact sy_zret C hh dX9_says_11 (by decide) hq

/-! AreaSetter$Reader.isWord(Ljava/lang/String;)Z -/
def wX6_isWord (M : sy_M) (w1 : Nat) (Q : Int32 → sy_M → Prop) : Prop := ((¬ (M 3 5) = (nI 97) → Q (0 : Int32) M) ∧ ((M 3 5) = (nI 97) → wX9_says M w1 (M 3 6) (M 3 7) (fun r3 M2 => ((r3 = 0 → Q (0 : Int32) M2) ∧ (¬ r3 = 0 → Q (1 : Int32) M2)))))
section
variable {p : Program} {l : Launch} {e : Env} {s : State} {m : MethodId} {args : Array Value} {below : List Frame} {meth : Method} {c : Code} {Y : sy_Y}
end
set_option maxHeartbeats 4000000 in
set_option maxRecDepth 100000 in
theorem mX6_isWord (l : Launch) (Y : sy_Y) (sz : Nat) (M : sy_M) (w1 : Nat) (hw1 : w1 < 5) (Q : Int32 → sy_M → Prop) (hq : wX6_isWord M w1 Q) : Met l yX6_isWord vsX6_isWord ({ frames := 7, cells := 0, slots := 0, locals := 224 } : Room) (va_Pc [.ref (Y.2.1 3), .ref (Y.2.2.2.1 w1)] (sy_pre Y NX EX tfX sz M)) (sy_QI Y NX EX sz Q) 0 0 (sy_A NX Y.2.1 sz) := by
  refine sy_metI (by decide) rfl (Nat.le_of_ble_eq_true rfl) ?_
  intro p e s m args below meth c C ls hl hh
  have hx := C.1.1
  have hb := C.1.2.1
  have hl : lv_has ls 2 [(0, .ref (Y.2.1 3)), (1, .ref (Y.2.2.2.1 w1))] := hl
  unfold wX6_isWord at hq
  refine lv_aload_n hx hb dX6_isWord_0 rfl (lv_at hl 0 rfl) ?_
  refine sy_get C hh (fun w h => mc (uX_fX6 w h)) 3 (by decide) (oX_3 Y) rfl 5 (by decide) (index := 54) (mc uX_345) (v := .int (M 3 5)) rfl dX6_isWord_1 ?_
  refine lv_bipush (v := (nI 97)) hx hb dX6_isWord_4 (by decide) ?_
  refine lv_icmp_ne (tgt := 32) hx hb dX6_isWord_6 (by decide) (fun c1 => ?_) (fun c1 => ?_)
  · have hq := hq.1 c1
    refine lv_iconst (v := (0 : Int32)) hx hb dX6_isWord_32 (by decide) ?_
    exact sy_zret C hh dX6_isWord_33 (by decide) hq
  · have hq := hq.2 c1
    refine lv_aload_n hx hb dX6_isWord_9 rfl (lv_at hl 0 rfl) ?_
    refine sy_get C hh (fun w h => mc (uX_fX6 w h)) 3 (by decide) (oX_3 Y) rfl 0 (by decide) (index := 12) (mc uX_330) (v := .ref (Y.2.1 1)) rfl dX6_isWord_10 ?_
    refine lv_aload_n hx hb dX6_isWord_13 rfl (lv_at hl 1 rfl) ?_
    refine lv_aload_n hx hb dX6_isWord_14 rfl (lv_at hl 0 rfl) ?_
    refine sy_get C hh (fun w h => mc (uX_fX6 w h)) 3 (by decide) (oX_3 Y) rfl 6 (by decide) (index := 51) (mc uX_343) (v := .int (M 3 6)) rfl dX6_isWord_15 ?_
    refine lv_aload_n hx hb dX6_isWord_18 rfl (lv_at hl 0 rfl) ?_
    refine sy_get C hh (fun w h => mc (uX_fX6 w h)) 3 (by decide) (oX_3 Y) rfl 7 (by decide) (index := 41) (mc uX_342) (v := .int (M 3 7)) rfl dX6_isWord_19 ?_
    refine sy_cIV C hh (As := [.ref (Y.2.2.2.1 w1), .int (M 3 6), .int (M 3 7)]) (rest := []) 1 (by decide) (oX_1 Y) rfl (mX9_says l Y _ M w1 hw1 (M 3 6) (M 3 7) _ hq) (cwV 3 C.1.2.2.2.2 (sy_goodV uX_good uX_405 uX_406 uX_407 uX_329 uX_404 _) rfl rfl rfl hdX9_says ⟨Nat.le_of_ble_eq_true rfl, Nat.le_of_ble_eq_true rfl⟩) rfl hl.1 rfl (Nat.le_of_ble_eq_true rfl) dX6_isWord_22 (fun r3 M2 H locs hq hh => ?_)
    refine lv_if_eq (tgt := 32) hx hb dX6_isWord_25 (by decide) (fun c4 => ?_) (fun c4 => ?_)
    · have hq := hq.1 c4
      refine lv_iconst (v := (0 : Int32)) hx hb dX6_isWord_32 (by decide) ?_
      exact sy_zret C hh dX6_isWord_33 (by decide) hq
    · have hq := hq.2 c4
      refine lv_iconst (v := (1 : Int32)) hx hb dX6_isWord_28 (by decide) ?_
      refine lv_goto (tgt := 33) hx hb dX6_isWord_29 (by decide) ?_
      exact sy_zret C hh dX6_isWord_33 (by decide) hq

/-! AreaSetter$Tree.has(I)Z -/
def wX10_has (M : sy_M) (p0 : Nat) (a1 : Int32) (Q : Int32 → sy_M → Prop) : Prop := ((a1 < 0 → Q (0 : Int32) M) ∧ (¬ a1 < 0 → (((M p0 0) ≤ a1 → Q (0 : Int32) M) ∧ (¬ (M p0 0) ≤ a1 → Q (1 : Int32) M))))
section
variable {p : Program} {l : Launch} {e : Env} {s : State} {m : MethodId} {args : Array Value} {below : List Frame} {meth : Method} {c : Code} {Y : sy_Y}
end
set_option maxHeartbeats 4000000 in
set_option maxRecDepth 100000 in
theorem mX10_has (l : Launch) (Y : sy_Y) (sz : Nat) (M : sy_M) (p0 : Nat) (hp0 : iX10 p0) (a1 : Int32) (Q : Int32 → sy_M → Prop) (hq : wX10_has M p0 a1 Q) : Met l yX10_has vsX10_has ({ frames := 0, cells := 0, slots := 0, locals := 0 } : Room) (va_Pc [.ref (Y.2.1 p0), .int a1] (sy_pre Y NX EX tfX sz M)) (sy_QI Y NX EX sz Q) 0 0 (sy_A NX Y.2.1 sz) := by
  refine sy_metI (by decide) rfl (Nat.le_of_ble_eq_true rfl) ?_
  intro p e s m args below meth c C ls hl hh
  have hx := C.1.1
  have hb := C.1.2.1
  have hl : lv_has ls 2 [(0, .ref (Y.2.1 p0)), (1, .int a1)] := hl
  unfold wX10_has at hq
  refine lv_iload_n hx hb dX10_has_0 rfl (lv_at hl 1 rfl) ?_
  refine lv_if_lt (tgt := 16) hx hb dX10_has_1 (by decide) (fun c1 => ?_) (fun c1 => ?_)
  · have hq := hq.1 c1
    refine lv_iconst (v := (0 : Int32)) hx hb dX10_has_16 (by decide) ?_
    exact sy_zret C hh dX10_has_17 (by decide) hq
  · have hq := hq.2 c1
    refine lv_iload_n hx hb dX10_has_4 rfl (lv_at hl 1 rfl) ?_
    refine lv_aload_n hx hb dX10_has_5 rfl (lv_at hl 0 rfl) ?_
    refine sy_get C hh (fun w h => mc (uX_fX10 w h)) p0 (iX10_N hp0) (oX10 hp0) rfl 0 (by decide) (index := 9) (mc uX_12) (v := .int (M p0 0)) rfl dX10_has_6 ?_
    refine lv_icmp_ge (tgt := 16) hx hb dX10_has_9 (by decide) (fun c2 => ?_) (fun c2 => ?_)
    · have hq := hq.1 c2
      refine lv_iconst (v := (0 : Int32)) hx hb dX10_has_16 (by decide) ?_
      exact sy_zret C hh dX10_has_17 (by decide) hq
    · have hq := hq.2 c2
      refine lv_iconst (v := (1 : Int32)) hx hb dX10_has_12 (by decide) ?_
      refine lv_goto (tgt := 17) hx hb dX10_has_13 (by decide) ?_
      exact sy_zret C hh dX10_has_17 (by decide) hq

/-! AreaSetter$Reader.takeClosing()I -/
def wX6_takeClosing_31 (Q : Int32 → sy_M → Prop) (M : sy_M) (s1 : Int32) : Prop := ((¬ s1 = (-1 : Int32) → Q (0 : Int32) (mu (mu M 3 4 s1) 3 3 (nI 4))) ∧ (s1 = (-1 : Int32) → Q (0 : Int32) (mu (mu M 3 4 s1) 3 3 (nI 5))))
def wX6_takeClosing (M : sy_M)  (Q : Int32 → sy_M → Prop) : Prop := ∃ t1 : Nat, (M 3 2) = nI t1 ∧ iX10 t1 ∧ wX10_has M t1 (M 3 4) (fun r3 M2 => ((r3 = 0 → wX6_takeClosing_31  Q M2 (-1 : Int32)) ∧ (¬ r3 = 0 → ∃ t6 : Nat, (M2 3 2) = nI t6 ∧ iX10 t6 ∧ ∃ n7 : Nat, n7 < 40 ∧ (M2 3 4) = nI n7 ∧ wX6_takeClosing_31  Q M2 (M2 (t6 + 1) n7))))
section
variable {p : Program} {l : Launch} {e : Env} {s : State} {m : MethodId} {args : Array Value} {below : List Frame} {meth : Method} {c : Code} {Y : sy_Y}
set_option maxHeartbeats 4000000 in
set_option maxRecDepth 100000 in
theorem kX6_takeClosing_31 (C : sy_C p m c cX6_takeClosing 1 s args vsX6_takeClosing RX6 meth (some .int) Y NX tfX) {Q : Int32 → sy_M → Prop} :
    ∀ (M : sy_M) (s1 : Int32) (H : Heap) (locs : List Loc) (ls : Array Slot), wX6_takeClosing_31 Q M s1 → sy_H Y NX EX s H locs M → lv_has ls 1 [(0, .ref (Y.2.1 3))] → W p l e ({ frames := 1, cells := 0, slots := 0, locals := 21 } : Room) s m args below meth c H locs 0 0 (sy_ZI below args s Y NX EX Q) (F0 m 31 ls [.int s1, .ref (Y.2.1 3)]) := by
  have hx := C.1.1
  have hb := C.1.2.1
  intro M s1 H locs ls hq hh hl
  unfold wX6_takeClosing_31 at hq
  refine sy_put C hh (fun w h => mc (uX_fX6 w h)) tyX6 tyX6_ok nmX6 3 (by decide) (oX_3 Y) rfl 4 (by decide) (index := 38) (mc uX_426) rfl 4 s1 (ty := .int) (tyX6_ok 4 (by decide)) rfl rfl (Nat.le_of_ble_eq_true rfl) (pX6_4 Y _ _ _) dX6_takeClosing_31 (fun H locs hh => ?_)
  refine lv_aload_n hx hb dX6_takeClosing_34 rfl (lv_at hl 0 rfl) ?_
  refine lv_aload_n hx hb dX6_takeClosing_35 rfl (lv_at hl 0 rfl) ?_
  refine sy_get C hh (fun w h => mc (uX_fX6 w h)) 3 (by decide) (oX_3 Y) rfl 4 (by decide) (index := 38) (mc uX_426) (v := .int s1) rfl dX6_takeClosing_36 ?_
  refine lv_iconst (v := (-1 : Int32)) hx hb dX6_takeClosing_39 (by decide) ?_
  refine lv_icmp_ne (tgt := 47) hx hb dX6_takeClosing_40 (by decide) (fun c5 => ?_) (fun c5 => ?_)
  · have hq := hq.1 c5
    refine lv_iconst (v := (nI 4)) hx hb dX6_takeClosing_47 (by decide) ?_
    refine sy_put C hh (fun w h => mc (uX_fX6 w h)) tyX6 tyX6_ok nmX6 3 (by decide) (oX_3 Y) rfl 3 (by decide) (index := 35) (mc uX_428) rfl 3 (nI 4) (ty := .int) (tyX6_ok 3 (by decide)) rfl rfl (Nat.le_of_ble_eq_true rfl) (pX6_3 Y _ _ _) dX6_takeClosing_48 (fun H locs hh => ?_)
    refine lv_iconst (v := (0 : Int32)) hx hb dX6_takeClosing_51 (by decide) ?_
    exact sy_iret C hh dX6_takeClosing_52 hq
  · have hq := hq.2 c5
    refine lv_iconst (v := (nI 5)) hx hb dX6_takeClosing_43 (by decide) ?_
    refine lv_goto (tgt := 48) hx hb dX6_takeClosing_44 (by decide) ?_
    refine sy_put C hh (fun w h => mc (uX_fX6 w h)) tyX6 tyX6_ok nmX6 3 (by decide) (oX_3 Y) rfl 3 (by decide) (index := 35) (mc uX_428) rfl 3 (nI 5) (ty := .int) (tyX6_ok 3 (by decide)) rfl rfl (Nat.le_of_ble_eq_true rfl) (pX6_3 Y _ _ _) dX6_takeClosing_48 (fun H locs hh => ?_)
    refine lv_iconst (v := (0 : Int32)) hx hb dX6_takeClosing_51 (by decide) ?_
    exact sy_iret C hh dX6_takeClosing_52 hq

end
set_option maxHeartbeats 4000000 in
set_option maxRecDepth 100000 in
theorem mX6_takeClosing (l : Launch) (Y : sy_Y) (sz : Nat) (M : sy_M) (Q : Int32 → sy_M → Prop) (hq : wX6_takeClosing M  Q) : Met l yX6_takeClosing vsX6_takeClosing ({ frames := 1, cells := 0, slots := 0, locals := 21 } : Room) (va_Pc [.ref (Y.2.1 3)] (sy_pre Y NX EX tfX sz M)) (sy_QI Y NX EX sz Q) 0 0 (sy_A NX Y.2.1 sz) := by
  refine sy_metI (by decide) rfl (Nat.le_of_ble_eq_true rfl) ?_
  intro p e s m args below meth c C ls hl hh
  have hx := C.1.1
  have hb := C.1.2.1
  have hl : lv_has ls 1 [(0, .ref (Y.2.1 3))] := hl
  unfold wX6_takeClosing at hq
  refine lv_aload_n hx hb dX6_takeClosing_0 rfl (lv_at hl 0 rfl) ?_
  refine lv_aload_n hx hb dX6_takeClosing_1 rfl (lv_at hl 0 rfl) ?_
  obtain ⟨t1, et1, ht1, hq⟩ := hq
  refine sy_get C hh (fun w h => mc (uX_fX6 w h)) 3 (by decide) (oX_3 Y) rfl 1 (by decide) (index := 21) (mc uX_333) (v := .ref (Y.2.1 t1)) (sy_rf_of et1 (by have := iX10_lt ht1; omega)) dX6_takeClosing_2 ?_
  refine lv_aload_n hx hb dX6_takeClosing_5 rfl (lv_at hl 0 rfl) ?_
  refine sy_get C hh (fun w h => mc (uX_fX6 w h)) 3 (by decide) (oX_3 Y) rfl 4 (by decide) (index := 38) (mc uX_426) (v := .int (M 3 4)) rfl dX6_takeClosing_6 ?_
  refine sy_cIV C hh (As := [.int (M 3 4)]) (rest := [.ref (Y.2.1 3)]) t1 (iX10_N ht1) (oX10 ht1) rfl (mX10_has l Y _ M t1 ht1 (M 3 4) _ hq) (cwV 1 C.1.2.2.2.2 (sy_goodV uX_good uX_432 uX_18 uX_19 uX_20 uX_11 _) rfl rfl rfl hdX10_has ⟨Nat.le_of_ble_eq_true rfl, Nat.le_of_ble_eq_true rfl⟩) rfl hl.1 rfl (Nat.le_of_ble_eq_true rfl) dX6_takeClosing_9 (fun r3 M2 H locs hq hh => ?_)
  refine lv_if_eq (tgt := 30) hx hb dX6_takeClosing_12 (by decide) (fun c4 => ?_) (fun c4 => ?_)
  · have hq := hq.1 c4
    refine lv_iconst (v := (-1 : Int32)) hx hb dX6_takeClosing_30 (by decide) ?_
    refine kX6_takeClosing_31 C  M2 (-1 : Int32) _ _ _ hq hh (lv_sub hl [0] rfl)
  · have hq := hq.2 c4
    refine lv_aload_n hx hb dX6_takeClosing_15 rfl (lv_at hl 0 rfl) ?_
    obtain ⟨t6, et6, ht6, hq⟩ := hq
    refine sy_get C hh (fun w h => mc (uX_fX6 w h)) 3 (by decide) (oX_3 Y) rfl 1 (by decide) (index := 21) (mc uX_333) (v := .ref (Y.2.1 t6)) (sy_rf_of et6 (by have := iX10_lt ht6; omega)) dX6_takeClosing_16 ?_
    refine sy_get C hh (fun w h => mc (uX_fX10 w h)) t6 (iX10_N ht6) (oX10 ht6) rfl 2 (by decide) (index := 126) (mc uX_450) (v := .ref (Y.2.1 (t6 + 1))) rfl dX6_takeClosing_19 ?_
    refine lv_aload_n hx hb dX6_takeClosing_22 rfl (lv_at hl 0 rfl) ?_
    refine sy_get C hh (fun w h => mc (uX_fX6 w h)) 3 (by decide) (oX_3 Y) rfl 4 (by decide) (index := 38) (mc uX_426) (v := .int (M2 3 4)) rfl dX6_takeClosing_23 ?_
    obtain ⟨n7, hn7, en7, hq⟩ := hq
    refine sy_iald C hh (t6 + 1) (iX10_N1 ht6) (aX10_1 ht6) (tX10_1 ht6) hn7 en7 (by decide) dX6_takeClosing_26 ?_
    refine lv_goto (tgt := 31) hx hb dX6_takeClosing_27 (by decide) ?_
    refine kX6_takeClosing_31 C  M2 (M2 (t6 + 1) n7) _ _ _ hq hh (lv_sub hl [0] rfl)

