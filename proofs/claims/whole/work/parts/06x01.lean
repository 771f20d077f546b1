/-! AreaSetter$Reader.howOfWord()I -/
def wX6_howOfWord (M : sy_M)  (Q : Int32 → sy_M → Prop) : Prop := wX6_isWord M 1 (fun r2 M1 => ((r2 = 0 → wX6_isWord M1 2 (fun r5 M4 => ((r5 = 0 → wX6_isWord M4 3 (fun r8 M7 => ((r8 = 0 → wX6_isWord M7 4 (fun r11 M10 => ((r11 = 0 → Q (-1 : Int32) M10) ∧ (¬ r11 = 0 → Q (nI 3) M10)))) ∧ (¬ r8 = 0 → Q (nI 2) M7)))) ∧ (¬ r5 = 0 → Q (1 : Int32) M4)))) ∧ (¬ r2 = 0 → Q (0 : Int32) M1)))
section
variable {p : Program} {l : Launch} {e : Env} {s : State} {m : MethodId} {args : Array Value} {below : List Frame} {meth : Method} {c : Code} {Y : sy_Y}
end
set_option maxHeartbeats 4000000 in
set_option maxRecDepth 100000 in
theorem mX6_howOfWord (l : Launch) (Y : sy_Y) (sz : Nat) (M : sy_M) (Q : Int32 → sy_M → Prop) (hq : wX6_howOfWord M  Q) : Met l yX6_howOfWord vsX6_howOfWord ({ frames := 8, cells := 0, slots := 0, locals := 245 } : Room) (va_Pc [.ref (Y.2.1 3)] (sy_pre Y NX EX tfX sz M)) (sy_QI Y NX EX sz Q) 0 0 (sy_A NX Y.2.1 sz) := by
  refine sy_metI (by decide) rfl (Nat.le_of_ble_eq_true rfl) ?_
  intro p e s m args below meth c C ls hl hh
  have hx := C.1.1
  have hb := C.1.2.1
  have hl : lv_has ls 1 [(0, .ref (Y.2.1 3))] := hl
  unfold wX6_howOfWord at hq
  refine lv_aload_n hx hb dX6_howOfWord_0 rfl (lv_at hl 0 rfl) ?_
  refine va_ldcS hx hb C.1.2.2.2.1 (C.2.1.2.2.1.2.1 ("AreaSetter$Reader", 133, 1) (by decide +kernel)) dX6_howOfWord_1 ?_
  refine sy_cIV C hh (As := [.ref (Y.2.2.2.1 1)]) (rest := []) 3 (by decide) (oX_3 Y) rfl (mX6_isWord l Y _ M 1 (by decide) _ hq) (cwV 1 C.1.2.2.2.2 (sy_goodV uX_good uX_409 uX_410 uX_411 uX_351 uX_408 _) rfl rfl rfl hdX6_isWord ⟨Nat.le_of_ble_eq_true rfl, Nat.le_of_ble_eq_true rfl⟩) rfl hl.1 rfl (Nat.le_of_ble_eq_true rfl) dX6_howOfWord_3 (fun r2 M1 H locs hq hh => ?_)
  refine lv_if_eq (tgt := 11) hx hb dX6_howOfWord_6 (by decide) (fun c3 => ?_) (fun c3 => ?_)
  · have hq := hq.1 c3
    refine lv_aload_n hx hb dX6_howOfWord_11 rfl (lv_at hl 0 rfl) ?_
    refine va_ldcS hx hb C.1.2.2.2.1 (C.2.1.2.2.1.2.1 ("AreaSetter$Reader", 135, 2) (by decide +kernel)) dX6_howOfWord_12 ?_
    refine sy_cIV C hh (As := [.ref (Y.2.2.2.1 2)]) (rest := []) 3 (by decide) (oX_3 Y) rfl (mX6_isWord l Y _ M1 2 (by decide) _ hq) (cwV 1 C.1.2.2.2.2 (sy_goodV uX_good uX_409 uX_410 uX_411 uX_351 uX_408 _) rfl rfl rfl hdX6_isWord ⟨Nat.le_of_ble_eq_true rfl, Nat.le_of_ble_eq_true rfl⟩) rfl hl.1 rfl (Nat.le_of_ble_eq_true rfl) dX6_howOfWord_14 (fun r5 M4 H locs hq hh => ?_)
    refine lv_if_eq (tgt := 22) hx hb dX6_howOfWord_17 (by decide) (fun c6 => ?_) (fun c6 => ?_)
    · have hq := hq.1 c6
      refine lv_aload_n hx hb dX6_howOfWord_22 rfl (lv_at hl 0 rfl) ?_
      refine va_ldcS hx hb C.1.2.2.2.1 (C.2.1.2.2.1.2.1 ("AreaSetter$Reader", 137, 3) (by decide +kernel)) dX6_howOfWord_23 ?_
      refine sy_cIV C hh (As := [.ref (Y.2.2.2.1 3)]) (rest := []) 3 (by decide) (oX_3 Y) rfl (mX6_isWord l Y _ M4 3 (by decide) _ hq) (cwV 1 C.1.2.2.2.2 (sy_goodV uX_good uX_409 uX_410 uX_411 uX_351 uX_408 _) rfl rfl rfl hdX6_isWord ⟨Nat.le_of_ble_eq_true rfl, Nat.le_of_ble_eq_true rfl⟩) rfl hl.1 rfl (Nat.le_of_ble_eq_true rfl) dX6_howOfWord_25 (fun r8 M7 H locs hq hh => ?_)
      refine lv_if_eq (tgt := 33) hx hb dX6_howOfWord_28 (by decide) (fun c9 => ?_) (fun c9 => ?_)
      · have hq := hq.1 c9
        refine lv_aload_n hx hb dX6_howOfWord_33 rfl (lv_at hl 0 rfl) ?_
        refine va_ldcS hx hb C.1.2.2.2.1 (C.2.1.2.2.1.2.1 ("AreaSetter$Reader", 139, 4) (by decide +kernel)) dX6_howOfWord_34 ?_
        refine sy_cIV C hh (As := [.ref (Y.2.2.2.1 4)]) (rest := []) 3 (by decide) (oX_3 Y) rfl (mX6_isWord l Y _ M7 4 (by decide) _ hq) (cwV 1 C.1.2.2.2.2 (sy_goodV uX_good uX_409 uX_410 uX_411 uX_351 uX_408 _) rfl rfl rfl hdX6_isWord ⟨Nat.le_of_ble_eq_true rfl, Nat.le_of_ble_eq_true rfl⟩) rfl hl.1 rfl (Nat.le_of_ble_eq_true rfl) dX6_howOfWord_36 (fun r11 M10 H locs hq hh => ?_)
        refine lv_if_eq (tgt := 46) hx hb dX6_howOfWord_39 (by decide) (fun c12 => ?_) (fun c12 => ?_)
        · have hq := hq.1 c12
          refine lv_iconst (v := (-1 : Int32)) hx hb dX6_howOfWord_46 (by decide) ?_
          exact sy_iret C hh dX6_howOfWord_47 hq
        · have hq := hq.2 c12
          refine lv_iconst (v := (nI 3)) hx hb dX6_howOfWord_42 (by decide) ?_
          refine lv_goto (tgt := 47) hx hb dX6_howOfWord_43 (by decide) ?_
          exact sy_iret C hh dX6_howOfWord_47 hq
      · have hq := hq.2 c9
        refine lv_iconst (v := (nI 2)) hx hb dX6_howOfWord_31 (by decide) ?_
        exact sy_iret C hh dX6_howOfWord_32 hq
    · have hq := hq.2 c6
      refine lv_iconst (v := (1 : Int32)) hx hb dX6_howOfWord_20 (by decide) ?_
      exact sy_iret C hh dX6_howOfWord_21 hq
  · have hq := hq.2 c3
    refine lv_iconst (v := (0 : Int32)) hx hb dX6_howOfWord_9 (by decide) ?_
    exact sy_iret C hh dX6_howOfWord_10 hq

/-! AreaSetter$Reader.takeHow()I -/
def wX6_takeHow (M : sy_M)  (Q : Int32 → sy_M → Prop) : Prop := wX6_howOfWord M (fun r2 M1 => ∃ t3 : Nat, (M1 3 2) = nI t3 ∧ iX10 t3 ∧ ((r2 = (-1 : Int32) → Q (1 : Int32) M1) ∧ (¬ r2 = (-1 : Int32) → ∃ t5 : Nat, (M1 3 2) = nI t5 ∧ iX10 t5 ∧ wX10_has M1 t5 ((M1 t3 0) - (1 : Int32)) (fun r7 M6 => ((¬ r7 = 0 → ∃ t9 : Nat, (M6 3 2) = nI t9 ∧ iX10 t9 ∧ ∃ n10 : Nat, n10 < 40 ∧ ((M1 t3 0) - (1 : Int32)) = nI n10 ∧ (((M6 (t9 + 4) n10) ≤ (nI 5) → ∃ t12 : Nat, (M6 3 2) = nI t12 ∧ iX10 t12 ∧ ∃ t13 : Nat, ((mu M6 (t12 + 2) n10 r2) 3 2) = nI t13 ∧ iX10 t13 ∧ Q (0 : Int32) (mu (mu (mu (mu M6 (t12 + 2) n10 r2) t13 1 (((mu M6 (t12 + 2) n10 r2) t13 1) + (1 : Int32))) 3 4 ((M1 t3 0) - (1 : Int32))) 3 3 (nI 2))) ∧ (¬ (M6 (t9 + 4) n10) ≤ (nI 5) → Q (nI 2) M6))) ∧ (r7 = 0 → Q (1 : Int32) M6))))))
section
variable {p : Program} {l : Launch} {e : Env} {s : State} {m : MethodId} {args : Array Value} {below : List Frame} {meth : Method} {c : Code} {Y : sy_Y}
end
set_option maxHeartbeats 4000000 in
set_option maxRecDepth 100000 in
theorem mX6_takeHow (l : Launch) (Y : sy_Y) (sz : Nat) (M : sy_M) (Q : Int32 → sy_M → Prop) (hq : wX6_takeHow M  Q) : Met l yX6_takeHow vsX6_takeHow ({ frames := 9, cells := 0, slots := 0, locals := 265 } : Room) (va_Pc [.ref (Y.2.1 3)] (sy_pre Y NX EX tfX sz M)) (sy_QI Y NX EX sz Q) 0 0 (sy_A NX Y.2.1 sz) := by
  refine sy_metI (by decide) rfl (Nat.le_of_ble_eq_true rfl) ?_
  intro p e s m args below meth c C ls hl hh
  have hx := C.1.1
  have hb := C.1.2.1
  have hl : lv_has ls 3 [(0, .ref (Y.2.1 3))] := hl
  unfold wX6_takeHow at hq
  refine lv_aload_n hx hb dX6_takeHow_0 rfl (lv_at hl 0 rfl) ?_
  refine sy_cIV C hh (As := []) (rest := []) 3 (by decide) (oX_3 Y) rfl (mX6_howOfWord l Y _ M  _ hq) (cwV 0 C.1.2.2.2.2 (sy_goodV uX_good uX_429 uX_430 uX_431 uX_351 uX_412 _) rfl rfl rfl hdX6_howOfWord ⟨Nat.le_of_ble_eq_true rfl, Nat.le_of_ble_eq_true rfl⟩) rfl hl.1 rfl (Nat.le_of_ble_eq_true rfl) dX6_takeHow_1 (fun r2 M1 H locs hq hh => ?_)
  refine lv_istore_n (lv' := [(1, .int r2), (0, .ref (Y.2.1 3))]) hx hb dX6_takeHow_4 rfl hl (by decide) rfl (fun ls hl => ?_)
  refine lv_aload_n hx hb dX6_takeHow_5 rfl (lv_at hl 1 rfl) ?_
  obtain ⟨t3, et3, ht3, hq⟩ := hq
  refine sy_get C hh (fun w h => mc (uX_fX6 w h)) 3 (by decide) (oX_3 Y) rfl 1 (by decide) (index := 21) (mc uX_333) (v := .ref (Y.2.1 t3)) (sy_rf_of et3 (by have := iX10_lt ht3; omega)) dX6_takeHow_6 ?_
  refine sy_get C hh (fun w h => mc (uX_fX10 w h)) t3 (iX10_N ht3) (oX10 ht3) rfl 0 (by decide) (index := 29) (mc uX_425) (v := .int (M1 t3 0)) rfl dX6_takeHow_9 ?_
  refine lv_iconst (v := (1 : Int32)) hx hb dX6_takeHow_12 (by decide) ?_
  refine lv_isub hx hb dX6_takeHow_13 ?_
  refine lv_istore_n (lv' := [(2, .int ((M1 t3 0) - (1 : Int32))), (1, .int r2), (0, .ref (Y.2.1 3))]) hx hb dX6_takeHow_14 rfl hl (by decide) rfl (fun ls hl => ?_)
  refine lv_iload_n hx hb dX6_takeHow_15 rfl (lv_at hl 1 rfl) ?_
  refine lv_iconst (v := (-1 : Int32)) hx hb dX6_takeHow_16 (by decide) ?_
  refine lv_icmp_eq (tgt := 31) hx hb dX6_takeHow_17 (by decide) (fun c4 => ?_) (fun c4 => ?_)
  · have hq := hq.1 c4
    refine lv_iconst (v := (1 : Int32)) hx hb dX6_takeHow_31 (by decide) ?_
    exact sy_iret C hh dX6_takeHow_32 hq
  · have hq := hq.2 c4
    refine lv_aload_n hx hb dX6_takeHow_20 rfl (lv_at hl 2 rfl) ?_
    obtain ⟨t5, et5, ht5, hq⟩ := hq
    refine sy_get C hh (fun w h => mc (uX_fX6 w h)) 3 (by decide) (oX_3 Y) rfl 1 (by decide) (index := 21) (mc uX_333) (v := .ref (Y.2.1 t5)) (sy_rf_of et5 (by have := iX10_lt ht5; omega)) dX6_takeHow_21 ?_
    refine lv_iload_n hx hb dX6_takeHow_24 rfl (lv_at hl 0 rfl) ?_
    refine sy_cIV C hh (As := [.int ((M1 t3 0) - (1 : Int32))]) (rest := []) t5 (iX10_N ht5) (oX10 ht5) rfl (mX10_has l Y _ M1 t5 ht5 ((M1 t3 0) - (1 : Int32)) _ hq) (cwV 1 C.1.2.2.2.2 (sy_goodV uX_good uX_432 uX_18 uX_19 uX_20 uX_11 _) rfl rfl rfl hdX10_has ⟨Nat.le_of_ble_eq_true rfl, Nat.le_of_ble_eq_true rfl⟩) rfl hl.1 rfl (Nat.le_of_ble_eq_true rfl) dX6_takeHow_25 (fun r7 M6 H locs hq hh => ?_)
    refine lv_if_ne (tgt := 33) hx hb dX6_takeHow_28 (by decide) (fun c8 => ?_) (fun c8 => ?_)
    · have hq := hq.1 c8
      refine lv_aload_n hx hb dX6_takeHow_33 rfl (lv_at hl 2 rfl) ?_
      obtain ⟨t9, et9, ht9, hq⟩ := hq
      refine sy_get C hh (fun w h => mc (uX_fX6 w h)) 3 (by decide) (oX_3 Y) rfl 1 (by decide) (index := 21) (mc uX_333) (v := .ref (Y.2.1 t9)) (sy_rf_of et9 (by have := iX10_lt ht9; omega)) dX6_takeHow_34 ?_
      refine sy_get C hh (fun w h => mc (uX_fX10 w h)) t9 (iX10_N ht9) (oX10 ht9) rfl 5 (by decide) (index := 117) (mc uX_442) (v := .ref (Y.2.1 (t9 + 4))) rfl dX6_takeHow_37 ?_
      refine lv_iload_n hx hb dX6_takeHow_40 rfl (lv_at hl 0 rfl) ?_
      obtain ⟨n10, hn10, en10, hq⟩ := hq
      refine sy_iald C hh (t9 + 4) (iX10_N4 ht9) (aX10_4 ht9) (tX10_4 ht9) hn10 en10 (by decide) dX6_takeHow_41 ?_
      refine lv_iconst (v := (nI 5)) hx hb dX6_takeHow_42 (by decide) ?_
      refine lv_icmp_le (tgt := 48) hx hb dX6_takeHow_43 (by decide) (fun c11 => ?_) (fun c11 => ?_)
      · have hq := hq.1 c11
        refine lv_aload_n hx hb dX6_takeHow_48 rfl (lv_at hl 2 rfl) ?_
        obtain ⟨t12, et12, ht12, hq⟩ := hq
        refine sy_get C hh (fun w h => mc (uX_fX6 w h)) 3 (by decide) (oX_3 Y) rfl 1 (by decide) (index := 21) (mc uX_333) (v := .ref (Y.2.1 t12)) (sy_rf_of et12 (by have := iX10_lt ht12; omega)) dX6_takeHow_49 ?_
        refine sy_get C hh (fun w h => mc (uX_fX10 w h)) t12 (iX10_N ht12) (oX10 ht12) rfl 3 (by decide) (index := 120) (mc uX_443) (v := .ref (Y.2.1 (t12 + 2))) rfl dX6_takeHow_52 ?_
        refine lv_iload_n hx hb dX6_takeHow_55 rfl (lv_at hl 0 rfl) ?_
        refine lv_iload_n hx hb dX6_takeHow_56 rfl (lv_at hl 1 rfl) ?_
        refine sy_iast C hh (t12 + 2) (iX10_N2 ht12) (aX10_2 ht12) (tX10_2 ht12) hn10 en10 (by decide) dX6_takeHow_57 (fun H locs hh => ?_)
        refine lv_aload_n hx hb dX6_takeHow_58 rfl (lv_at hl 2 rfl) ?_
        obtain ⟨t13, et13, ht13, hq⟩ := hq
        refine sy_get C hh (fun w h => mc (uX_fX6 w h)) 3 (by decide) (oX_3 Y) rfl 1 (by decide) (index := 21) (mc uX_333) (v := .ref (Y.2.1 t13)) (sy_rf_of et13 (by have := iX10_lt ht13; omega)) dX6_takeHow_59 ?_
        refine lv_dup hx hb dX6_takeHow_62 rfl ?_
        refine sy_get C hh (fun w h => mc (uX_fX10 w h)) t13 (iX10_N ht13) (oX10 ht13) rfl 1 (by decide) (index := 32) (mc uX_444) (v := .int ((mu M6 (t12 + 2) n10 r2) t13 1)) rfl dX6_takeHow_63 ?_
        refine lv_iconst (v := (1 : Int32)) hx hb dX6_takeHow_66 (by decide) ?_
        refine lv_iadd hx hb dX6_takeHow_67 ?_
        refine sy_put C hh (fun w h => mc (uX_fX10 w h)) tyX10 tyX10_ok nmX10 t13 (iX10_N ht13) (oX10 ht13) rfl 1 (by decide) (index := 32) (mc uX_444) rfl 1 (((mu M6 (t12 + 2) n10 r2) t13 1) + (1 : Int32)) (ty := .int) (tyX10_ok 1 (by decide)) rfl rfl (Nat.le_of_ble_eq_true rfl) (pX10_1 Y _ _ _) dX6_takeHow_68 (fun H locs hh => ?_)
        refine lv_aload_n hx hb dX6_takeHow_71 rfl (lv_at hl 2 rfl) ?_
        refine lv_iload_n hx hb dX6_takeHow_72 rfl (lv_at hl 0 rfl) ?_
        refine sy_put C hh (fun w h => mc (uX_fX6 w h)) tyX6 tyX6_ok nmX6 3 (by decide) (oX_3 Y) rfl 4 (by decide) (index := 38) (mc uX_426) rfl 4 ((M1 t3 0) - (1 : Int32)) (ty := .int) (tyX6_ok 4 (by decide)) rfl rfl (Nat.le_of_ble_eq_true rfl) (pX6_4 Y _ _ _) dX6_takeHow_73 (fun H locs hh => ?_)
        refine lv_aload_n hx hb dX6_takeHow_76 rfl (lv_at hl 2 rfl) ?_
        refine lv_iconst (v := (nI 2)) hx hb dX6_takeHow_77 (by decide) ?_
        refine sy_put C hh (fun w h => mc (uX_fX6 w h)) tyX6 tyX6_ok nmX6 3 (by decide) (oX_3 Y) rfl 3 (by decide) (index := 35) (mc uX_428) rfl 3 (nI 2) (ty := .int) (tyX6_ok 3 (by decide)) rfl rfl (Nat.le_of_ble_eq_true rfl) (pX6_3 Y _ _ _) dX6_takeHow_78 (fun H locs hh => ?_)
        refine lv_iconst (v := (0 : Int32)) hx hb dX6_takeHow_81 (by decide) ?_
        exact sy_iret C hh dX6_takeHow_82 hq
      · have hq := hq.2 c11
        refine lv_iconst (v := (nI 2)) hx hb dX6_takeHow_46 (by decide) ?_
        exact sy_iret C hh dX6_takeHow_47 hq
    · have hq := hq.2 c8
      refine lv_iconst (v := (1 : Int32)) hx hb dX6_takeHow_31 (by decide) ?_
      exact sy_iret C hh dX6_takeHow_32 hq

/-! AreaSetter$Tree.addBox(ILAreaSetter$Tape;II)V -/
def wX10_addBox_142 (Q : sy_M → Prop) : Nat → sy_M → Nat → Int32 → Int32 → Int32 → Prop
  | 0, _, _, _, _, _ => False
  | n + 1, M, x0, x3, x5, x6 => ∃ n7 : Nat, n7 < 40 ∧ x5 = nI n7 ∧ (((M (x0 + 6) n7) ≤ x6 → Q M) ∧ (¬ (M (x0 + 6) n7) ≤ x6 → wX9_byteAt M (x3 + x6) (fun r10 M9 => ∃ n11 : Nat, n11 < 320 ∧ ((x5 * (nI 8)) + x6) = nI n11 ∧ wX10_addBox_142 Q n (mu M9 (x0 + 10) n11 (vp_nar .byte (r10.toInt8.toInt32))) x0 x3 x5 (x6 + (1 : Int32)))))
def wX10_addBox_123 (Q : sy_M → Prop) (M : sy_M) (x0 : Nat) (x3 : Int32) (x4 : Int32) (x5 : Int32) : Prop := ∃ n6 : Nat, n6 < 40 ∧ x5 = nI n6 ∧ ∃ n12 : Nat, wX10_addBox_142  Q n12 (mu M (x0 + 6) n6 (imin (x4 - x3) (nI 8))) x0 x3 x5 (0 : Int32)
def wX10_addBox (M : sy_M) (p0 : Nat) (a1 : Int32) (a3 : Int32) (a4 : Int32) (Q : sy_M → Prop) : Prop := (((M p0 0) < (nI 40) → ∃ n2 : Nat, n2 < 40 ∧ (M p0 0) = nI n2 ∧ wX10_has (mu (mu (mu (mu (mu (mu (mu (mu (mu M p0 0 ((M p0 0) + (1 : Int32))) (p0 + 1) n2 a1) (p0 + 2) n2 (-1 : Int32)) (p0 + 3) n2 (0 : Int32)) (p0 + 4) n2 (0 : Int32)) (p0 + 5) n2 (0 : Int32)) (p0 + 7) n2 (vp_nar .boolean (0 : Int32))) (p0 + 8) n2 (0 : Int32)) (p0 + 9) n2 (vp_nar .boolean (0 : Int32))) p0 a1 (fun r4 M3 => ((r4 = 0 → wX10_addBox_123  Q M3 p0 a3 a4 (M p0 0)) ∧ (¬ r4 = 0 → ∃ n13 : Nat, n13 < 40 ∧ a1 = nI n13 ∧ wX10_addBox_123  Q (mu (mu M3 (p0 + 3) n13 ((M3 (p0 + 3) n13) + (1 : Int32))) (p0 + 4) n2 (((mu M3 (p0 + 3) n13 ((M3 (p0 + 3) n13) + (1 : Int32))) (p0 + 4) n13) + (1 : Int32))) p0 a3 a4 (M p0 0))))) ∧ (¬ (M p0 0) < (nI 40) → Q M))
section
variable {p : Program} {l : Launch} {e : Env} {s : State} {m : MethodId} {args : Array Value} {below : List Frame} {meth : Method} {c : Code} {Y : sy_Y}
set_option maxHeartbeats 4000000 in
set_option maxRecDepth 100000 in
theorem kX10_addBox_142 (C : sy_C p m c cX10_addBox 7 s args vsX10_addBox RX10 meth none Y NX tfX) {Q : sy_M → Prop} :
    ∀ (n : Nat) (M : sy_M) (x0 : Nat) (x3 : Int32) (x5 : Int32) (x6 : Int32) (hx0 : iX10 x0) (H : Heap) (locs : List Loc) (ls : Array Slot), wX10_addBox_142 Q n M x0 x3 x5 x6 → sy_H Y NX EX s H locs M → lv_has ls 7 [(0, .ref (Y.2.1 x0)), (2, .ref (Y.2.1 1)), (3, .int x3), (5, .int x5), (6, .int x6)] → W p l e ({ frames := 1, cells := 0, slots := 0, locals := 21 } : Room) s m args below meth c H locs 0 0 (sy_ZV below args s Y NX EX Q) (F0 m 142 ls []) := by
  have hx := C.1.1
  have hb := C.1.2.1
  intro n
  induction n with
  | zero =>
    intro M x0 x3 x5 x6 hx0 H locs ls hq hh hl
    unfold wX10_addBox_142 at hq
    exact hq.elim
  | succ n ih =>
    intro M x0 x3 x5 x6 hx0 H locs ls hq hh hl
    unfold wX10_addBox_142 at hq
    refine lv_iload hx hb dX10_addBox_142 (lv_at hl 4 rfl) ?_
    refine lv_aload_n hx hb dX10_addBox_144 rfl (lv_at hl 0 rfl) ?_
    refine sy_get C hh (fun w h => mc (uX_fX10 w h)) x0 (iX10_N hx0) (oX10 hx0) rfl 7 (by decide) (index := 34) (mc uX_321) (v := .ref (Y.2.1 (x0 + 6))) rfl dX10_addBox_145 ?_
    refine lv_iload hx hb dX10_addBox_148 (lv_at hl 3 rfl) ?_
    obtain ⟨n7, hn7, en7, hq⟩ := hq
    refine sy_iald C hh (x0 + 6) (iX10_N6 hx0) (aX10_6 hx0) (tX10_6 hx0) hn7 en7 (by decide) dX10_addBox_150 ?_
    refine lv_icmp_ge (tgt := 182) hx hb dX10_addBox_151 (by decide) (fun c8 => ?_) (fun c8 => ?_)
    · have hq := hq.1 c8
      exact sy_vret C hh dX10_addBox_182 hq
    · have hq := hq.2 c8
      refine lv_aload_n hx hb dX10_addBox_154 rfl (lv_at hl 0 rfl) ?_
      refine sy_get C hh (fun w h => mc (uX_fX10 w h)) x0 (iX10_N hx0) (oX10 hx0) rfl 11 (by decide) (index := 47) (mc uX_325) (v := .ref (Y.2.1 (x0 + 10))) rfl dX10_addBox_155 ?_
      refine lv_iload hx hb dX10_addBox_158 (lv_at hl 3 rfl) ?_
      refine lv_bipush (v := (nI 8)) hx hb dX10_addBox_160 (by decide) ?_
      refine lv_imul hx hb dX10_addBox_162 ?_
      refine lv_iload hx hb dX10_addBox_163 (lv_at hl 4 rfl) ?_
      refine lv_iadd hx hb dX10_addBox_165 ?_
      refine lv_aload_n hx hb dX10_addBox_166 rfl (lv_at hl 1 rfl) ?_
      refine lv_iload_n hx hb dX10_addBox_167 rfl (lv_at hl 2 rfl) ?_
      refine lv_iload hx hb dX10_addBox_168 (lv_at hl 4 rfl) ?_
      refine lv_iadd hx hb dX10_addBox_170 ?_
      refine sy_cIV C hh (As := [.int (x3 + x6)]) (rest := [.int ((x5 * (nI 8)) + x6), .ref (Y.2.1 (x0 + 10))]) 1 (by decide) (oX_1 Y) rfl (mX9_byteAt l Y _ M (x3 + x6) _ hq) (cwV 1 C.1.2.2.2.2 (sy_goodV uX_good uX_418 uX_347 uX_348 uX_329 uX_338 _) rfl rfl rfl hdX9_byteAt ⟨Nat.le_of_ble_eq_true rfl, Nat.le_of_ble_eq_true rfl⟩) rfl hl.1 rfl (Nat.le_of_ble_eq_true rfl) dX10_addBox_171 (fun r10 M9 H locs hq hh => ?_)
      refine lv_i2b (v := (r10.toInt8.toInt32)) hx hb dX10_addBox_174 rfl ?_
      obtain ⟨n11, hn11, en11, hq⟩ := hq
      refine sy_bast C hh (x0 + 10) (iX10_N10 hx0) (aX10_10 hx0) (tX10_10 hx0) hn11 en11 (by decide) dX10_addBox_175 (fun H locs hh => ?_)
      refine lv_iinc (v := (x6 + (1 : Int32))) (lv' := [(6, .int (x6 + (1 : Int32))), (0, .ref (Y.2.1 x0)), (2, .ref (Y.2.1 1)), (3, .int x3), (5, .int x5)]) hx hb dX10_addBox_176 hl (k := 4) rfl (sy_inc (by decide)) (by decide) rfl (fun ls hl => ?_)
      refine lv_goto (tgt := 142) hx hb dX10_addBox_179 (by decide) ?_
      exact ih (mu M9 (x0 + 10) n11 (vp_nar .byte (r10.toInt8.toInt32))) x0 x3 x5 (x6 + (1 : Int32)) hx0 _ _ _ hq hh (lv_sub hl [1, 2, 3, 4, 0] rfl)

set_option maxHeartbeats 4000000 in
set_option maxRecDepth 100000 in
theorem kX10_addBox_123 (C : sy_C p m c cX10_addBox 7 s args vsX10_addBox RX10 meth none Y NX tfX) {Q : sy_M → Prop} :
    ∀ (M : sy_M) (x0 : Nat) (x3 : Int32) (x4 : Int32) (x5 : Int32) (hx0 : iX10 x0) (H : Heap) (locs : List Loc) (ls : Array Slot), wX10_addBox_123 Q M x0 x3 x4 x5 → sy_H Y NX EX s H locs M → lv_has ls 7 [(0, .ref (Y.2.1 x0)), (2, .ref (Y.2.1 1)), (3, .int x3), (4, .int x4), (5, .int x5)] → W p l e ({ frames := 1, cells := 0, slots := 0, locals := 21 } : Room) s m args below meth c H locs 0 0 (sy_ZV below args s Y NX EX Q) (F0 m 123 ls []) := by
  have hx := C.1.1
  have hb := C.1.2.1
  intro M x0 x3 x4 x5 hx0 H locs ls hq hh hl
  unfold wX10_addBox_123 at hq
  refine lv_aload_n hx hb dX10_addBox_123 rfl (lv_at hl 0 rfl) ?_
  refine sy_get C hh (fun w h => mc (uX_fX10 w h)) x0 (iX10_N hx0) (oX10 hx0) rfl 7 (by decide) (index := 34) (mc uX_321) (v := .ref (Y.2.1 (x0 + 6))) rfl dX10_addBox_124 ?_
  refine lv_iload hx hb dX10_addBox_127 (lv_at hl 4 rfl) ?_
  refine lv_iload hx hb dX10_addBox_129 (lv_at hl 3 rfl) ?_
  refine lv_iload_n hx hb dX10_addBox_131 rfl (lv_at hl 2 rfl) ?_
  refine lv_isub hx hb dX10_addBox_132 ?_
  refine lv_bipush (v := (nI 8)) hx hb dX10_addBox_133 (by decide) ?_
  refine sy_mmin C hl (index := 55) (mc uX_423) (mc uX_65) (mc uX_25) (mc uX_66) (by decide) (Nat.le_of_ble_eq_true rfl) dX10_addBox_135 ?_
  obtain ⟨n6, hn6, en6, hq⟩ := hq
  refine sy_iast C hh (x0 + 6) (iX10_N6 hx0) (aX10_6 hx0) (tX10_6 hx0) hn6 en6 (by decide) dX10_addBox_138 (fun H locs hh => ?_)
  refine lv_iconst (v := (0 : Int32)) hx hb dX10_addBox_139 (by decide) ?_
  refine lv_istore (lv' := [(6, .int (0 : Int32)), (0, .ref (Y.2.1 x0)), (2, .ref (Y.2.1 1)), (3, .int x3), (4, .int x4), (5, .int x5)]) hx hb dX10_addBox_140 hl (by decide) rfl (fun ls hl => ?_)
  obtain ⟨n12, hq⟩ := hq
  refine kX10_addBox_142 C  n12 (mu M (x0 + 6) n6 (imin (x4 - x3) (nI 8))) x0 x3 x5 (0 : Int32) hx0 _ _ _ hq hh (lv_sub hl [1, 2, 3, 5, 0] rfl)

end
set_option maxHeartbeats 4000000 in
set_option maxRecDepth 100000 in
theorem mX10_addBox (l : Launch) (Y : sy_Y) (sz : Nat) (M : sy_M) (p0 : Nat) (hp0 : iX10 p0) (a1 : Int32) (a3 : Int32) (a4 : Int32) (Q : sy_M → Prop) (hq : wX10_addBox M p0 a1 a3 a4 Q) : Met l yX10_addBox vsX10_addBox ({ frames := 1, cells := 0, slots := 0, locals := 21 } : Room) (va_Pc [.ref (Y.2.1 p0), .int a1, .ref (Y.2.1 1), .int a3, .int a4] (sy_pre Y NX EX tfX sz M)) (sy_QV Y NX EX sz Q) 0 0 (sy_A NX Y.2.1 sz) := by
  refine sy_metV (by decide) rfl (Nat.le_of_ble_eq_true rfl) ?_
  intro p e s m args below meth c C ls hl hh
  have hx := C.1.1
  have hb := C.1.2.1
  have hl : lv_has ls 7 [(0, .ref (Y.2.1 p0)), (1, .int a1), (2, .ref (Y.2.1 1)), (3, .int a3), (4, .int a4)] := hl
  unfold wX10_addBox at hq
  refine lv_aload_n hx hb dX10_addBox_0 rfl (lv_at hl 0 rfl) ?_
  refine sy_get C hh (fun w h => mc (uX_fX10 w h)) p0 (iX10_N hp0) (oX10 hp0) rfl 0 (by decide) (index := 9) (mc uX_12) (v := .int (M p0 0)) rfl dX10_addBox_1 ?_
  refine lv_bipush (v := (nI 40)) hx hb dX10_addBox_4 (by decide) ?_
  refine lv_icmp_lt (tgt := 10) hx hb dX10_addBox_6 (by decide) (fun c1 => ?_) (fun c1 => ?_)
  · have hq := hq.1 c1
    refine lv_aload_n hx hb dX10_addBox_10 rfl (lv_at hl 0 rfl) ?_
    refine sy_get C hh (fun w h => mc (uX_fX10 w h)) p0 (iX10_N hp0) (oX10 hp0) rfl 0 (by decide) (index := 9) (mc uX_12) (v := .int (M p0 0)) rfl dX10_addBox_11 ?_
    refine lv_istore (lv' := [(5, .int (M p0 0)), (0, .ref (Y.2.1 p0)), (1, .int a1), (2, .ref (Y.2.1 1)), (3, .int a3), (4, .int a4)]) hx hb dX10_addBox_14 hl (by decide) rfl (fun ls hl => ?_)
    refine lv_aload_n hx hb dX10_addBox_16 rfl (lv_at hl 1 rfl) ?_
    refine lv_dup hx hb dX10_addBox_17 rfl ?_
    refine sy_get C hh (fun w h => mc (uX_fX10 w h)) p0 (iX10_N hp0) (oX10 hp0) rfl 0 (by decide) (index := 9) (mc uX_12) (v := .int (M p0 0)) rfl dX10_addBox_18 ?_
    refine lv_iconst (v := (1 : Int32)) hx hb dX10_addBox_21 (by decide) ?_
    refine lv_iadd hx hb dX10_addBox_22 ?_
    refine sy_put C hh (fun w h => mc (uX_fX10 w h)) tyX10 tyX10_ok nmX10 p0 (iX10_N hp0) (oX10 hp0) rfl 0 (by decide) (index := 9) (mc uX_12) rfl 0 ((M p0 0) + (1 : Int32)) (ty := .int) (tyX10_ok 0 (by decide)) rfl rfl (Nat.le_of_ble_eq_true rfl) (pX10_0 Y _ _ _) dX10_addBox_23 (fun H locs hh => ?_)
    refine lv_aload_n hx hb dX10_addBox_26 rfl (lv_at hl 1 rfl) ?_
    refine sy_get C hh (fun w h => mc (uX_fX10 w h)) p0 (iX10_N hp0) (oX10 hp0) rfl 2 (by decide) (index := 18) (mc uX_317) (v := .ref (Y.2.1 (p0 + 1))) rfl dX10_addBox_27 ?_
    refine lv_iload hx hb dX10_addBox_30 (lv_at hl 0 rfl) ?_
    refine lv_iload_n hx hb dX10_addBox_32 rfl (lv_at hl 2 rfl) ?_
    obtain ⟨n2, hn2, en2, hq⟩ := hq
    refine sy_iast C hh (p0 + 1) (iX10_N1 hp0) (aX10_1 hp0) (tX10_1 hp0) hn2 en2 (by decide) dX10_addBox_33 (fun H locs hh => ?_)
    refine lv_aload_n hx hb dX10_addBox_34 rfl (lv_at hl 1 rfl) ?_
    refine sy_get C hh (fun w h => mc (uX_fX10 w h)) p0 (iX10_N hp0) (oX10 hp0) rfl 3 (by decide) (index := 22) (mc uX_123) (v := .ref (Y.2.1 (p0 + 2))) rfl dX10_addBox_35 ?_
    refine lv_iload hx hb dX10_addBox_38 (lv_at hl 0 rfl) ?_
    refine lv_iconst (v := (-1 : Int32)) hx hb dX10_addBox_40 (by decide) ?_
    refine sy_iast C hh (p0 + 2) (iX10_N2 hp0) (aX10_2 hp0) (tX10_2 hp0) hn2 en2 (by decide) dX10_addBox_41 (fun H locs hh => ?_)
    refine lv_aload_n hx hb dX10_addBox_42 rfl (lv_at hl 1 rfl) ?_
    refine sy_get C hh (fun w h => mc (uX_fX10 w h)) p0 (iX10_N hp0) (oX10 hp0) rfl 4 (by decide) (index := 25) (mc uX_318) (v := .ref (Y.2.1 (p0 + 3))) rfl dX10_addBox_43 ?_
    refine lv_iload hx hb dX10_addBox_46 (lv_at hl 0 rfl) ?_
    refine lv_iconst (v := (0 : Int32)) hx hb dX10_addBox_48 (by decide) ?_
    refine sy_iast C hh (p0 + 3) (iX10_N3 hp0) (aX10_3 hp0) (tX10_3 hp0) hn2 en2 (by decide) dX10_addBox_49 (fun H locs hh => ?_)
    refine lv_aload_n hx hb dX10_addBox_50 rfl (lv_at hl 1 rfl) ?_
    refine sy_get C hh (fun w h => mc (uX_fX10 w h)) p0 (iX10_N hp0) (oX10 hp0) rfl 5 (by decide) (index := 28) (mc uX_319) (v := .ref (Y.2.1 (p0 + 4))) rfl dX10_addBox_51 ?_
    refine lv_iload hx hb dX10_addBox_54 (lv_at hl 0 rfl) ?_
    refine lv_iconst (v := (0 : Int32)) hx hb dX10_addBox_56 (by decide) ?_
    refine sy_iast C hh (p0 + 4) (iX10_N4 hp0) (aX10_4 hp0) (tX10_4 hp0) hn2 en2 (by decide) dX10_addBox_57 (fun H locs hh => ?_)
    refine lv_aload_n hx hb dX10_addBox_58 rfl (lv_at hl 1 rfl) ?_
    refine sy_get C hh (fun w h => mc (uX_fX10 w h)) p0 (iX10_N hp0) (oX10 hp0) rfl 6 (by decide) (index := 31) (mc uX_320) (v := .ref (Y.2.1 (p0 + 5))) rfl dX10_addBox_59 ?_
    refine lv_iload hx hb dX10_addBox_62 (lv_at hl 0 rfl) ?_
    refine lv_iconst (v := (0 : Int32)) hx hb dX10_addBox_64 (by decide) ?_
    refine sy_iast C hh (p0 + 5) (iX10_N5 hp0) (aX10_5 hp0) (tX10_5 hp0) hn2 en2 (by decide) dX10_addBox_65 (fun H locs hh => ?_)
    refine lv_aload_n hx hb dX10_addBox_66 rfl (lv_at hl 1 rfl) ?_
    refine sy_get C hh (fun w h => mc (uX_fX10 w h)) p0 (iX10_N hp0) (oX10 hp0) rfl 8 (by decide) (index := 37) (mc uX_322) (v := .ref (Y.2.1 (p0 + 7))) rfl dX10_addBox_67 ?_
    refine lv_iload hx hb dX10_addBox_70 (lv_at hl 0 rfl) ?_
    refine lv_iconst (v := (0 : Int32)) hx hb dX10_addBox_72 (by decide) ?_
    refine sy_zast C hh (p0 + 7) (iX10_N7 hp0) (aX10_7 hp0) (tX10_7 hp0) hn2 en2 (by decide) dX10_addBox_73 (fun H locs hh => ?_)
    refine lv_aload_n hx hb dX10_addBox_74 rfl (lv_at hl 1 rfl) ?_
    refine sy_get C hh (fun w h => mc (uX_fX10 w h)) p0 (iX10_N hp0) (oX10 hp0) rfl 9 (by decide) (index := 41) (mc uX_323) (v := .ref (Y.2.1 (p0 + 8))) rfl dX10_addBox_75 ?_
    refine lv_iload hx hb dX10_addBox_78 (lv_at hl 0 rfl) ?_
    refine lv_iconst (v := (0 : Int32)) hx hb dX10_addBox_80 (by decide) ?_
    refine sy_iast C hh (p0 + 8) (iX10_N8 hp0) (aX10_8 hp0) (tX10_8 hp0) hn2 en2 (by decide) dX10_addBox_81 (fun H locs hh => ?_)
    refine lv_aload_n hx hb dX10_addBox_82 rfl (lv_at hl 1 rfl) ?_
    refine sy_get C hh (fun w h => mc (uX_fX10 w h)) p0 (iX10_N hp0) (oX10 hp0) rfl 10 (by decide) (index := 44) (mc uX_324) (v := .ref (Y.2.1 (p0 + 9))) rfl dX10_addBox_83 ?_
    refine lv_iload hx hb dX10_addBox_86 (lv_at hl 0 rfl) ?_
    refine lv_iconst (v := (0 : Int32)) hx hb dX10_addBox_88 (by decide) ?_
    refine sy_zast C hh (p0 + 9) (iX10_N9 hp0) (aX10_9 hp0) (tX10_9 hp0) hn2 en2 (by decide) dX10_addBox_89 (fun H locs hh => ?_)
    refine lv_aload_n hx hb dX10_addBox_90 rfl (lv_at hl 1 rfl) ?_
    refine lv_iload_n hx hb dX10_addBox_91 rfl (lv_at hl 2 rfl) ?_
    refine sy_cIV C hh (As := [.int a1]) (rest := []) p0 (iX10_N hp0) (oX10 hp0) rfl (mX10_has l Y _ (mu (mu (mu (mu (mu (mu (mu (mu (mu M p0 0 ((M p0 0) + (1 : Int32))) (p0 + 1) n2 a1) (p0 + 2) n2 (-1 : Int32)) (p0 + 3) n2 (0 : Int32)) (p0 + 4) n2 (0 : Int32)) (p0 + 5) n2 (0 : Int32)) (p0 + 7) n2 (vp_nar .boolean (0 : Int32))) (p0 + 8) n2 (0 : Int32)) (p0 + 9) n2 (vp_nar .boolean (0 : Int32))) p0 hp0 a1 _ hq) (cwV 1 C.1.2.2.2.2 (sy_goodV uX_good uX_124 uX_18 uX_19 uX_20 uX_11 _) rfl rfl rfl hdX10_has ⟨Nat.le_of_ble_eq_true rfl, Nat.le_of_ble_eq_true rfl⟩) rfl hl.1 rfl (Nat.le_of_ble_eq_true rfl) dX10_addBox_92 (fun r4 M3 H locs hq hh => ?_)
    refine lv_if_eq (tgt := 123) hx hb dX10_addBox_95 (by decide) (fun c5 => ?_) (fun c5 => ?_)
    · have hq := hq.1 c5
      refine kX10_addBox_123 C  M3 p0 a3 a4 (M p0 0) hp0 _ _ _ hq hh (lv_sub hl [1, 3, 4, 5, 0] rfl)
    · have hq := hq.2 c5
      refine lv_aload_n hx hb dX10_addBox_98 rfl (lv_at hl 1 rfl) ?_
      refine sy_get C hh (fun w h => mc (uX_fX10 w h)) p0 (iX10_N hp0) (oX10 hp0) rfl 4 (by decide) (index := 25) (mc uX_318) (v := .ref (Y.2.1 (p0 + 3))) rfl dX10_addBox_99 ?_
      refine lv_iload_n hx hb dX10_addBox_102 rfl (lv_at hl 2 rfl) ?_
      refine lv_dup2_11 hx hb dX10_addBox_103 rfl rfl ?_
      obtain ⟨n13, hn13, en13, hq⟩ := hq
      refine sy_iald C hh (p0 + 3) (iX10_N3 hp0) (aX10_3 hp0) (tX10_3 hp0) hn13 en13 (by decide) dX10_addBox_104 ?_
      refine lv_iconst (v := (1 : Int32)) hx hb dX10_addBox_105 (by decide) ?_
      refine lv_iadd hx hb dX10_addBox_106 ?_
      refine sy_iast C hh (p0 + 3) (iX10_N3 hp0) (aX10_3 hp0) (tX10_3 hp0) hn13 en13 (by decide) dX10_addBox_107 (fun H locs hh => ?_)
      refine lv_aload_n hx hb dX10_addBox_108 rfl (lv_at hl 1 rfl) ?_
      refine sy_get C hh (fun w h => mc (uX_fX10 w h)) p0 (iX10_N hp0) (oX10 hp0) rfl 5 (by decide) (index := 28) (mc uX_319) (v := .ref (Y.2.1 (p0 + 4))) rfl dX10_addBox_109 ?_
      refine lv_iload hx hb dX10_addBox_112 (lv_at hl 0 rfl) ?_
      refine lv_aload_n hx hb dX10_addBox_114 rfl (lv_at hl 1 rfl) ?_
      refine sy_get C hh (fun w h => mc (uX_fX10 w h)) p0 (iX10_N hp0) (oX10 hp0) rfl 5 (by decide) (index := 28) (mc uX_319) (v := .ref (Y.2.1 (p0 + 4))) rfl dX10_addBox_115 ?_
      refine lv_iload_n hx hb dX10_addBox_118 rfl (lv_at hl 2 rfl) ?_
      refine sy_iald C hh (p0 + 4) (iX10_N4 hp0) (aX10_4 hp0) (tX10_4 hp0) hn13 en13 (by decide) dX10_addBox_119 ?_
      refine lv_iconst (v := (1 : Int32)) hx hb dX10_addBox_120 (by decide) ?_
      refine lv_iadd hx hb dX10_addBox_121 ?_
      refine sy_iast C hh (p0 + 4) (iX10_N4 hp0) (aX10_4 hp0) (tX10_4 hp0) hn2 en2 (by decide) dX10_addBox_122 (fun H locs hh => ?_)
      refine kX10_addBox_123 C  (mu (mu M3 (p0 + 3) n13 ((M3 (p0 + 3) n13) + (1 : Int32))) (p0 + 4) n2 (((mu M3 (p0 + 3) n13 ((M3 (p0 + 3) n13) + (1 : Int32))) (p0 + 4) n13) + (1 : Int32))) p0 a3 a4 (M p0 0) hp0 _ _ _ hq hh (lv_sub hl [1, 3, 4, 5, 0] rfl)
  · have hq := hq.2 c1
    exact sy_vret C hh dX10_addBox_9 hq

/-! AreaSetter$Tree.nameByte(II)I -/
def wX10_nameByte (M : sy_M) (p0 : Nat) (a1 : Int32) (a2 : Int32) (Q : Int32 → sy_M → Prop) : Prop := ∃ n1 : Nat, n1 < 320 ∧ ((a1 * (nI 8)) + a2) = nI n1 ∧ Q ((M (p0 + 10) n1) &&& (nI 255)) M
section
variable {p : Program} {l : Launch} {e : Env} {s : State} {m : MethodId} {args : Array Value} {below : List Frame} {meth : Method} {c : Code} {Y : sy_Y}
end
set_option maxHeartbeats 4000000 in
set_option maxRecDepth 100000 in
theorem mX10_nameByte (l : Launch) (Y : sy_Y) (sz : Nat) (M : sy_M) (p0 : Nat) (hp0 : iX10 p0) (a1 : Int32) (a2 : Int32) (Q : Int32 → sy_M → Prop) (hq : wX10_nameByte M p0 a1 a2 Q) : Met l yX10_nameByte vsX10_nameByte ({ frames := 0, cells := 0, slots := 0, locals := 0 } : Room) (va_Pc [.ref (Y.2.1 p0), .int a1, .int a2] (sy_pre Y NX EX tfX sz M)) (sy_QI Y NX EX sz Q) 0 0 (sy_A NX Y.2.1 sz) := by
  refine sy_metI (by decide) rfl (Nat.le_of_ble_eq_true rfl) ?_
  intro p e s m args below meth c C ls hl hh
  have hx := C.1.1
  have hb := C.1.2.1
  have hl : lv_has ls 3 [(0, .ref (Y.2.1 p0)), (1, .int a1), (2, .int a2)] := hl
  unfold wX10_nameByte at hq
  refine lv_aload_n hx hb dX10_nameByte_0 rfl (lv_at hl 0 rfl) ?_
  refine sy_get C hh (fun w h => mc (uX_fX10 w h)) p0 (iX10_N hp0) (oX10 hp0) rfl 11 (by decide) (index := 47) (mc uX_325) (v := .ref (Y.2.1 (p0 + 10))) rfl dX10_nameByte_1 ?_
  refine lv_iload_n hx hb dX10_nameByte_4 rfl (lv_at hl 1 rfl) ?_
  refine lv_bipush (v := (nI 8)) hx hb dX10_nameByte_5 (by decide) ?_
  refine lv_imul hx hb dX10_nameByte_7 ?_
  refine lv_iload_n hx hb dX10_nameByte_8 rfl (lv_at hl 2 rfl) ?_
  refine lv_iadd hx hb dX10_nameByte_9 ?_
  obtain ⟨n1, hn1, en1, hq⟩ := hq
  refine sy_bald C hh (p0 + 10) (iX10_N10 hp0) (aX10_10 hp0) (tX10_10 hp0) hn1 en1 (by decide) dX10_nameByte_10 ?_
  refine lv_sipush (v := (nI 255)) hx hb dX10_nameByte_11 (by decide) ?_
  refine lv_iand hx hb dX10_nameByte_14 ?_
  exact sy_iret C hh dX10_nameByte_15 hq

/-! AreaSetter$Tree.isNamed(ILAreaSetter$Tape;I)Z -/
def wX10_isNamed_3 (Q : Int32 → sy_M → Prop) : Nat → sy_M → Nat → Int32 → Int32 → Int32 → Prop
  | 0, _, _, _, _, _ => False
  | n + 1, M, x0, x1, x3, x4 => ∃ n1 : Nat, n1 < 40 ∧ x1 = nI n1 ∧ (((M (x0 + 6) n1) ≤ x4 → Q (1 : Int32) M) ∧ (¬ (M (x0 + 6) n1) ≤ x4 → wX10_nameByte M x0 x1 x4 (fun r4 M3 => wX9_byteAt M3 (x3 + x4) (fun r6 M5 => ((r4 = r6 → wX10_isNamed_3 Q n M5 x0 x1 x3 (x4 + (1 : Int32))) ∧ (¬ r4 = r6 → Q (0 : Int32) M5))))))
def wX10_isNamed (M : sy_M) (p0 : Nat) (a1 : Int32) (a3 : Int32) (Q : Int32 → sy_M → Prop) : Prop := ∃ n8 : Nat, wX10_isNamed_3  Q n8 M p0 a1 a3 (0 : Int32)
section
variable {p : Program} {l : Launch} {e : Env} {s : State} {m : MethodId} {args : Array Value} {below : List Frame} {meth : Method} {c : Code} {Y : sy_Y}
set_option maxHeartbeats 4000000 in
set_option maxRecDepth 100000 in
theorem kX10_isNamed_3 (C : sy_C p m c cX10_isNamed 5 s args vsX10_isNamed RX10 meth (some .boolean) Y NX tfX) {Q : Int32 → sy_M → Prop} :
    ∀ (n : Nat) (M : sy_M) (x0 : Nat) (x1 : Int32) (x3 : Int32) (x4 : Int32) (hx0 : iX10 x0) (H : Heap) (locs : List Loc) (ls : Array Slot), wX10_isNamed_3 Q n M x0 x1 x3 x4 → sy_H Y NX EX s H locs M → lv_has ls 5 [(0, .ref (Y.2.1 x0)), (1, .int x1), (2, .ref (Y.2.1 1)), (3, .int x3), (4, .int x4)] → W p l e ({ frames := 1, cells := 0, slots := 0, locals := 22 } : Room) s m args below meth c H locs 0 0 (sy_ZI below args s Y NX EX Q) (F0 m 3 ls []) := by
  have hx := C.1.1
  have hb := C.1.2.1
  intro n
  induction n with
  | zero =>
    intro M x0 x1 x3 x4 hx0 H locs ls hq hh hl
    unfold wX10_isNamed_3 at hq
    exact hq.elim
  | succ n ih =>
    intro M x0 x1 x3 x4 hx0 H locs ls hq hh hl
    unfold wX10_isNamed_3 at hq
    refine lv_iload hx hb dX10_isNamed_3 (lv_at hl 4 rfl) ?_
    refine lv_aload_n hx hb dX10_isNamed_5 rfl (lv_at hl 0 rfl) ?_
    refine sy_get C hh (fun w h => mc (uX_fX10 w h)) x0 (iX10_N hx0) (oX10 hx0) rfl 7 (by decide) (index := 34) (mc uX_321) (v := .ref (Y.2.1 (x0 + 6))) rfl dX10_isNamed_6 ?_
    refine lv_iload_n hx hb dX10_isNamed_9 rfl (lv_at hl 1 rfl) ?_
    obtain ⟨n1, hn1, en1, hq⟩ := hq
    refine sy_iald C hh (x0 + 6) (iX10_N6 hx0) (aX10_6 hx0) (tX10_6 hx0) hn1 en1 (by decide) dX10_isNamed_10 ?_
    refine lv_icmp_ge (tgt := 40) hx hb dX10_isNamed_11 (by decide) (fun c2 => ?_) (fun c2 => ?_)
    · have hq := hq.1 c2
      refine lv_iconst (v := (1 : Int32)) hx hb dX10_isNamed_40 (by decide) ?_
      exact sy_zret C hh dX10_isNamed_41 (by decide) hq
    · have hq := hq.2 c2
      refine lv_aload_n hx hb dX10_isNamed_14 rfl (lv_at hl 0 rfl) ?_
      refine lv_iload_n hx hb dX10_isNamed_15 rfl (lv_at hl 1 rfl) ?_
      refine lv_iload hx hb dX10_isNamed_16 (lv_at hl 4 rfl) ?_
      refine sy_cIV C hh (As := [.int x1, .int x4]) (rest := []) x0 (iX10_N hx0) (oX10 hx0) rfl (mX10_nameByte l Y _ M x0 hx0 x1 x4 _ hq) (cwV 2 C.1.2.2.2.2 (sy_goodV uX_good uX_415 uX_416 uX_417 uX_20 uX_413 _) rfl rfl rfl hdX10_nameByte ⟨Nat.le_of_ble_eq_true rfl, Nat.le_of_ble_eq_true rfl⟩) rfl hl.1 rfl (Nat.le_of_ble_eq_true rfl) dX10_isNamed_18 (fun r4 M3 H locs hq hh => ?_)
      refine lv_aload_n hx hb dX10_isNamed_21 rfl (lv_at hl 2 rfl) ?_
      refine lv_iload_n hx hb dX10_isNamed_22 rfl (lv_at hl 3 rfl) ?_
      refine lv_iload hx hb dX10_isNamed_23 (lv_at hl 4 rfl) ?_
      refine lv_iadd hx hb dX10_isNamed_25 ?_
      refine sy_cIV C hh (As := [.int (x3 + x4)]) (rest := [.int r4]) 1 (by decide) (oX_1 Y) rfl (mX9_byteAt l Y _ M3 (x3 + x4) _ hq) (cwV 1 C.1.2.2.2.2 (sy_goodV uX_good uX_418 uX_347 uX_348 uX_329 uX_338 _) rfl rfl rfl hdX9_byteAt ⟨Nat.le_of_ble_eq_true rfl, Nat.le_of_ble_eq_true rfl⟩) rfl hl.1 rfl (Nat.le_of_ble_eq_true rfl) dX10_isNamed_26 (fun r6 M5 H locs hq hh => ?_)
      refine lv_icmp_eq (tgt := 34) hx hb dX10_isNamed_29 (by decide) (fun c7 => ?_) (fun c7 => ?_)
      · have hq := hq.1 c7
        refine lv_iinc (v := (x4 + (1 : Int32))) (lv' := [(4, .int (x4 + (1 : Int32))), (0, .ref (Y.2.1 x0)), (1, .int x1), (2, .ref (Y.2.1 1)), (3, .int x3)]) hx hb dX10_isNamed_34 hl (k := 4) rfl (sy_inc (by decide)) (by decide) rfl (fun ls hl => ?_)
        refine lv_goto (tgt := 3) hx hb dX10_isNamed_37 (by decide) ?_
        exact ih M5 x0 x1 x3 (x4 + (1 : Int32)) hx0 _ _ _ hq hh (lv_sub hl [1, 2, 3, 4, 0] rfl)
      · have hq := hq.2 c7
        refine lv_iconst (v := (0 : Int32)) hx hb dX10_isNamed_32 (by decide) ?_
        exact sy_zret C hh dX10_isNamed_33 (by decide) hq

end
set_option maxHeartbeats 4000000 in
set_option maxRecDepth 100000 in
theorem mX10_isNamed (l : Launch) (Y : sy_Y) (sz : Nat) (M : sy_M) (p0 : Nat) (hp0 : iX10 p0) (a1 : Int32) (a3 : Int32) (Q : Int32 → sy_M → Prop) (hq : wX10_isNamed M p0 a1 a3 Q) : Met l yX10_isNamed vsX10_isNamed ({ frames := 1, cells := 0, slots := 0, locals := 22 } : Room) (va_Pc [.ref (Y.2.1 p0), .int a1, .ref (Y.2.1 1), .int a3] (sy_pre Y NX EX tfX sz M)) (sy_QI Y NX EX sz Q) 0 0 (sy_A NX Y.2.1 sz) := by
  refine sy_metI (by decide) rfl (Nat.le_of_ble_eq_true rfl) ?_
  intro p e s m args below meth c C ls hl hh
  have hx := C.1.1
  have hb := C.1.2.1
  have hl : lv_has ls 5 [(0, .ref (Y.2.1 p0)), (1, .int a1), (2, .ref (Y.2.1 1)), (3, .int a3)] := hl
  unfold wX10_isNamed at hq
  refine lv_iconst (v := (0 : Int32)) hx hb dX10_isNamed_0 (by decide) ?_
  refine lv_istore (lv' := [(4, .int (0 : Int32)), (0, .ref (Y.2.1 p0)), (1, .int a1), (2, .ref (Y.2.1 1)), (3, .int a3)]) hx hb dX10_isNamed_1 hl (by decide) rfl (fun ls hl => ?_)
  obtain ⟨n8, hq⟩ := hq
  refine kX10_isNamed_3 C  n8 M p0 a1 a3 (0 : Int32) hp0 _ _ _ hq hh (lv_sub hl [1, 2, 3, 4, 0] rfl)

/-! AreaSetter$Tree.find(LAreaSetter$Tape;II)I -/
def wX10_find_3 (Q : Int32 → sy_M → Prop) : Nat → sy_M → Nat → Int32 → Int32 → Int32 → Prop
  | 0, _, _, _, _, _ => False
  | n + 1, M, x0, x2, x3, x4 => (((M x0 0) ≤ x4 → Q (-1 : Int32) M) ∧ (¬ (M x0 0) ≤ x4 → ∃ n2 : Nat, n2 < 40 ∧ x4 = nI n2 ∧ ((¬ (M (x0 + 6) n2) = (x3 - x2) → wX10_find_3 Q n M x0 x2 x3 (x4 + (1 : Int32))) ∧ ((M (x0 + 6) n2) = (x3 - x2) → wX10_isNamed M x0 x4 x2 (fun r5 M4 => ((r5 = 0 → wX10_find_3 Q n M4 x0 x2 x3 (x4 + (1 : Int32))) ∧ (¬ r5 = 0 → Q x4 M4)))))))
def wX10_find (M : sy_M) (p0 : Nat) (a2 : Int32) (a3 : Int32) (Q : Int32 → sy_M → Prop) : Prop := ∃ n7 : Nat, wX10_find_3  Q n7 M p0 a2 a3 (0 : Int32)
section
variable {p : Program} {l : Launch} {e : Env} {s : State} {m : MethodId} {args : Array Value} {below : List Frame} {meth : Method} {c : Code} {Y : sy_Y}
set_option maxHeartbeats 4000000 in
set_option maxRecDepth 100000 in
theorem kX10_find_3 (C : sy_C p m c cX10_find 5 s args vsX10_find RX10 meth (some .int) Y NX tfX) {Q : Int32 → sy_M → Prop} :
    ∀ (n : Nat) (M : sy_M) (x0 : Nat) (x2 : Int32) (x3 : Int32) (x4 : Int32) (hx0 : iX10 x0) (H : Heap) (locs : List Loc) (ls : Array Slot), wX10_find_3 Q n M x0 x2 x3 x4 → sy_H Y NX EX s H locs M → lv_has ls 5 [(0, .ref (Y.2.1 x0)), (1, .ref (Y.2.1 1)), (2, .int x2), (3, .int x3), (4, .int x4)] → W p l e ({ frames := 2, cells := 0, slots := 0, locals := 46 } : Room) s m args below meth c H locs 0 0 (sy_ZI below args s Y NX EX Q) (F0 m 3 ls []) := by
  have hx := C.1.1
  have hb := C.1.2.1
  intro n
  induction n with
  | zero =>
    intro M x0 x2 x3 x4 hx0 H locs ls hq hh hl
    unfold wX10_find_3 at hq
    exact hq.elim
  | succ n ih =>
    intro M x0 x2 x3 x4 hx0 H locs ls hq hh hl
    unfold wX10_find_3 at hq
    refine lv_iload hx hb dX10_find_3 (lv_at hl 4 rfl) ?_
    refine lv_aload_n hx hb dX10_find_5 rfl (lv_at hl 0 rfl) ?_
    refine sy_get C hh (fun w h => mc (uX_fX10 w h)) x0 (iX10_N hx0) (oX10 hx0) rfl 0 (by decide) (index := 9) (mc uX_12) (v := .int (M x0 0)) rfl dX10_find_6 ?_
    refine lv_icmp_ge (tgt := 45) hx hb dX10_find_9 (by decide) (fun c1 => ?_) (fun c1 => ?_)
    · have hq := hq.1 c1
      refine lv_iconst (v := (-1 : Int32)) hx hb dX10_find_45 (by decide) ?_
      exact sy_iret C hh dX10_find_46 hq
    · have hq := hq.2 c1
      refine lv_aload_n hx hb dX10_find_12 rfl (lv_at hl 0 rfl) ?_
      refine sy_get C hh (fun w h => mc (uX_fX10 w h)) x0 (iX10_N hx0) (oX10 hx0) rfl 7 (by decide) (index := 34) (mc uX_321) (v := .ref (Y.2.1 (x0 + 6))) rfl dX10_find_13 ?_
      refine lv_iload hx hb dX10_find_16 (lv_at hl 4 rfl) ?_
      obtain ⟨n2, hn2, en2, hq⟩ := hq
      refine sy_iald C hh (x0 + 6) (iX10_N6 hx0) (aX10_6 hx0) (tX10_6 hx0) hn2 en2 (by decide) dX10_find_18 ?_
      refine lv_iload_n hx hb dX10_find_19 rfl (lv_at hl 3 rfl) ?_
      refine lv_iload_n hx hb dX10_find_20 rfl (lv_at hl 2 rfl) ?_
      refine lv_isub hx hb dX10_find_21 ?_
      refine lv_icmp_ne (tgt := 39) hx hb dX10_find_22 (by decide) (fun c3 => ?_) (fun c3 => ?_)
      · have hq := hq.1 c3
        refine lv_iinc (v := (x4 + (1 : Int32))) (lv' := [(4, .int (x4 + (1 : Int32))), (0, .ref (Y.2.1 x0)), (1, .ref (Y.2.1 1)), (2, .int x2), (3, .int x3)]) hx hb dX10_find_39 hl (k := 4) rfl (sy_inc (by decide)) (by decide) rfl (fun ls hl => ?_)
        refine lv_goto (tgt := 3) hx hb dX10_find_42 (by decide) ?_
        exact ih M x0 x2 x3 (x4 + (1 : Int32)) hx0 _ _ _ hq hh (lv_sub hl [1, 2, 3, 4, 0] rfl)
      · have hq := hq.2 c3
        refine lv_aload_n hx hb dX10_find_25 rfl (lv_at hl 0 rfl) ?_
        refine lv_iload hx hb dX10_find_26 (lv_at hl 4 rfl) ?_
        refine lv_aload_n hx hb dX10_find_28 rfl (lv_at hl 1 rfl) ?_
        refine lv_iload_n hx hb dX10_find_29 rfl (lv_at hl 2 rfl) ?_
        refine sy_cIV C hh (As := [.int x4, .ref (Y.2.1 1), .int x2]) (rest := []) x0 (iX10_N hx0) (oX10 hx0) rfl (mX10_isNamed l Y _ M x0 hx0 x4 x2 _ hq) (cwV 3 C.1.2.2.2.2 (sy_goodV uX_good uX_420 uX_421 uX_422 uX_20 uX_414 _) rfl rfl rfl hdX10_isNamed ⟨Nat.le_of_ble_eq_true rfl, Nat.le_of_ble_eq_true rfl⟩) rfl hl.1 rfl (Nat.le_of_ble_eq_true rfl) dX10_find_30 (fun r5 M4 H locs hq hh => ?_)
        refine lv_if_eq (tgt := 39) hx hb dX10_find_33 (by decide) (fun c6 => ?_) (fun c6 => ?_)
        · have hq := hq.1 c6
          refine lv_iinc (v := (x4 + (1 : Int32))) (lv' := [(4, .int (x4 + (1 : Int32))), (0, .ref (Y.2.1 x0)), (1, .ref (Y.2.1 1)), (2, .int x2), (3, .int x3)]) hx hb dX10_find_39 hl (k := 4) rfl (sy_inc (by decide)) (by decide) rfl (fun ls hl => ?_)
          refine lv_goto (tgt := 3) hx hb dX10_find_42 (by decide) ?_
          exact ih M4 x0 x2 x3 (x4 + (1 : Int32)) hx0 _ _ _ hq hh (lv_sub hl [1, 2, 3, 4, 0] rfl)
        · have hq := hq.2 c6
          refine lv_iload hx hb dX10_find_36 (lv_at hl 4 rfl) ?_
          exact sy_iret C hh dX10_find_38 hq

end
set_option maxHeartbeats 4000000 in
set_option maxRecDepth 100000 in
theorem mX10_find (l : Launch) (Y : sy_Y) (sz : Nat) (M : sy_M) (p0 : Nat) (hp0 : iX10 p0) (a2 : Int32) (a3 : Int32) (Q : Int32 → sy_M → Prop) (hq : wX10_find M p0 a2 a3 Q) : Met l yX10_find vsX10_find ({ frames := 2, cells := 0, slots := 0, locals := 46 } : Room) (va_Pc [.ref (Y.2.1 p0), .ref (Y.2.1 1), .int a2, .int a3] (sy_pre Y NX EX tfX sz M)) (sy_QI Y NX EX sz Q) 0 0 (sy_A NX Y.2.1 sz) := by
  refine sy_metI (by decide) rfl (Nat.le_of_ble_eq_true rfl) ?_
  intro p e s m args below meth c C ls hl hh
  have hx := C.1.1
  have hb := C.1.2.1
  have hl : lv_has ls 5 [(0, .ref (Y.2.1 p0)), (1, .ref (Y.2.1 1)), (2, .int a2), (3, .int a3)] := hl
  unfold wX10_find at hq
  refine lv_iconst (v := (0 : Int32)) hx hb dX10_find_0 (by decide) ?_
  refine lv_istore (lv' := [(4, .int (0 : Int32)), (0, .ref (Y.2.1 p0)), (1, .ref (Y.2.1 1)), (2, .int a2), (3, .int a3)]) hx hb dX10_find_1 hl (by decide) rfl (fun ls hl => ?_)
  obtain ⟨n7, hq⟩ := hq
  refine kX10_find_3 C  n7 M p0 a2 a3 (0 : Int32) hp0 _ _ _ hq hh (lv_sub hl [1, 2, 3, 4, 0] rfl)

/-! AreaSetter$Reader.takeName()I -/
def wX6_takeName_87 (Q : Int32 → sy_M → Prop) (M : sy_M) : Prop := ∃ t15 : Nat, (M 3 2) = nI t15 ∧ iX10 t15 ∧ wX10_find M t15 (M 3 6) (M 3 7) (fun r17 M16 => ((r17 = (-1 : Int32) → ∃ t19 : Nat, (M16 3 2) = nI t19 ∧ iX10 t19 ∧ wX10_addBox M16 t19 (M16 3 4) (M16 3 6) (M16 3 7) (fun M20 => Q (0 : Int32) (mu M20 3 3 (1 : Int32)))) ∧ (¬ r17 = (-1 : Int32) → Q (nI 3) M16)))
def wX6_takeName (M : sy_M)  (Q : Int32 → sy_M → Prop) : Prop := ((¬ (M 3 5) = (nI 97) → Q (1 : Int32) M) ∧ ((M 3 5) = (nI 97) → (((nI 8) < ((M 3 7) - (M 3 6)) → Q (1 : Int32) M) ∧ (¬ (nI 8) < ((M 3 7) - (M 3 6)) → wX6_isWord M 0 (fun r4 M3 => ((¬ r4 = 0 → Q (1 : Int32) M3) ∧ (r4 = 0 → wX6_howOfWord M3 (fun r7 M6 => ((r7 = (-1 : Int32) → ∃ t9 : Nat, (M6 3 2) = nI t9 ∧ iX10 t9 ∧ (((nI 40) ≤ (M6 t9 0) → Q (nI 2) M6) ∧ (¬ (nI 40) ≤ (M6 t9 0) → ∃ t11 : Nat, (M6 3 2) = nI t11 ∧ iX10 t11 ∧ wX10_has M6 t11 (M6 3 4) (fun r13 M12 => ((r13 = 0 → wX6_takeName_87  Q M12) ∧ (¬ r13 = 0 → ∃ t21 : Nat, (M12 3 2) = nI t21 ∧ iX10 t21 ∧ ∃ n22 : Nat, n22 < 40 ∧ (M12 3 4) = nI n22 ∧ (((M12 (t21 + 3) n22) < (nI 8) → wX6_takeName_87  Q M12) ∧ (¬ (M12 (t21 + 3) n22) < (nI 8) → Q (nI 2) M12)))))))) ∧ (¬ r7 = (-1 : Int32) → Q (1 : Int32) M6))))))))))
section
variable {p : Program} {l : Launch} {e : Env} {s : State} {m : MethodId} {args : Array Value} {below : List Frame} {meth : Method} {c : Code} {Y : sy_Y}
set_option maxHeartbeats 4000000 in
set_option maxRecDepth 100000 in
theorem kX6_takeName_87 (C : sy_C p m c cX6_takeName 1 s args vsX6_takeName RX6 meth (some .int) Y NX tfX) {Q : Int32 → sy_M → Prop} :
    ∀ (M : sy_M) (H : Heap) (locs : List Loc) (ls : Array Slot), wX6_takeName_87 Q M → sy_H Y NX EX s H locs M → lv_has ls 1 [(0, .ref (Y.2.1 3))] → W p l e ({ frames := 9, cells := 0, slots := 0, locals := 265 } : Room) s m args below meth c H locs 0 0 (sy_ZI below args s Y NX EX Q) (F0 m 87 ls []) := by
  have hx := C.1.1
  have hb := C.1.2.1
  intro M H locs ls hq hh hl
  unfold wX6_takeName_87 at hq
  refine lv_aload_n hx hb dX6_takeName_87 rfl (lv_at hl 0 rfl) ?_
  obtain ⟨t15, et15, ht15, hq⟩ := hq
  refine sy_get C hh (fun w h => mc (uX_fX6 w h)) 3 (by decide) (oX_3 Y) rfl 1 (by decide) (index := 21) (mc uX_333) (v := .ref (Y.2.1 t15)) (sy_rf_of et15 (by have := iX10_lt ht15; omega)) dX6_takeName_88 ?_
  refine lv_aload_n hx hb dX6_takeName_91 rfl (lv_at hl 0 rfl) ?_
  refine sy_get C hh (fun w h => mc (uX_fX6 w h)) 3 (by decide) (oX_3 Y) rfl 0 (by decide) (index := 12) (mc uX_330) (v := .ref (Y.2.1 1)) rfl dX6_takeName_92 ?_
  refine lv_aload_n hx hb dX6_takeName_95 rfl (lv_at hl 0 rfl) ?_
  refine sy_get C hh (fun w h => mc (uX_fX6 w h)) 3 (by decide) (oX_3 Y) rfl 6 (by decide) (index := 51) (mc uX_343) (v := .int (M 3 6)) rfl dX6_takeName_96 ?_
  refine lv_aload_n hx hb dX6_takeName_99 rfl (lv_at hl 0 rfl) ?_
  refine sy_get C hh (fun w h => mc (uX_fX6 w h)) 3 (by decide) (oX_3 Y) rfl 7 (by decide) (index := 41) (mc uX_342) (v := .int (M 3 7)) rfl dX6_takeName_100 ?_
  refine sy_cIV C hh (As := [.ref (Y.2.1 1), .int (M 3 6), .int (M 3 7)]) (rest := []) t15 (iX10_N ht15) (oX10 ht15) rfl (mX10_find l Y _ M t15 ht15 (M 3 6) (M 3 7) _ hq) (cwV 3 C.1.2.2.2.2 (sy_goodV uX_good uX_433 uX_434 uX_435 uX_20 uX_419 _) rfl rfl rfl hdX10_find ⟨Nat.le_of_ble_eq_true rfl, Nat.le_of_ble_eq_true rfl⟩) rfl hl.1 rfl (Nat.le_of_ble_eq_true rfl) dX6_takeName_103 (fun r17 M16 H locs hq hh => ?_)
  refine lv_iconst (v := (-1 : Int32)) hx hb dX6_takeName_106 (by decide) ?_
  refine lv_icmp_eq (tgt := 112) hx hb dX6_takeName_107 (by decide) (fun c18 => ?_) (fun c18 => ?_)
  · have hq := hq.1 c18
    refine lv_aload_n hx hb dX6_takeName_112 rfl (lv_at hl 0 rfl) ?_
    obtain ⟨t19, et19, ht19, hq⟩ := hq
    refine sy_get C hh (fun w h => mc (uX_fX6 w h)) 3 (by decide) (oX_3 Y) rfl 1 (by decide) (index := 21) (mc uX_333) (v := .ref (Y.2.1 t19)) (sy_rf_of et19 (by have := iX10_lt ht19; omega)) dX6_takeName_113 ?_
    refine lv_aload_n hx hb dX6_takeName_116 rfl (lv_at hl 0 rfl) ?_
    refine sy_get C hh (fun w h => mc (uX_fX6 w h)) 3 (by decide) (oX_3 Y) rfl 4 (by decide) (index := 38) (mc uX_426) (v := .int (M16 3 4)) rfl dX6_takeName_117 ?_
    refine lv_aload_n hx hb dX6_takeName_120 rfl (lv_at hl 0 rfl) ?_
    refine sy_get C hh (fun w h => mc (uX_fX6 w h)) 3 (by decide) (oX_3 Y) rfl 0 (by decide) (index := 12) (mc uX_330) (v := .ref (Y.2.1 1)) rfl dX6_takeName_121 ?_
    refine lv_aload_n hx hb dX6_takeName_124 rfl (lv_at hl 0 rfl) ?_
    refine sy_get C hh (fun w h => mc (uX_fX6 w h)) 3 (by decide) (oX_3 Y) rfl 6 (by decide) (index := 51) (mc uX_343) (v := .int (M16 3 6)) rfl dX6_takeName_125 ?_
    refine lv_aload_n hx hb dX6_takeName_128 rfl (lv_at hl 0 rfl) ?_
    refine sy_get C hh (fun w h => mc (uX_fX6 w h)) 3 (by decide) (oX_3 Y) rfl 7 (by decide) (index := 41) (mc uX_342) (v := .int (M16 3 7)) rfl dX6_takeName_129 ?_
    refine sy_cVV C hh (As := [.int (M16 3 4), .ref (Y.2.1 1), .int (M16 3 6), .int (M16 3 7)]) (rest := []) t19 (iX10_N ht19) (oX10 ht19) rfl (mX10_addBox l Y _ M16 t19 ht19 (M16 3 4) (M16 3 6) (M16 3 7) _ hq) (cwV 4 C.1.2.2.2.2 (sy_goodV uX_good uX_436 uX_437 uX_438 uX_20 uX_424 _) rfl rfl rfl hdX10_addBox ⟨Nat.le_of_ble_eq_true rfl, Nat.le_of_ble_eq_true rfl⟩) rfl hl.1 rfl (Nat.le_of_ble_eq_true rfl) dX6_takeName_132 (fun M20 H locs hq hh => ?_)
    refine lv_aload_n hx hb dX6_takeName_135 rfl (lv_at hl 0 rfl) ?_
    refine lv_iconst (v := (1 : Int32)) hx hb dX6_takeName_136 (by decide) ?_
    refine sy_put C hh (fun w h => mc (uX_fX6 w h)) tyX6 tyX6_ok nmX6 3 (by decide) (oX_3 Y) rfl 3 (by decide) (index := 35) (mc uX_428) rfl 3 (1 : Int32) (ty := .int) (tyX6_ok 3 (by decide)) rfl rfl (Nat.le_of_ble_eq_true rfl) (pX6_3 Y _ _ _) dX6_takeName_137 (fun H locs hh => ?_)
    refine lv_iconst (v := (0 : Int32)) hx hb dX6_takeName_140 (by decide) ?_
    exact sy_iret C hh dX6_takeName_141 hq
  · have hq := hq.2 c18
    refine lv_iconst (v := (nI 3)) hx hb dX6_takeName_110 (by decide) ?_
    exact sy_iret C hh dX6_takeName_111 hq

end
set_option maxHeartbeats 4000000 in
set_option maxRecDepth 100000 in
theorem mX6_takeName (l : Launch) (Y : sy_Y) (sz : Nat) (M : sy_M) (Q : Int32 → sy_M → Prop) (hq : wX6_takeName M  Q) : Met l yX6_takeName vsX6_takeName ({ frames := 9, cells := 0, slots := 0, locals := 265 } : Room) (va_Pc [.ref (Y.2.1 3)] (sy_pre Y NX EX tfX sz M)) (sy_QI Y NX EX sz Q) 0 0 (sy_A NX Y.2.1 sz) := by
  refine sy_metI (by decide) rfl (Nat.le_of_ble_eq_true rfl) ?_
  intro p e s m args below meth c C ls hl hh
  have hx := C.1.1
  have hb := C.1.2.1
  have hl : lv_has ls 1 [(0, .ref (Y.2.1 3))] := hl
  unfold wX6_takeName at hq
  refine lv_aload_n hx hb dX6_takeName_0 rfl (lv_at hl 0 rfl) ?_
  refine sy_get C hh (fun w h => mc (uX_fX6 w h)) 3 (by decide) (oX_3 Y) rfl 5 (by decide) (index := 54) (mc uX_345) (v := .int (M 3 5)) rfl dX6_takeName_1 ?_
  refine lv_bipush (v := (nI 97)) hx hb dX6_takeName_4 (by decide) ?_
  refine lv_icmp_ne (tgt := 40) hx hb dX6_takeName_6 (by decide) (fun c1 => ?_) (fun c1 => ?_)
  · have hq := hq.1 c1
    refine lv_iconst (v := (1 : Int32)) hx hb dX6_takeName_40 (by decide) ?_
    exact sy_iret C hh dX6_takeName_41 hq
  · have hq := hq.2 c1
    refine lv_aload_n hx hb dX6_takeName_9 rfl (lv_at hl 0 rfl) ?_
    refine sy_get C hh (fun w h => mc (uX_fX6 w h)) 3 (by decide) (oX_3 Y) rfl 7 (by decide) (index := 41) (mc uX_342) (v := .int (M 3 7)) rfl dX6_takeName_10 ?_
    refine lv_aload_n hx hb dX6_takeName_13 rfl (lv_at hl 0 rfl) ?_
    refine sy_get C hh (fun w h => mc (uX_fX6 w h)) 3 (by decide) (oX_3 Y) rfl 6 (by decide) (index := 51) (mc uX_343) (v := .int (M 3 6)) rfl dX6_takeName_14 ?_
    refine lv_isub hx hb dX6_takeName_17 ?_
    refine lv_bipush (v := (nI 8)) hx hb dX6_takeName_18 (by decide) ?_
    refine lv_icmp_gt (tgt := 40) hx hb dX6_takeName_20 (by decide) (fun c2 => ?_) (fun c2 => ?_)
    · have hq := hq.1 c2
      refine lv_iconst (v := (1 : Int32)) hx hb dX6_takeName_40 (by decide) ?_
      exact sy_iret C hh dX6_takeName_41 hq
    · have hq := hq.2 c2
      refine lv_aload_n hx hb dX6_takeName_23 rfl (lv_at hl 0 rfl) ?_
      refine va_ldcS hx hb C.1.2.2.2.1 (C.2.1.2.2.1.2.1 ("AreaSetter$Reader", 80, 0) (by decide +kernel)) dX6_takeName_24 ?_
      refine sy_cIV C hh (As := [.ref (Y.2.2.2.1 0)]) (rest := []) 3 (by decide) (oX_3 Y) rfl (mX6_isWord l Y _ M 0 (by decide) _ hq) (cwV 1 C.1.2.2.2.2 (sy_goodV uX_good uX_409 uX_410 uX_411 uX_351 uX_408 _) rfl rfl rfl hdX6_isWord ⟨Nat.le_of_ble_eq_true rfl, Nat.le_of_ble_eq_true rfl⟩) rfl hl.1 rfl (Nat.le_of_ble_eq_true rfl) dX6_takeName_26 (fun r4 M3 H locs hq hh => ?_)
      refine lv_if_ne (tgt := 40) hx hb dX6_takeName_29 (by decide) (fun c5 => ?_) (fun c5 => ?_)
      · have hq := hq.1 c5
        refine lv_iconst (v := (1 : Int32)) hx hb dX6_takeName_40 (by decide) ?_
        exact sy_iret C hh dX6_takeName_41 hq
      · have hq := hq.2 c5
        refine lv_aload_n hx hb dX6_takeName_32 rfl (lv_at hl 0 rfl) ?_
        refine sy_cIV C hh (As := []) (rest := []) 3 (by decide) (oX_3 Y) rfl (mX6_howOfWord l Y _ M3  _ hq) (cwV 0 C.1.2.2.2.2 (sy_goodV uX_good uX_429 uX_430 uX_431 uX_351 uX_412 _) rfl rfl rfl hdX6_howOfWord ⟨Nat.le_of_ble_eq_true rfl, Nat.le_of_ble_eq_true rfl⟩) rfl hl.1 rfl (Nat.le_of_ble_eq_true rfl) dX6_takeName_33 (fun r7 M6 H locs hq hh => ?_)
        refine lv_iconst (v := (-1 : Int32)) hx hb dX6_takeName_36 (by decide) ?_
        refine lv_icmp_eq (tgt := 42) hx hb dX6_takeName_37 (by decide) (fun c8 => ?_) (fun c8 => ?_)
        · have hq := hq.1 c8
          refine lv_aload_n hx hb dX6_takeName_42 rfl (lv_at hl 0 rfl) ?_
          obtain ⟨t9, et9, ht9, hq⟩ := hq
          refine sy_get C hh (fun w h => mc (uX_fX6 w h)) 3 (by decide) (oX_3 Y) rfl 1 (by decide) (index := 21) (mc uX_333) (v := .ref (Y.2.1 t9)) (sy_rf_of et9 (by have := iX10_lt ht9; omega)) dX6_takeName_43 ?_
          refine sy_get C hh (fun w h => mc (uX_fX10 w h)) t9 (iX10_N ht9) (oX10 ht9) rfl 0 (by decide) (index := 29) (mc uX_425) (v := .int (M6 t9 0)) rfl dX6_takeName_46 ?_
          refine lv_bipush (v := (nI 40)) hx hb dX6_takeName_49 (by decide) ?_
          refine lv_icmp_ge (tgt := 85) hx hb dX6_takeName_51 (by decide) (fun c10 => ?_) (fun c10 => ?_)
          · have hq := hq.1 c10
            refine lv_iconst (v := (nI 2)) hx hb dX6_takeName_85 (by decide) ?_
            exact sy_iret C hh dX6_takeName_86 hq
          · have hq := hq.2 c10
            refine lv_aload_n hx hb dX6_takeName_54 rfl (lv_at hl 0 rfl) ?_
            obtain ⟨t11, et11, ht11, hq⟩ := hq
            refine sy_get C hh (fun w h => mc (uX_fX6 w h)) 3 (by decide) (oX_3 Y) rfl 1 (by decide) (index := 21) (mc uX_333) (v := .ref (Y.2.1 t11)) (sy_rf_of et11 (by have := iX10_lt ht11; omega)) dX6_takeName_55 ?_
            refine lv_aload_n hx hb dX6_takeName_58 rfl (lv_at hl 0 rfl) ?_
            refine sy_get C hh (fun w h => mc (uX_fX6 w h)) 3 (by decide) (oX_3 Y) rfl 4 (by decide) (index := 38) (mc uX_426) (v := .int (M6 3 4)) rfl dX6_takeName_59 ?_
            refine sy_cIV C hh (As := [.int (M6 3 4)]) (rest := []) t11 (iX10_N ht11) (oX10 ht11) rfl (mX10_has l Y _ M6 t11 ht11 (M6 3 4) _ hq) (cwV 1 C.1.2.2.2.2 (sy_goodV uX_good uX_432 uX_18 uX_19 uX_20 uX_11 _) rfl rfl rfl hdX10_has ⟨Nat.le_of_ble_eq_true rfl, Nat.le_of_ble_eq_true rfl⟩) rfl hl.1 rfl (Nat.le_of_ble_eq_true rfl) dX6_takeName_62 (fun r13 M12 H locs hq hh => ?_)
            refine lv_if_eq (tgt := 87) hx hb dX6_takeName_65 (by decide) (fun c14 => ?_) (fun c14 => ?_)
            · have hq := hq.1 c14
              refine kX6_takeName_87 C  M12  _ _ _ hq hh (lv_sub hl [0] rfl)
            · have hq := hq.2 c14
              refine lv_aload_n hx hb dX6_takeName_68 rfl (lv_at hl 0 rfl) ?_
              obtain ⟨t21, et21, ht21, hq⟩ := hq
              refine sy_get C hh (fun w h => mc (uX_fX6 w h)) 3 (by decide) (oX_3 Y) rfl 1 (by decide) (index := 21) (mc uX_333) (v := .ref (Y.2.1 t21)) (sy_rf_of et21 (by have := iX10_lt ht21; omega)) dX6_takeName_69 ?_
              refine sy_get C hh (fun w h => mc (uX_fX10 w h)) t21 (iX10_N ht21) (oX10 ht21) rfl 4 (by decide) (index := 102) (mc uX_427) (v := .ref (Y.2.1 (t21 + 3))) rfl dX6_takeName_72 ?_
              refine lv_aload_n hx hb dX6_takeName_75 rfl (lv_at hl 0 rfl) ?_
              refine sy_get C hh (fun w h => mc (uX_fX6 w h)) 3 (by decide) (oX_3 Y) rfl 4 (by decide) (index := 38) (mc uX_426) (v := .int (M12 3 4)) rfl dX6_takeName_76 ?_
              obtain ⟨n22, hn22, en22, hq⟩ := hq
              refine sy_iald C hh (t21 + 3) (iX10_N3 ht21) (aX10_3 ht21) (tX10_3 ht21) hn22 en22 (by decide) dX6_takeName_79 ?_
              refine lv_bipush (v := (nI 8)) hx hb dX6_takeName_80 (by decide) ?_
              refine lv_icmp_lt (tgt := 87) hx hb dX6_takeName_82 (by decide) (fun c23 => ?_) (fun c23 => ?_)
              · have hq := hq.1 c23
                refine kX6_takeName_87 C  M12  _ _ _ hq hh (lv_sub hl [0] rfl)
              · have hq := hq.2 c23
                refine lv_iconst (v := (nI 2)) hx hb dX6_takeName_85 (by decide) ?_
                exact sy_iret C hh dX6_takeName_86 hq
        · have hq := hq.2 c8
          refine lv_iconst (v := (1 : Int32)) hx hb dX6_takeName_40 (by decide) ?_
          exact sy_iret C hh dX6_takeName_41 hq

/-! AreaSetter$Reader.takeNumber()I -/
def wX6_takeNumber_23 (K_54 : sy_M → Int32 → Prop) (Q : Int32 → sy_M → Prop) : Nat → sy_M → Int32 → Int32 → Prop
  | 0, _, _, _ => False
  | n + 1, M, x1, x2 => (((M 3 7) ≤ x2 → K_54 M x1) ∧ (¬ (M 3 7) ≤ x2 → wX9_byteAt M x2 (fun r4 M3 => wX6_takeNumber_23 K_54 Q n M3 (((x1 * (nI 10)) + r4) - (nI 48)) (x2 + (1 : Int32)))))
def wX6_takeNumber (M : sy_M)  (Q : Int32 → sy_M → Prop) : Prop := ((((M 3 7) - (M 3 6)) ≤ (nI 6) → ∃ n14 : Nat, wX6_takeNumber_23 (fun (M5 : sy_M) (x1_6 : Int32) => ∃ t7 : Nat, (M5 3 2) = nI t7 ∧ iX10 t7 ∧ ∃ t8 : Nat, (M5 3 2) = nI t8 ∧ iX10 t8 ∧ wX10_has M5 t8 ((M5 t7 0) - (1 : Int32)) (fun r10 M9 => ((r10 = 0 → Q (0 : Int32) (mu M9 3 3 (nI 4))) ∧ (¬ r10 = 0 → ∃ t12 : Nat, (M9 3 2) = nI t12 ∧ iX10 t12 ∧ ∃ n13 : Nat, n13 < 40 ∧ ((M5 t7 0) - (1 : Int32)) = nI n13 ∧ Q (0 : Int32) (mu (mu M9 (t12 + 5) n13 x1_6) 3 3 (nI 4)))))) Q n14 M (0 : Int32) (M 3 6)) ∧ (¬ ((M 3 7) - (M 3 6)) ≤ (nI 6) → Q (1 : Int32) M))
section
variable {p : Program} {l : Launch} {e : Env} {s : State} {m : MethodId} {args : Array Value} {below : List Frame} {meth : Method} {c : Code} {Y : sy_Y}
set_option maxHeartbeats 4000000 in
set_option maxRecDepth 100000 in
theorem kX6_takeNumber_23 (C : sy_C p m c cX6_takeNumber 3 s args vsX6_takeNumber RX6 meth (some .int) Y NX tfX) {Q : Int32 → sy_M → Prop} {K_54 : sy_M → Int32 → Prop} (hK_54 : ∀ (M : sy_M) (x1 : Int32) (H : Heap) (locs : List Loc) (ls : Array Slot), K_54 M x1 → sy_H Y NX EX s H locs M → lv_has ls 3 [(0, .ref (Y.2.1 3)), (1, .int x1)] → W p l e ({ frames := 1, cells := 0, slots := 0, locals := 21 } : Room) s m args below meth c H locs 0 0 (sy_ZI below args s Y NX EX Q) (F0 m 54 ls [])) :
    ∀ (n : Nat) (M : sy_M) (x1 : Int32) (x2 : Int32) (H : Heap) (locs : List Loc) (ls : Array Slot), wX6_takeNumber_23 K_54 Q n M x1 x2 → sy_H Y NX EX s H locs M → lv_has ls 3 [(0, .ref (Y.2.1 3)), (1, .int x1), (2, .int x2)] → W p l e ({ frames := 1, cells := 0, slots := 0, locals := 21 } : Room) s m args below meth c H locs 0 0 (sy_ZI below args s Y NX EX Q) (F0 m 23 ls []) := by
  have hx := C.1.1
  have hb := C.1.2.1
  intro n
  induction n with
  | zero =>
    intro M x1 x2 H locs ls hq hh hl
    unfold wX6_takeNumber_23 at hq
    exact hq.elim
  | succ n ih =>
    intro M x1 x2 H locs ls hq hh hl
    unfold wX6_takeNumber_23 at hq
    refine lv_iload_n hx hb dX6_takeNumber_23 rfl (lv_at hl 2 rfl) ?_
    refine lv_aload_n hx hb dX6_takeNumber_24 rfl (lv_at hl 0 rfl) ?_
    refine sy_get C hh (fun w h => mc (uX_fX6 w h)) 3 (by decide) (oX_3 Y) rfl 7 (by decide) (index := 41) (mc uX_342) (v := .int (M 3 7)) rfl dX6_takeNumber_25 ?_
    refine lv_icmp_ge (tgt := 54) hx hb dX6_takeNumber_28 (by decide) (fun c2 => ?_) (fun c2 => ?_)
    · have hq := hq.1 c2
      exact hK_54 M x1 _ _ _ hq hh (lv_sub hl [0, 1] rfl)
    · have hq := hq.2 c2
      refine lv_iload_n hx hb dX6_takeNumber_31 rfl (lv_at hl 1 rfl) ?_
      refine lv_bipush (v := (nI 10)) hx hb dX6_takeNumber_32 (by decide) ?_
      refine lv_imul hx hb dX6_takeNumber_34 ?_
      refine lv_aload_n hx hb dX6_takeNumber_35 rfl (lv_at hl 0 rfl) ?_
      refine sy_get C hh (fun w h => mc (uX_fX6 w h)) 3 (by decide) (oX_3 Y) rfl 0 (by decide) (index := 12) (mc uX_330) (v := .ref (Y.2.1 1)) rfl dX6_takeNumber_36 ?_
      refine lv_iload_n hx hb dX6_takeNumber_39 rfl (lv_at hl 2 rfl) ?_
      refine sy_cIV C hh (As := [.int x2]) (rest := [.int (x1 * (nI 10))]) 1 (by decide) (oX_1 Y) rfl (mX9_byteAt l Y _ M x2 _ hq) (cwV 1 C.1.2.2.2.2 (sy_goodV uX_good uX_346 uX_347 uX_348 uX_329 uX_338 _) rfl rfl rfl hdX9_byteAt ⟨Nat.le_of_ble_eq_true rfl, Nat.le_of_ble_eq_true rfl⟩) rfl hl.1 rfl (Nat.le_of_ble_eq_true rfl) dX6_takeNumber_40 (fun r4 M3 H locs hq hh => ?_)
      refine lv_iadd hx hb dX6_takeNumber_43 ?_
      refine lv_bipush (v := (nI 48)) hx hb dX6_takeNumber_44 (by decide) ?_
      refine lv_isub hx hb dX6_takeNumber_46 ?_
      refine lv_istore_n (lv' := [(1, .int (((x1 * (nI 10)) + r4) - (nI 48))), (0, .ref (Y.2.1 3)), (2, .int x2)]) hx hb dX6_takeNumber_47 rfl hl (by decide) rfl (fun ls hl => ?_)
      refine lv_iinc (v := (x2 + (1 : Int32))) (lv' := [(2, .int (x2 + (1 : Int32))), (1, .int (((x1 * (nI 10)) + r4) - (nI 48))), (0, .ref (Y.2.1 3))]) hx hb dX6_takeNumber_48 hl (k := 2) rfl (sy_inc (by decide)) (by decide) rfl (fun ls hl => ?_)
      refine lv_goto (tgt := 23) hx hb dX6_takeNumber_51 (by decide) ?_
      exact ih M3 (((x1 * (nI 10)) + r4) - (nI 48)) (x2 + (1 : Int32)) _ _ _ hq hh (lv_sub hl [2, 1, 0] rfl)

end
set_option maxHeartbeats 4000000 in
set_option maxRecDepth 100000 in
theorem mX6_takeNumber (l : Launch) (Y : sy_Y) (sz : Nat) (M : sy_M) (Q : Int32 → sy_M → Prop) (hq : wX6_takeNumber M  Q) : Met l yX6_takeNumber vsX6_takeNumber ({ frames := 1, cells := 0, slots := 0, locals := 21 } : Room) (va_Pc [.ref (Y.2.1 3)] (sy_pre Y NX EX tfX sz M)) (sy_QI Y NX EX sz Q) 0 0 (sy_A NX Y.2.1 sz) := by
  refine sy_metI (by decide) rfl (Nat.le_of_ble_eq_true rfl) ?_
  intro p e s m args below meth c C ls hl hh
  have hx := C.1.1
  have hb := C.1.2.1
  have hl : lv_has ls 3 [(0, .ref (Y.2.1 3))] := hl
  unfold wX6_takeNumber at hq
  refine lv_aload_n hx hb dX6_takeNumber_0 rfl (lv_at hl 0 rfl) ?_
  refine sy_get C hh (fun w h => mc (uX_fX6 w h)) 3 (by decide) (oX_3 Y) rfl 7 (by decide) (index := 41) (mc uX_342) (v := .int (M 3 7)) rfl dX6_takeNumber_1 ?_
  refine lv_aload_n hx hb dX6_takeNumber_4 rfl (lv_at hl 0 rfl) ?_
  refine sy_get C hh (fun w h => mc (uX_fX6 w h)) 3 (by decide) (oX_3 Y) rfl 6 (by decide) (index := 51) (mc uX_343) (v := .int (M 3 6)) rfl dX6_takeNumber_5 ?_
  refine lv_isub hx hb dX6_takeNumber_8 ?_
  refine lv_bipush (v := (nI 6)) hx hb dX6_takeNumber_9 (by decide) ?_
  refine lv_icmp_le (tgt := 16) hx hb dX6_takeNumber_11 (by decide) (fun c1 => ?_) (fun c1 => ?_)
  · have hq := hq.1 c1
    refine lv_iconst (v := (0 : Int32)) hx hb dX6_takeNumber_16 (by decide) ?_
    refine lv_istore_n (lv' := [(1, .int (0 : Int32)), (0, .ref (Y.2.1 3))]) hx hb dX6_takeNumber_17 rfl hl (by decide) rfl (fun ls hl => ?_)
    refine lv_aload_n hx hb dX6_takeNumber_18 rfl (lv_at hl 1 rfl) ?_
    refine sy_get C hh (fun w h => mc (uX_fX6 w h)) 3 (by decide) (oX_3 Y) rfl 6 (by decide) (index := 51) (mc uX_343) (v := .int (M 3 6)) rfl dX6_takeNumber_19 ?_
    refine lv_istore_n (lv' := [(2, .int (M 3 6)), (1, .int (0 : Int32)), (0, .ref (Y.2.1 3))]) hx hb dX6_takeNumber_22 rfl hl (by decide) rfl (fun ls hl => ?_)
    obtain ⟨n14, hq⟩ := hq
    refine kX6_takeNumber_23 C (fun M5 x1_6 H locs ls hq hh hl => ?_) n14 M (0 : Int32) (M 3 6) _ _ _ hq hh (lv_sub hl [2, 1, 0] rfl)
    · refine lv_aload_n hx hb dX6_takeNumber_54 rfl (lv_at hl 0 rfl) ?_
      obtain ⟨t7, et7, ht7, hq⟩ := hq
      refine sy_get C hh (fun w h => mc (uX_fX6 w h)) 3 (by decide) (oX_3 Y) rfl 1 (by decide) (index := 21) (mc uX_333) (v := .ref (Y.2.1 t7)) (sy_rf_of et7 (by have := iX10_lt ht7; omega)) dX6_takeNumber_55 ?_
      refine sy_get C hh (fun w h => mc (uX_fX10 w h)) t7 (iX10_N ht7) (oX10 ht7) rfl 0 (by decide) (index := 29) (mc uX_425) (v := .int (M5 t7 0)) rfl dX6_takeNumber_58 ?_
      refine lv_iconst (v := (1 : Int32)) hx hb dX6_takeNumber_61 (by decide) ?_
      refine lv_isub hx hb dX6_takeNumber_62 ?_
      refine lv_istore_n (lv' := [(2, .int ((M5 t7 0) - (1 : Int32))), (0, .ref (Y.2.1 3)), (1, .int x1_6)]) hx hb dX6_takeNumber_63 rfl hl (by decide) rfl (fun ls hl => ?_)
      refine lv_aload_n hx hb dX6_takeNumber_64 rfl (lv_at hl 1 rfl) ?_
      obtain ⟨t8, et8, ht8, hq⟩ := hq
      refine sy_get C hh (fun w h => mc (uX_fX6 w h)) 3 (by decide) (oX_3 Y) rfl 1 (by decide) (index := 21) (mc uX_333) (v := .ref (Y.2.1 t8)) (sy_rf_of et8 (by have := iX10_lt ht8; omega)) dX6_takeNumber_65 ?_
      refine lv_iload_n hx hb dX6_takeNumber_68 rfl (lv_at hl 0 rfl) ?_
      refine sy_cIV C hh (As := [.int ((M5 t7 0) - (1 : Int32))]) (rest := []) t8 (iX10_N ht8) (oX10 ht8) rfl (mX10_has l Y _ M5 t8 ht8 ((M5 t7 0) - (1 : Int32)) _ hq) (cwV 1 C.1.2.2.2.2 (sy_goodV uX_good uX_432 uX_18 uX_19 uX_20 uX_11 _) rfl rfl rfl hdX10_has ⟨Nat.le_of_ble_eq_true rfl, Nat.le_of_ble_eq_true rfl⟩) rfl hl.1 rfl (Nat.le_of_ble_eq_true rfl) dX6_takeNumber_69 (fun r10 M9 H locs hq hh => ?_)
      refine lv_if_eq (tgt := 85) hx hb dX6_takeNumber_72 (by decide) (fun c11 => ?_) (fun c11 => ?_)
      · have hq := hq.1 c11
        refine lv_aload_n hx hb dX6_takeNumber_85 rfl (lv_at hl 1 rfl) ?_
        refine lv_iconst (v := (nI 4)) hx hb dX6_takeNumber_86 (by decide) ?_
        refine sy_put C hh (fun w h => mc (uX_fX6 w h)) tyX6 tyX6_ok nmX6 3 (by decide) (oX_3 Y) rfl 3 (by decide) (index := 35) (mc uX_428) rfl 3 (nI 4) (ty := .int) (tyX6_ok 3 (by decide)) rfl rfl (Nat.le_of_ble_eq_true rfl) (pX6_3 Y _ _ _) dX6_takeNumber_87 (fun H locs hh => ?_)
        refine lv_iconst (v := (0 : Int32)) hx hb dX6_takeNumber_90 (by decide) ?_
        exact sy_iret C hh dX6_takeNumber_91 hq
      · have hq := hq.2 c11
        refine lv_aload_n hx hb dX6_takeNumber_75 rfl (lv_at hl 1 rfl) ?_
        obtain ⟨t12, et12, ht12, hq⟩ := hq
        refine sy_get C hh (fun w h => mc (uX_fX6 w h)) 3 (by decide) (oX_3 Y) rfl 1 (by decide) (index := 21) (mc uX_333) (v := .ref (Y.2.1 t12)) (sy_rf_of et12 (by have := iX10_lt ht12; omega)) dX6_takeNumber_76 ?_
        refine sy_get C hh (fun w h => mc (uX_fX10 w h)) t12 (iX10_N ht12) (oX10 ht12) rfl 6 (by decide) (index := 114) (mc uX_441) (v := .ref (Y.2.1 (t12 + 5))) rfl dX6_takeNumber_79 ?_
        refine lv_iload_n hx hb dX6_takeNumber_82 rfl (lv_at hl 0 rfl) ?_
        refine lv_iload_n hx hb dX6_takeNumber_83 rfl (lv_at hl 2 rfl) ?_
        obtain ⟨n13, hn13, en13, hq⟩ := hq
        refine sy_iast C hh (t12 + 5) (iX10_N5 ht12) (aX10_5 ht12) (tX10_5 ht12) hn13 en13 (by decide) dX6_takeNumber_84 (fun H locs hh => ?_)
        refine lv_aload_n hx hb dX6_takeNumber_85 rfl (lv_at hl 1 rfl) ?_
        refine lv_iconst (v := (nI 4)) hx hb dX6_takeNumber_86 (by decide) ?_
        refine sy_put C hh (fun w h => mc (uX_fX6 w h)) tyX6 tyX6_ok nmX6 3 (by decide) (oX_3 Y) rfl 3 (by decide) (index := 35) (mc uX_428) rfl 3 (nI 4) (ty := .int) (tyX6_ok 3 (by decide)) rfl rfl (Nat.le_of_ble_eq_true rfl) (pX6_3 Y _ _ _) dX6_takeNumber_87 (fun H locs hh => ?_)
        refine lv_iconst (v := (0 : Int32)) hx hb dX6_takeNumber_90 (by decide) ?_
        exact sy_iret C hh dX6_takeNumber_91 hq
  · have hq := hq.2 c1
    refine lv_iconst (v := (1 : Int32)) hx hb dX6_takeNumber_14 (by decide) ?_
    exact sy_iret C hh dX6_takeNumber_15 hq

