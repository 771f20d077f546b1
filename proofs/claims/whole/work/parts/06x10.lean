/-! AreaSetter.count(I)I -/
def wX11_count (M : sy_M) (a1 : Int32) (Q : Int32 → sy_M → Prop) : Prop := ((a1 = (0 : Int32) → ∃ t2 : Nat, M 0 6 = nI t2 ∧ iX10 t2 ∧ Q (M t2 0) M) ∧ (¬ a1 = (0 : Int32) → ((a1 = (1 : Int32) → ∃ t4 : Nat, M 0 6 = nI t4 ∧ iX10 t4 ∧ Q (M t4 1) M) ∧ (¬ a1 = (1 : Int32) → ((a1 = (nI 2) → Q (M 4 0) M) ∧ (¬ a1 = (nI 2) → ((a1 = (nI 3) → Q (M 9 0) M) ∧ (¬ a1 = (nI 3) → ((a1 = (nI 4) → Q (M 1 0) M) ∧ (¬ a1 = (nI 4) → ((a1 = (nI 5) → ∃ t9 : Nat, M 0 6 = nI t9 ∧ iX10 t9 ∧ wX2_countShown M t9 (fun r11 M10 => Q r11 M10)) ∧ (¬ a1 = (nI 5) → ((a1 = (nI 6) → ∃ t13 : Nat, M 0 6 = nI t13 ∧ iX10 t13 ∧ wX2_greatestWorst M t13 (fun r15 M14 => Q r15 M14)) ∧ (¬ a1 = (nI 6) → Q (-1 : Int32) M))))))))))))))
section
variable {p : Program} {l : Launch} {e : Env} {s : State} {m : MethodId} {args : Array Value} {below : List Frame} {meth : Method} {c : Code} {Y : sy_Y}
end
set_option maxHeartbeats 4000000 in
set_option maxRecDepth 100000 in
theorem mX11_count (l : Launch) (Y : sy_Y) (sz : Nat) (M : sy_M) (a1 : Int32) (Q : Int32 → sy_M → Prop) (hq : wX11_count M a1 Q) : Met l yX11_count vsX11_count ({ frames := 3, cells := 0, slots := 0, locals := 66 } : Room) (va_Pc [.ref (Y.2.1 0), .int a1] (sy_pre Y NX EX tfX sz M)) (sy_QI Y NX EX sz Q) 0 0 (sy_A NX Y.2.1 sz) := by
  refine sy_metI (by decide) rfl (Nat.le_of_ble_eq_true rfl) ?_
  intro p e s m args below meth c C ls hl hh
  have hx := C.1.1
  have hb := C.1.2.1
  have hl : lv_has ls 2 [(0, .ref (Y.2.1 0)), (1, .int a1)] := hl
  unfold wX11_count at hq
  refine lv_iload_n hx hb dX11_count_0 rfl (lv_at hl 1 rfl) ?_
  by_cases c1 : a1 = (0 : Int32)
  · have hq := hq.1 c1
    refine lv_tableIn (tgt := 44) (off := 43) hx hb dX11_count_1 (by rw [c1]; decide) (by rw [c1]; decide) (by rw [c1]; rfl) (by decide) ?_
    refine lv_aload_n hx hb dX11_count_44 rfl (lv_at hl 0 rfl) ?_
    obtain ⟨t2, et2, ht2, hq⟩ := hq
    refine sy_get C hh (fun w h => mc (uX_fX11 w h)) 0 (by decide) (oX_0 Y) rfl 6 (by decide) (index := 51) (mc uX_493) (v := .ref (Y.2.1 t2)) (sy_rf_of et2 (by have := iX10_lt ht2; omega)) dX11_count_45 ?_
    refine sy_get C hh (fun w h => mc (uX_fX10 w h)) t2 (iX10_N ht2) (oX10 ht2) rfl 0 (by decide) (index := 89) (mc uX_518) (v := .int (M t2 0)) rfl dX11_count_48 ?_
    exact sy_iret C hh dX11_count_51 hq
  · have hq := hq.2 c1
    by_cases c3 : a1 = (1 : Int32)
    · have hq := hq.1 c3
      refine lv_tableIn (tgt := 52) (off := 51) hx hb dX11_count_1 (by rw [c3]; decide) (by rw [c3]; decide) (by rw [c3]; rfl) (by decide) ?_
      refine lv_aload_n hx hb dX11_count_52 rfl (lv_at hl 0 rfl) ?_
      obtain ⟨t4, et4, ht4, hq⟩ := hq
      refine sy_get C hh (fun w h => mc (uX_fX11 w h)) 0 (by decide) (oX_0 Y) rfl 6 (by decide) (index := 51) (mc uX_493) (v := .ref (Y.2.1 t4)) (sy_rf_of et4 (by have := iX10_lt ht4; omega)) dX11_count_53 ?_
      refine sy_get C hh (fun w h => mc (uX_fX10 w h)) t4 (iX10_N ht4) (oX10 ht4) rfl 1 (by decide) (index := 222) (mc uX_599) (v := .int (M t4 1)) rfl dX11_count_56 ?_
      exact sy_iret C hh dX11_count_59 hq
    · have hq := hq.2 c3
      by_cases c5 : a1 = (nI 2)
      · have hq := hq.1 c5
        refine lv_tableIn (tgt := 60) (off := 59) hx hb dX11_count_1 (by rw [c5]; decide) (by rw [c5]; decide) (by rw [c5]; rfl) (by decide) ?_
        refine lv_aload_n hx hb dX11_count_60 rfl (lv_at hl 0 rfl) ?_
        refine sy_get C hh (fun w h => mc (uX_fX11 w h)) 0 (by decide) (oX_0 Y) rfl 2 (by decide) (index := 26) (mc uX_483) (v := .ref (Y.2.1 4)) rfl dX11_count_61 ?_
        refine sy_get C hh (fun w h => mc (uX_fX0 w h)) 4 (by decide) (oX_4 Y) rfl 0 (by decide) (index := 83) (mc uX_516) (v := .int (M 4 0)) rfl dX11_count_64 ?_
        exact sy_iret C hh dX11_count_67 hq
      · have hq := hq.2 c5
        by_cases c6 : a1 = (nI 3)
        · have hq := hq.1 c6
          refine lv_tableIn (tgt := 68) (off := 67) hx hb dX11_count_1 (by rw [c6]; decide) (by rw [c6]; decide) (by rw [c6]; rfl) (by decide) ?_
          refine lv_aload_n hx hb dX11_count_68 rfl (lv_at hl 0 rfl) ?_
          refine sy_get C hh (fun w h => mc (uX_fX11 w h)) 0 (by decide) (oX_0 Y) rfl 3 (by decide) (index := 33) (mc uX_486) (v := .ref (Y.2.1 9)) rfl dX11_count_69 ?_
          refine sy_get C hh (fun w h => mc (uX_fX2 w h)) 9 (by decide) (oX_9 Y) rfl 0 (by decide) (index := 86) (mc uX_517) (v := .int (M 9 0)) rfl dX11_count_72 ?_
          exact sy_iret C hh dX11_count_75 hq
        · have hq := hq.2 c6
          by_cases c7 : a1 = (nI 4)
          · have hq := hq.1 c7
            refine lv_tableIn (tgt := 76) (off := 75) hx hb dX11_count_1 (by rw [c7]; decide) (by rw [c7]; decide) (by rw [c7]; rfl) (by decide) ?_
            refine lv_aload_n hx hb dX11_count_76 rfl (lv_at hl 0 rfl) ?_
            refine sy_get C hh (fun w h => mc (uX_fX11 w h)) 0 (by decide) (oX_0 Y) rfl 0 (by decide) (index := 10) (mc uX_476) (v := .ref (Y.2.1 1)) rfl dX11_count_77 ?_
            refine sy_get C hh (fun w h => mc (uX_fX9 w h)) 1 (by decide) (oX_1 Y) rfl 0 (by decide) (index := 72) (mc uX_511) (v := .int (M 1 0)) rfl dX11_count_80 ?_
            exact sy_iret C hh dX11_count_83 hq
          · have hq := hq.2 c7
            by_cases c8 : a1 = (nI 5)
            · have hq := hq.1 c8
              refine lv_tableIn (tgt := 84) (off := 83) hx hb dX11_count_1 (by rw [c8]; decide) (by rw [c8]; decide) (by rw [c8]; rfl) (by decide) ?_
              refine lv_aload_n hx hb dX11_count_84 rfl (lv_at hl 0 rfl) ?_
              refine sy_get C hh (fun w h => mc (uX_fX11 w h)) 0 (by decide) (oX_0 Y) rfl 3 (by decide) (index := 33) (mc uX_486) (v := .ref (Y.2.1 9)) rfl dX11_count_85 ?_
              refine lv_aload_n hx hb dX11_count_88 rfl (lv_at hl 0 rfl) ?_
              obtain ⟨t9, et9, ht9, hq⟩ := hq
              refine sy_get C hh (fun w h => mc (uX_fX11 w h)) 0 (by decide) (oX_0 Y) rfl 6 (by decide) (index := 51) (mc uX_493) (v := .ref (Y.2.1 t9)) (sy_rf_of et9 (by have := iX10_lt ht9; omega)) dX11_count_89 ?_
              refine sy_cIV C hh (As := [.ref (Y.2.1 t9)]) (rest := []) 9 (by decide) (oX_9 Y) rfl (mX2_countShown l Y _ M t9 ht9 _ hq) (cwV 1 C.1.2.2.2.2 (sy_goodV uX_good uX_600 uX_601 uX_602 uX_112 uX_127 _) rfl rfl rfl hdX2_countShown ⟨Nat.le_of_ble_eq_true rfl, Nat.le_of_ble_eq_true rfl⟩) rfl hl.1 rfl (Nat.le_of_ble_eq_true rfl) dX11_count_92 (fun r11 M10 H locs hq hh => ?_)
              exact sy_iret C hh dX11_count_95 hq
            · have hq := hq.2 c8
              by_cases c12 : a1 = (nI 6)
              · have hq := hq.1 c12
                refine lv_tableIn (tgt := 96) (off := 95) hx hb dX11_count_1 (by rw [c12]; decide) (by rw [c12]; decide) (by rw [c12]; rfl) (by decide) ?_
                refine lv_aload_n hx hb dX11_count_96 rfl (lv_at hl 0 rfl) ?_
                refine sy_get C hh (fun w h => mc (uX_fX11 w h)) 0 (by decide) (oX_0 Y) rfl 3 (by decide) (index := 33) (mc uX_486) (v := .ref (Y.2.1 9)) rfl dX11_count_97 ?_
                refine lv_aload_n hx hb dX11_count_100 rfl (lv_at hl 0 rfl) ?_
                obtain ⟨t13, et13, ht13, hq⟩ := hq
                refine sy_get C hh (fun w h => mc (uX_fX11 w h)) 0 (by decide) (oX_0 Y) rfl 6 (by decide) (index := 51) (mc uX_493) (v := .ref (Y.2.1 t13)) (sy_rf_of et13 (by have := iX10_lt ht13; omega)) dX11_count_101 ?_
                refine sy_cIV C hh (As := [.ref (Y.2.1 t13)]) (rest := []) 9 (by decide) (oX_9 Y) rfl (mX2_greatestWorst l Y _ M t13 ht13 _ hq) (cwV 1 C.1.2.2.2.2 (sy_goodV uX_good uX_603 uX_604 uX_605 uX_112 uX_129 _) rfl rfl rfl hdX2_greatestWorst ⟨Nat.le_of_ble_eq_true rfl, Nat.le_of_ble_eq_true rfl⟩) rfl hl.1 rfl (Nat.le_of_ble_eq_true rfl) dX11_count_104 (fun r15 M14 H locs hq hh => ?_)
                exact sy_iret C hh dX11_count_107 hq
              · have hq := hq.2 c12
                refine lv_tableOut (tgt := 108) hx hb dX11_count_1 (by have := lv_neT c1 (a := 0) (by decide); have := lv_neT c3 (a := 1) (by decide); have := lv_neT c5 (a := 2) (by decide); have := lv_neT c6 (a := 3) (by decide); have := lv_neT c7 (a := 4) (by decide); have := lv_neT c8 (a := 5) (by decide); have := lv_neT c12 (a := 6) (by decide); omega) (by decide) ?_
                refine lv_iconst (v := (-1 : Int32)) hx hb dX11_count_108 (by decide) ?_
                exact sy_iret C hh dX11_count_109 hq

/-! AreaSetter$Drawings.keeps(I)Z -/
def wX2_keeps (M : sy_M) (a1 : Int32) (Q : Int32 → sy_M → Prop) : Prop := ((a1 < 0 → Q (0 : Int32) M) ∧ (¬ a1 < 0 → (((M 9 0) ≤ a1 → Q (0 : Int32) M) ∧ (¬ (M 9 0) ≤ a1 → ((a1 < ((M 9 0) - (nI 50)) → Q (0 : Int32) M) ∧ (¬ a1 < ((M 9 0) - (nI 50)) → Q (1 : Int32) M))))))
section
variable {p : Program} {l : Launch} {e : Env} {s : State} {m : MethodId} {args : Array Value} {below : List Frame} {meth : Method} {c : Code} {Y : sy_Y}
end
set_option maxHeartbeats 4000000 in
set_option maxRecDepth 100000 in
theorem mX2_keeps (l : Launch) (Y : sy_Y) (sz : Nat) (M : sy_M) (a1 : Int32) (Q : Int32 → sy_M → Prop) (hq : wX2_keeps M a1 Q) : Met l yX2_keeps vsX2_keeps ({ frames := 0, cells := 0, slots := 0, locals := 0 } : Room) (va_Pc [.ref (Y.2.1 9), .int a1] (sy_pre Y NX EX tfX sz M)) (sy_QI Y NX EX sz Q) 0 0 (sy_A NX Y.2.1 sz) := by
  refine sy_metI (by decide) rfl (Nat.le_of_ble_eq_true rfl) ?_
  intro p e s m args below meth c C ls hl hh
  have hx := C.1.1
  have hb := C.1.2.1
  have hl : lv_has ls 2 [(0, .ref (Y.2.1 9)), (1, .int a1)] := hl
  unfold wX2_keeps at hq
  refine lv_iload_n hx hb dX2_keeps_0 rfl (lv_at hl 1 rfl) ?_
  refine lv_if_lt (tgt := 27) hx hb dX2_keeps_1 (by decide) (fun c1 => ?_) (fun c1 => ?_)
  · have hq := hq.1 c1
    refine lv_iconst (v := (0 : Int32)) hx hb dX2_keeps_27 (by decide) ?_
    exact sy_zret C hh dX2_keeps_28 (by decide) hq
  · have hq := hq.2 c1
    refine lv_iload_n hx hb dX2_keeps_4 rfl (lv_at hl 1 rfl) ?_
    refine lv_aload_n hx hb dX2_keeps_5 rfl (lv_at hl 0 rfl) ?_
    refine sy_get C hh (fun w h => mc (uX_fX2 w h)) 9 (by decide) (oX_9 Y) rfl 0 (by decide) (index := 9) (mc uX_92) (v := .int (M 9 0)) rfl dX2_keeps_6 ?_
    refine lv_icmp_ge (tgt := 27) hx hb dX2_keeps_9 (by decide) (fun c2 => ?_) (fun c2 => ?_)
    · have hq := hq.1 c2
      refine lv_iconst (v := (0 : Int32)) hx hb dX2_keeps_27 (by decide) ?_
      exact sy_zret C hh dX2_keeps_28 (by decide) hq
    · have hq := hq.2 c2
      refine lv_iload_n hx hb dX2_keeps_12 rfl (lv_at hl 1 rfl) ?_
      refine lv_aload_n hx hb dX2_keeps_13 rfl (lv_at hl 0 rfl) ?_
      refine sy_get C hh (fun w h => mc (uX_fX2 w h)) 9 (by decide) (oX_9 Y) rfl 0 (by decide) (index := 9) (mc uX_92) (v := .int (M 9 0)) rfl dX2_keeps_14 ?_
      refine lv_bipush (v := (nI 50)) hx hb dX2_keeps_17 (by decide) ?_
      refine lv_isub hx hb dX2_keeps_19 ?_
      refine lv_icmp_lt (tgt := 27) hx hb dX2_keeps_20 (by decide) (fun c3 => ?_) (fun c3 => ?_)
      · have hq := hq.1 c3
        refine lv_iconst (v := (0 : Int32)) hx hb dX2_keeps_27 (by decide) ?_
        exact sy_zret C hh dX2_keeps_28 (by decide) hq
      · have hq := hq.2 c3
        refine lv_iconst (v := (1 : Int32)) hx hb dX2_keeps_23 (by decide) ?_
        refine lv_goto (tgt := 28) hx hb dX2_keeps_24 (by decide) ?_
        exact sy_zret C hh dX2_keeps_28 (by decide) hq

