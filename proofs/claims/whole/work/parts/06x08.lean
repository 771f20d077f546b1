/-! AreaSetter.restOf(II)I -/
def wX11_restOf (M : sy_M) (a1 : Int32) (a2 : Int32) (Q : Int32 → sy_M → Prop) : Prop := (((M 9 0) = 0 → Q (-1 : Int32) M) ∧ (¬ (M 9 0) = 0 → ∃ t2 : Nat, (M 0 6) = nI t2 ∧ iX10 t2 ∧ wX10_isGroup M t2 a1 (fun r4 M3 => ((r4 = 0 → Q (-1 : Int32) M3) ∧ (¬ r4 = 0 → ∃ n6 : Nat, n6 < 40 ∧ a1 = nI n6 ∧ ((¬ (M3 26 n6) = 0 → ((¬ a2 = (nI 6) → wX7_tell M3 20 a1 a2 (fun r10 M9 => Q r10 M9)) ∧ (a2 = (nI 6) → Q (M3 26 n6) M3))) ∧ ((M3 26 n6) = 0 → Q (-1 : Int32) M3)))))))
section
variable {p : Program} {l : Launch} {e : Env} {s : State} {m : MethodId} {args : Array Value} {below : List Frame} {meth : Method} {c : Code} {Y : sy_Y}
end
set_option maxHeartbeats 4000000 in
set_option maxRecDepth 100000 in
theorem mX11_restOf (l : Launch) (Y : sy_Y) (sz : Nat) (M : sy_M) (a1 : Int32) (a2 : Int32) (Q : Int32 → sy_M → Prop) (hq : wX11_restOf M a1 a2 Q) : Met l yX11_restOf vsX11_restOf ({ frames := 2, cells := 0, slots := 0, locals := 46 } : Room) (va_Pc [.ref (Y.2.1 0), .int a1, .int a2] (sy_pre Y NX EX tfX sz M)) (sy_QI Y NX EX sz Q) 0 0 (sy_A NX Y.2.1 sz) := by
  refine sy_metI (by decide) rfl (Nat.le_of_ble_eq_true rfl) ?_
  intro p e s m args below meth c C ls hl hh
  have hx := C.1.1
  have hb := C.1.2.1
  have hl : lv_has ls 3 [(0, .ref (Y.2.1 0)), (1, .int a1), (2, .int a2)] := hl
  unfold wX11_restOf at hq
  refine lv_aload_n hx hb dX11_restOf_0 rfl (lv_at hl 0 rfl) ?_
  refine sy_get C hh (fun w h => mc (uX_fX11 w h)) 0 (by decide) (oX_0 Y) rfl 3 (by decide) (index := 31) (mc uX_492) (v := .ref (Y.2.1 9)) rfl dX11_restOf_1 ?_
  refine sy_get C hh (fun w h => mc (uX_fX2 w h)) 9 (by decide) (oX_9 Y) rfl 0 (by decide) (index := 86) (mc uX_520) (v := .int (M 9 0)) rfl dX11_restOf_4 ?_
  refine lv_if_eq (tgt := 33) hx hb dX11_restOf_7 (by decide) (fun c1 => ?_) (fun c1 => ?_)
  · have hq := hq.1 c1
    refine lv_iconst (v := (-1 : Int32)) hx hb dX11_restOf_33 (by decide) ?_
    exact sy_iret C hh dX11_restOf_34 hq
  · have hq := hq.2 c1
    refine lv_aload_n hx hb dX11_restOf_10 rfl (lv_at hl 0 rfl) ?_
    obtain ⟨t2, et2, ht2, hq⟩ := hq
    refine sy_get C hh (fun w h => mc (uX_fX11 w h)) 0 (by decide) (oX_0 Y) rfl 6 (by decide) (index := 49) (mc uX_498) (v := .ref (Y.2.1 t2)) (sy_rf_of et2 (by have := iX10_lt ht2; omega)) dX11_restOf_11 ?_
    refine lv_iload_n hx hb dX11_restOf_14 rfl (lv_at hl 1 rfl) ?_
    refine sy_cIV C hh (As := [.int a1]) (rest := []) t2 (iX10_N ht2) (oX10 ht2) rfl (mX10_isGroup l Y _ M t2 ht2 a1 _ hq) (cwV 1 C.1.2.2.2.2 (sy_goodV uX_good uX_540 uX_127 uX_128 uX_20 uX_122 _) rfl rfl rfl hdX10_isGroup ⟨Nat.le_of_ble_eq_true rfl, Nat.le_of_ble_eq_true rfl⟩) rfl hl.1 rfl (Nat.le_of_ble_eq_true rfl) dX11_restOf_15 (fun r4 M3 H locs hq hh => ?_)
    refine lv_if_eq (tgt := 33) hx hb dX11_restOf_18 (by decide) (fun c5 => ?_) (fun c5 => ?_)
    · have hq := hq.1 c5
      refine lv_iconst (v := (-1 : Int32)) hx hb dX11_restOf_33 (by decide) ?_
      exact sy_iret C hh dX11_restOf_34 hq
    · have hq := hq.2 c5
      refine lv_aload_n hx hb dX11_restOf_21 rfl (lv_at hl 0 rfl) ?_
      refine sy_get C hh (fun w h => mc (uX_fX11 w h)) 0 (by decide) (oX_0 Y) rfl 3 (by decide) (index := 31) (mc uX_492) (v := .ref (Y.2.1 9)) rfl dX11_restOf_22 ?_
      refine sy_get C hh (fun w h => mc (uX_fX2 w h)) 9 (by decide) (oX_9 Y) rfl 7 (by decide) (index := 160) (mc uX_563) (v := .ref (Y.2.1 26)) rfl dX11_restOf_25 ?_
      refine lv_iload_n hx hb dX11_restOf_28 rfl (lv_at hl 1 rfl) ?_
      obtain ⟨n6, hn6, en6, hq⟩ := hq
      refine sy_iald C hh 26 (by decide) (aX_26 Y) tX_26 hn6 en6 (by decide) dX11_restOf_29 ?_
      refine lv_if_ne (tgt := 35) hx hb dX11_restOf_30 (by decide) (fun c7 => ?_) (fun c7 => ?_)
      · have hq := hq.1 c7
        refine lv_iload_n hx hb dX11_restOf_35 rfl (lv_at hl 2 rfl) ?_
        refine lv_bipush (v := (nI 6)) hx hb dX11_restOf_36 (by decide) ?_
        refine lv_icmp_ne (tgt := 53) hx hb dX11_restOf_38 (by decide) (fun c8 => ?_) (fun c8 => ?_)
        · have hq := hq.1 c8
          refine lv_aload_n hx hb dX11_restOf_53 rfl (lv_at hl 0 rfl) ?_
          refine sy_get C hh (fun w h => mc (uX_fX11 w h)) 0 (by decide) (oX_0 Y) rfl 3 (by decide) (index := 31) (mc uX_492) (v := .ref (Y.2.1 9)) rfl dX11_restOf_54 ?_
          refine sy_get C hh (fun w h => mc (uX_fX2 w h)) 9 (by decide) (oX_9 Y) rfl 6 (by decide) (index := 163) (mc uX_564) (v := .ref (Y.2.1 20)) rfl dX11_restOf_57 ?_
          refine lv_iload_n hx hb dX11_restOf_60 rfl (lv_at hl 1 rfl) ?_
          refine lv_iload_n hx hb dX11_restOf_61 rfl (lv_at hl 2 rfl) ?_
          refine sy_cIV C hh (As := [.int a1, .int a2]) (rest := []) 20 (by decide) (oX_20 Y) rfl (mX7_tell l Y _ M3 20 iX7_20 a1 a2 _ hq) (cwV 2 C.1.2.2.2.2 (sy_goodV uX_good uX_559 uX_560 uX_561 uX_37 uX_477 _) rfl rfl rfl hdX7_tell ⟨Nat.le_of_ble_eq_true rfl, Nat.le_of_ble_eq_true rfl⟩) rfl hl.1 rfl (Nat.le_of_ble_eq_true rfl) dX11_restOf_62 (fun r10 M9 H locs hq hh => ?_)
          exact sy_iret C hh dX11_restOf_65 hq
        · have hq := hq.2 c8
          refine lv_aload_n hx hb dX11_restOf_41 rfl (lv_at hl 0 rfl) ?_
          refine sy_get C hh (fun w h => mc (uX_fX11 w h)) 0 (by decide) (oX_0 Y) rfl 3 (by decide) (index := 31) (mc uX_492) (v := .ref (Y.2.1 9)) rfl dX11_restOf_42 ?_
          refine sy_get C hh (fun w h => mc (uX_fX2 w h)) 9 (by decide) (oX_9 Y) rfl 7 (by decide) (index := 160) (mc uX_563) (v := .ref (Y.2.1 26)) rfl dX11_restOf_45 ?_
          refine lv_iload_n hx hb dX11_restOf_48 rfl (lv_at hl 1 rfl) ?_
          refine sy_iald C hh 26 (by decide) (aX_26 Y) tX_26 hn6 en6 (by decide) dX11_restOf_49 ?_
          refine lv_goto (tgt := 65) hx hb dX11_restOf_50 (by decide) ?_
          exact sy_iret C hh dX11_restOf_65 hq
      · have hq := hq.2 c7
        refine lv_iconst (v := (-1 : Int32)) hx hb dX11_restOf_33 (by decide) ?_
        exact sy_iret C hh dX11_restOf_34 hq

/-! AreaSetter$Drawings.hasRest(LAreaSetter$Tree;I)Z -/
def wX2_hasRest (M : sy_M) (p1 : Nat) (a2 : Int32) (Q : Int32 → sy_M → Prop) : Prop := wX10_isGroup M p1 a2 (fun r2 M1 => ((r2 = 0 → Q (0 : Int32) M1) ∧ (¬ r2 = 0 → ∃ n4 : Nat, n4 < 40 ∧ a2 = nI n4 ∧ (((M1 26 n4) ≤ 0 → Q (0 : Int32) M1) ∧ (¬ (M1 26 n4) ≤ 0 → Q (1 : Int32) M1)))))
section
variable {p : Program} {l : Launch} {e : Env} {s : State} {m : MethodId} {args : Array Value} {below : List Frame} {meth : Method} {c : Code} {Y : sy_Y}
end
set_option maxHeartbeats 4000000 in
set_option maxRecDepth 100000 in
theorem mX2_hasRest (l : Launch) (Y : sy_Y) (sz : Nat) (M : sy_M) (p1 : Nat) (hp1 : iX10 p1) (a2 : Int32) (Q : Int32 → sy_M → Prop) (hq : wX2_hasRest M p1 a2 Q) : Met l yX2_hasRest vsX2_hasRest ({ frames := 2, cells := 0, slots := 0, locals := 42 } : Room) (va_Pc [.ref (Y.2.1 9), .ref (Y.2.1 p1), .int a2] (sy_pre Y NX EX tfX sz M)) (sy_QI Y NX EX sz Q) 0 0 (sy_A NX Y.2.1 sz) := by
  refine sy_metI (by decide) rfl (Nat.le_of_ble_eq_true rfl) ?_
  intro p e s m args below meth c C ls hl hh
  have hx := C.1.1
  have hb := C.1.2.1
  have hl : lv_has ls 3 [(0, .ref (Y.2.1 9)), (1, .ref (Y.2.1 p1)), (2, .int a2)] := hl
  unfold wX2_hasRest at hq
  refine lv_aload_n hx hb dX2_hasRest_0 rfl (lv_at hl 1 rfl) ?_
  refine lv_iload_n hx hb dX2_hasRest_1 rfl (lv_at hl 2 rfl) ?_
  refine sy_cIV C hh (As := [.int a2]) (rest := []) p1 (iX10_N hp1) (oX10 hp1) rfl (mX10_isGroup l Y _ M p1 hp1 a2 _ hq) (cwV 1 C.1.2.2.2.2 (sy_goodV uX_good uX_126 uX_127 uX_128 uX_20 uX_122 _) rfl rfl rfl hdX10_isGroup ⟨Nat.le_of_ble_eq_true rfl, Nat.le_of_ble_eq_true rfl⟩) rfl hl.1 rfl (Nat.le_of_ble_eq_true rfl) dX2_hasRest_2 (fun r2 M1 H locs hq hh => ?_)
  refine lv_if_eq (tgt := 21) hx hb dX2_hasRest_5 (by decide) (fun c3 => ?_) (fun c3 => ?_)
  · have hq := hq.1 c3
    refine lv_iconst (v := (0 : Int32)) hx hb dX2_hasRest_21 (by decide) ?_
    exact sy_zret C hh dX2_hasRest_22 (by decide) hq
  · have hq := hq.2 c3
    refine lv_aload_n hx hb dX2_hasRest_8 rfl (lv_at hl 0 rfl) ?_
    refine sy_get C hh (fun w h => mc (uX_fX2 w h)) 9 (by decide) (oX_9 Y) rfl 7 (by decide) (index := 41) (mc uX_105) (v := .ref (Y.2.1 26)) rfl dX2_hasRest_9 ?_
    refine lv_iload_n hx hb dX2_hasRest_12 rfl (lv_at hl 2 rfl) ?_
    obtain ⟨n4, hn4, en4, hq⟩ := hq
    refine sy_iald C hh 26 (by decide) (aX_26 Y) tX_26 hn4 en4 (by decide) dX2_hasRest_13 ?_
    refine lv_if_le (tgt := 21) hx hb dX2_hasRest_14 (by decide) (fun c5 => ?_) (fun c5 => ?_)
    · have hq := hq.1 c5
      refine lv_iconst (v := (0 : Int32)) hx hb dX2_hasRest_21 (by decide) ?_
      exact sy_zret C hh dX2_hasRest_22 (by decide) hq
    · have hq := hq.2 c5
      refine lv_iconst (v := (1 : Int32)) hx hb dX2_hasRest_17 (by decide) ?_
      refine lv_goto (tgt := 22) hx hb dX2_hasRest_18 (by decide) ?_
      exact sy_zret C hh dX2_hasRest_22 (by decide) hq

/-! AreaSetter$Rectangles.holds(III)Z -/
def wX7_holds (M : sy_M) (p0 : Nat) (a1 : Int32) (a2 : Int32) (a3 : Int32) (Q : Int32 → sy_M → Prop) : Prop := ∃ n1 : Nat, n1 < (lX7 p0) ∧ a1 = nI n1 ∧ ((a2 < (M (p0 + 1) n1) → Q (0 : Int32) M) ∧ (¬ a2 < (M (p0 + 1) n1) → ((((M (p0 + 1) n1) + (M (p0 + 3) n1)) ≤ a2 → Q (0 : Int32) M) ∧ (¬ ((M (p0 + 1) n1) + (M (p0 + 3) n1)) ≤ a2 → ((a3 < (M (p0 + 2) n1) → Q (0 : Int32) M) ∧ (¬ a3 < (M (p0 + 2) n1) → ((((M (p0 + 2) n1) + (M (p0 + 4) n1)) ≤ a3 → Q (0 : Int32) M) ∧ (¬ ((M (p0 + 2) n1) + (M (p0 + 4) n1)) ≤ a3 → Q (1 : Int32) M))))))))
section
variable {p : Program} {l : Launch} {e : Env} {s : State} {m : MethodId} {args : Array Value} {below : List Frame} {meth : Method} {c : Code} {Y : sy_Y}
end
set_option maxHeartbeats 4000000 in
set_option maxRecDepth 100000 in
theorem mX7_holds (l : Launch) (Y : sy_Y) (sz : Nat) (M : sy_M) (p0 : Nat) (hp0 : iX7 p0) (a1 : Int32) (a2 : Int32) (a3 : Int32) (Q : Int32 → sy_M → Prop) (hq : wX7_holds M p0 a1 a2 a3 Q) : Met l yX7_holds vsX7_holds ({ frames := 0, cells := 0, slots := 0, locals := 0 } : Room) (va_Pc [.ref (Y.2.1 p0), .int a1, .int a2, .int a3] (sy_pre Y NX EX tfX sz M)) (sy_QI Y NX EX sz Q) 0 0 (sy_A NX Y.2.1 sz) := by
  refine sy_metI (by decide) rfl (Nat.le_of_ble_eq_true rfl) ?_
  intro p e s m args below meth c C ls hl hh
  have hx := C.1.1
  have hb := C.1.2.1
  have hl : lv_has ls 4 [(0, .ref (Y.2.1 p0)), (1, .int a1), (2, .int a2), (3, .int a3)] := hl
  unfold wX7_holds at hq
  refine lv_iload_n hx hb dX7_holds_0 rfl (lv_at hl 2 rfl) ?_
  refine lv_aload_n hx hb dX7_holds_1 rfl (lv_at hl 0 rfl) ?_
  refine sy_get C hh (fun w h => mc (uX_fX7 w h)) p0 (iX7_N hp0) (oX7 hp0) rfl 0 (by decide) (index := 15) (mc uX_27) (v := .ref (Y.2.1 (p0 + 1))) rfl dX7_holds_2 ?_
  refine lv_iload_n hx hb dX7_holds_5 rfl (lv_at hl 1 rfl) ?_
  obtain ⟨n1, hn1, en1, hq⟩ := hq
  refine sy_iald C hh (p0 + 1) (iX7_N1 hp0) (aX7_1 hp0) (tX7_1 hp0) hn1 en1 (lX7_lt _) dX7_holds_6 ?_
  refine lv_icmp_lt (tgt := 58) hx hb dX7_holds_7 (by decide) (fun c2 => ?_) (fun c2 => ?_)
  · have hq := hq.1 c2
    refine lv_iconst (v := (0 : Int32)) hx hb dX7_holds_58 (by decide) ?_
    exact sy_zret C hh dX7_holds_59 (by decide) hq
  · have hq := hq.2 c2
    refine lv_iload_n hx hb dX7_holds_10 rfl (lv_at hl 2 rfl) ?_
    refine lv_aload_n hx hb dX7_holds_11 rfl (lv_at hl 0 rfl) ?_
    refine sy_get C hh (fun w h => mc (uX_fX7 w h)) p0 (iX7_N hp0) (oX7 hp0) rfl 0 (by decide) (index := 15) (mc uX_27) (v := .ref (Y.2.1 (p0 + 1))) rfl dX7_holds_12 ?_
    refine lv_iload_n hx hb dX7_holds_15 rfl (lv_at hl 1 rfl) ?_
    refine sy_iald C hh (p0 + 1) (iX7_N1 hp0) (aX7_1 hp0) (tX7_1 hp0) hn1 en1 (lX7_lt _) dX7_holds_16 ?_
    refine lv_aload_n hx hb dX7_holds_17 rfl (lv_at hl 0 rfl) ?_
    refine sy_get C hh (fun w h => mc (uX_fX7 w h)) p0 (iX7_N hp0) (oX7 hp0) rfl 2 (by decide) (index := 24) (mc uX_29) (v := .ref (Y.2.1 (p0 + 3))) rfl dX7_holds_18 ?_
    refine lv_iload_n hx hb dX7_holds_21 rfl (lv_at hl 1 rfl) ?_
    refine sy_iald C hh (p0 + 3) (iX7_N3 hp0) (aX7_3 hp0) (tX7_3 hp0) hn1 en1 (lX7_lt _) dX7_holds_22 ?_
    refine lv_iadd hx hb dX7_holds_23 ?_
    refine lv_icmp_ge (tgt := 58) hx hb dX7_holds_24 (by decide) (fun c3 => ?_) (fun c3 => ?_)
    · have hq := hq.1 c3
      refine lv_iconst (v := (0 : Int32)) hx hb dX7_holds_58 (by decide) ?_
      exact sy_zret C hh dX7_holds_59 (by decide) hq
    · have hq := hq.2 c3
      refine lv_iload_n hx hb dX7_holds_27 rfl (lv_at hl 3 rfl) ?_
      refine lv_aload_n hx hb dX7_holds_28 rfl (lv_at hl 0 rfl) ?_
      refine sy_get C hh (fun w h => mc (uX_fX7 w h)) p0 (iX7_N hp0) (oX7 hp0) rfl 1 (by decide) (index := 21) (mc uX_28) (v := .ref (Y.2.1 (p0 + 2))) rfl dX7_holds_29 ?_
      refine lv_iload_n hx hb dX7_holds_32 rfl (lv_at hl 1 rfl) ?_
      refine sy_iald C hh (p0 + 2) (iX7_N2 hp0) (aX7_2 hp0) (tX7_2 hp0) hn1 en1 (lX7_lt _) dX7_holds_33 ?_
      refine lv_icmp_lt (tgt := 58) hx hb dX7_holds_34 (by decide) (fun c4 => ?_) (fun c4 => ?_)
      · have hq := hq.1 c4
        refine lv_iconst (v := (0 : Int32)) hx hb dX7_holds_58 (by decide) ?_
        exact sy_zret C hh dX7_holds_59 (by decide) hq
      · have hq := hq.2 c4
        refine lv_iload_n hx hb dX7_holds_37 rfl (lv_at hl 3 rfl) ?_
        refine lv_aload_n hx hb dX7_holds_38 rfl (lv_at hl 0 rfl) ?_
        refine sy_get C hh (fun w h => mc (uX_fX7 w h)) p0 (iX7_N hp0) (oX7 hp0) rfl 1 (by decide) (index := 21) (mc uX_28) (v := .ref (Y.2.1 (p0 + 2))) rfl dX7_holds_39 ?_
        refine lv_iload_n hx hb dX7_holds_42 rfl (lv_at hl 1 rfl) ?_
        refine sy_iald C hh (p0 + 2) (iX7_N2 hp0) (aX7_2 hp0) (tX7_2 hp0) hn1 en1 (lX7_lt _) dX7_holds_43 ?_
        refine lv_aload_n hx hb dX7_holds_44 rfl (lv_at hl 0 rfl) ?_
        refine sy_get C hh (fun w h => mc (uX_fX7 w h)) p0 (iX7_N hp0) (oX7 hp0) rfl 3 (by decide) (index := 27) (mc uX_30) (v := .ref (Y.2.1 (p0 + 4))) rfl dX7_holds_45 ?_
        refine lv_iload_n hx hb dX7_holds_48 rfl (lv_at hl 1 rfl) ?_
        refine sy_iald C hh (p0 + 4) (iX7_N4 hp0) (aX7_4 hp0) (tX7_4 hp0) hn1 en1 (lX7_lt _) dX7_holds_49 ?_
        refine lv_iadd hx hb dX7_holds_50 ?_
        refine lv_icmp_ge (tgt := 58) hx hb dX7_holds_51 (by decide) (fun c5 => ?_) (fun c5 => ?_)
        · have hq := hq.1 c5
          refine lv_iconst (v := (0 : Int32)) hx hb dX7_holds_58 (by decide) ?_
          exact sy_zret C hh dX7_holds_59 (by decide) hq
        · have hq := hq.2 c5
          refine lv_iconst (v := (1 : Int32)) hx hb dX7_holds_54 (by decide) ?_
          refine lv_goto (tgt := 59) hx hb dX7_holds_55 (by decide) ?_
          exact sy_zret C hh dX7_holds_59 (by decide) hq

/-! AreaSetter.under(II)I -/
def wX11_under_17 (K_79 : sy_M → Int32 → Int32 → Int32 → Prop) (Q : Int32 → sy_M → Prop) : Nat → sy_M → Int32 → Int32 → Int32 → Int32 → Prop
  | 0, _, _, _, _, _ => False
  | n + 1, M, x1, x2, x3, x4 => ∃ t2 : Nat, (M 0 6) = nI t2 ∧ iX10 t2 ∧ (((M t2 0) ≤ x4 → K_79 M x1 x2 x3) ∧ (¬ (M t2 0) ≤ x4 → wX2_latestCell M x4 (fun r5 M4 => ∃ n6 : Nat, n6 < 2000 ∧ r5 = nI n6 ∧ (((M4 17 n6) = 0 → wX11_under_17 K_79 Q n M4 x1 x2 x3 (x4 + (1 : Int32))) ∧ (¬ (M4 17 n6) = 0 → wX7_holds M4 11 r5 x1 x2 (fun r9 M8 => ((r9 = 0 → wX11_under_17 K_79 Q n M8 x1 x2 x3 (x4 + (1 : Int32))) ∧ (¬ r9 = 0 → wX11_under_17 K_79 Q n M8 x1 x2 x4 (x4 + (1 : Int32))))))))))
def wX11_under (M : sy_M) (a1 : Int32) (a2 : Int32) (Q : Int32 → sy_M → Prop) : Prop := ((¬ (M 9 0) = 0 → ∃ n23 : Nat, wX11_under_17 (fun (M11 : sy_M) (x1_12 : Int32) (x2_13 : Int32) (x3_14 : Int32) => ((x3_14 = (-1 : Int32) → Q x3_14 M11) ∧ (¬ x3_14 = (-1 : Int32) → ∃ t16 : Nat, (M11 0 6) = nI t16 ∧ iX10 t16 ∧ wX2_hasRest M11 t16 x3_14 (fun r18 M17 => ((r18 = 0 → Q x3_14 M17) ∧ (¬ r18 = 0 → wX7_holds M17 20 x3_14 x1_12 x2_13 (fun r21 M20 => ((r21 = 0 → Q x3_14 M20) ∧ (¬ r21 = 0 → Q ((nI 100) + x3_14) M20))))))))) Q n23 M a1 a2 (-1 : Int32) (0 : Int32)) ∧ ((M 9 0) = 0 → Q (-1 : Int32) M))
section
variable {p : Program} {l : Launch} {e : Env} {s : State} {m : MethodId} {args : Array Value} {below : List Frame} {meth : Method} {c : Code} {Y : sy_Y}
set_option maxHeartbeats 4000000 in
set_option maxRecDepth 100000 in
theorem kX11_under_17 (C : sy_C p m c cX11_under 6 s args vsX11_under RX11 meth (some .int) Y NX tfX) {Q : Int32 → sy_M → Prop} {K_79 : sy_M → Int32 → Int32 → Int32 → Prop} (hK_79 : ∀ (M : sy_M) (x1 : Int32) (x2 : Int32) (x3 : Int32) (H : Heap) (locs : List Loc) (ls : Array Slot), K_79 M x1 x2 x3 → sy_H Y NX EX s H locs M → lv_has ls 6 [(0, .ref (Y.2.1 0)), (1, .int x1), (2, .int x2), (3, .int x3)] → W p l e ({ frames := 3, cells := 0, slots := 0, locals := 64 } : Room) s m args below meth c H locs 0 0 (sy_ZI below args s Y NX EX Q) (F0 m 79 ls [])) :
    ∀ (n : Nat) (M : sy_M) (x1 : Int32) (x2 : Int32) (x3 : Int32) (x4 : Int32) (H : Heap) (locs : List Loc) (ls : Array Slot), wX11_under_17 K_79 Q n M x1 x2 x3 x4 → sy_H Y NX EX s H locs M → lv_has ls 6 [(0, .ref (Y.2.1 0)), (1, .int x1), (2, .int x2), (3, .int x3), (4, .int x4)] → W p l e ({ frames := 3, cells := 0, slots := 0, locals := 64 } : Room) s m args below meth c H locs 0 0 (sy_ZI below args s Y NX EX Q) (F0 m 17 ls []) := by
  have hx := C.1.1
  have hb := C.1.2.1
  intro n
  induction n with
  | zero =>
    intro M x1 x2 x3 x4 H locs ls hq hh hl
    unfold wX11_under_17 at hq
    exact hq.elim
  | succ n ih =>
    intro M x1 x2 x3 x4 H locs ls hq hh hl
    unfold wX11_under_17 at hq
    refine lv_iload hx hb dX11_under_17 (lv_at hl 4 rfl) ?_
    refine lv_aload_n hx hb dX11_under_19 rfl (lv_at hl 0 rfl) ?_
    obtain ⟨t2, et2, ht2, hq⟩ := hq
    refine sy_get C hh (fun w h => mc (uX_fX11 w h)) 0 (by decide) (oX_0 Y) rfl 6 (by decide) (index := 49) (mc uX_498) (v := .ref (Y.2.1 t2)) (sy_rf_of et2 (by have := iX10_lt ht2; omega)) dX11_under_20 ?_
    refine sy_get C hh (fun w h => mc (uX_fX10 w h)) t2 (iX10_N ht2) (oX10 ht2) rfl 0 (by decide) (index := 89) (mc uX_521) (v := .int (M t2 0)) rfl dX11_under_23 ?_
    refine lv_icmp_ge (tgt := 79) hx hb dX11_under_26 (by decide) (fun c3 => ?_) (fun c3 => ?_)
    · have hq := hq.1 c3
      exact hK_79 M x1 x2 x3 _ _ _ hq hh (lv_sub hl [0, 1, 2, 3] rfl)
    · have hq := hq.2 c3
      refine lv_aload_n hx hb dX11_under_29 rfl (lv_at hl 0 rfl) ?_
      refine sy_get C hh (fun w h => mc (uX_fX11 w h)) 0 (by decide) (oX_0 Y) rfl 3 (by decide) (index := 31) (mc uX_492) (v := .ref (Y.2.1 9)) rfl dX11_under_30 ?_
      refine lv_iload hx hb dX11_under_33 (lv_at hl 4 rfl) ?_
      refine sy_cIV C hh (As := [.int x4]) (rest := []) 9 (by decide) (oX_9 Y) rfl (mX2_latestCell l Y _ M x4 _ hq) (cwV 1 C.1.2.2.2.2 (sy_goodV uX_good uX_558 uX_118 uX_119 uX_114 uX_110 _) rfl rfl rfl hdX2_latestCell ⟨Nat.le_of_ble_eq_true rfl, Nat.le_of_ble_eq_true rfl⟩) rfl hl.1 rfl (Nat.le_of_ble_eq_true rfl) dX11_under_35 (fun r5 M4 H locs hq hh => ?_)
      refine lv_istore (lv' := [(5, .int r5), (0, .ref (Y.2.1 0)), (1, .int x1), (2, .int x2), (3, .int x3), (4, .int x4)]) hx hb dX11_under_38 hl (by decide) rfl (fun ls hl => ?_)
      refine lv_aload_n hx hb dX11_under_40 rfl (lv_at hl 1 rfl) ?_
      refine sy_get C hh (fun w h => mc (uX_fX11 w h)) 0 (by decide) (oX_0 Y) rfl 3 (by decide) (index := 31) (mc uX_492) (v := .ref (Y.2.1 9)) rfl dX11_under_41 ?_
      refine sy_get C hh (fun w h => mc (uX_fX2 w h)) 9 (by decide) (oX_9 Y) rfl 3 (by decide) (index := 147) (mc uX_554) (v := .ref (Y.2.1 17)) rfl dX11_under_44 ?_
      refine lv_iload hx hb dX11_under_47 (lv_at hl 0 rfl) ?_
      obtain ⟨n6, hn6, en6, hq⟩ := hq
      refine sy_zald C hh 17 (by decide) (aX_17 Y) tX_17 hn6 en6 (by decide) dX11_under_49 ?_
      refine lv_if_eq (tgt := 73) hx hb dX11_under_50 (by decide) (fun c7 => ?_) (fun c7 => ?_)
      · have hq := hq.1 c7
        refine lv_iinc (v := (x4 + (1 : Int32))) (lv' := [(4, .int (x4 + (1 : Int32))), (5, .int r5), (0, .ref (Y.2.1 0)), (1, .int x1), (2, .int x2), (3, .int x3)]) hx hb dX11_under_73 hl (k := 5) rfl (sy_inc (by decide)) (by decide) rfl (fun ls hl => ?_)
        refine lv_goto (tgt := 17) hx hb dX11_under_76 (by decide) ?_
        exact ih M4 x1 x2 x3 (x4 + (1 : Int32)) _ _ _ hq hh (lv_sub hl [2, 3, 4, 5, 0] rfl)
      · have hq := hq.2 c7
        refine lv_aload_n hx hb dX11_under_53 rfl (lv_at hl 1 rfl) ?_
        refine sy_get C hh (fun w h => mc (uX_fX11 w h)) 0 (by decide) (oX_0 Y) rfl 3 (by decide) (index := 31) (mc uX_492) (v := .ref (Y.2.1 9)) rfl dX11_under_54 ?_
        refine sy_get C hh (fun w h => mc (uX_fX2 w h)) 9 (by decide) (oX_9 Y) rfl 2 (by decide) (index := 141) (mc uX_552) (v := .ref (Y.2.1 11)) rfl dX11_under_57 ?_
        refine lv_iload hx hb dX11_under_60 (lv_at hl 0 rfl) ?_
        refine lv_iload_n hx hb dX11_under_62 rfl (lv_at hl 2 rfl) ?_
        refine lv_iload_n hx hb dX11_under_63 rfl (lv_at hl 3 rfl) ?_
        refine sy_cIV C hh (As := [.int r5, .int x1, .int x2]) (rest := []) 11 (by decide) (oX_11 Y) rfl (mX7_holds l Y _ M4 11 iX7_11 r5 x1 x2 _ hq) (cwV 3 C.1.2.2.2.2 (sy_goodV uX_good uX_566 uX_567 uX_568 uX_37 uX_478 _) rfl rfl rfl hdX7_holds ⟨Nat.le_of_ble_eq_true rfl, Nat.le_of_ble_eq_true rfl⟩) rfl hl.1 rfl (Nat.le_of_ble_eq_true rfl) dX11_under_64 (fun r9 M8 H locs hq hh => ?_)
        refine lv_if_eq (tgt := 73) hx hb dX11_under_67 (by decide) (fun c10 => ?_) (fun c10 => ?_)
        · have hq := hq.1 c10
          refine lv_iinc (v := (x4 + (1 : Int32))) (lv' := [(4, .int (x4 + (1 : Int32))), (5, .int r5), (0, .ref (Y.2.1 0)), (1, .int x1), (2, .int x2), (3, .int x3)]) hx hb dX11_under_73 hl (k := 5) rfl (sy_inc (by decide)) (by decide) rfl (fun ls hl => ?_)
          refine lv_goto (tgt := 17) hx hb dX11_under_76 (by decide) ?_
          exact ih M8 x1 x2 x3 (x4 + (1 : Int32)) _ _ _ hq hh (lv_sub hl [2, 3, 4, 5, 0] rfl)
        · have hq := hq.2 c10
          refine lv_iload hx hb dX11_under_70 (lv_at hl 5 rfl) ?_
          refine lv_istore_n (lv' := [(3, .int x4), (5, .int r5), (0, .ref (Y.2.1 0)), (1, .int x1), (2, .int x2), (4, .int x4)]) hx hb dX11_under_72 rfl hl (by decide) rfl (fun ls hl => ?_)
          refine lv_iinc (v := (x4 + (1 : Int32))) (lv' := [(4, .int (x4 + (1 : Int32))), (3, .int x4), (5, .int r5), (0, .ref (Y.2.1 0)), (1, .int x1), (2, .int x2)]) hx hb dX11_under_73 hl (k := 5) rfl (sy_inc (by decide)) (by decide) rfl (fun ls hl => ?_)
          refine lv_goto (tgt := 17) hx hb dX11_under_76 (by decide) ?_
          exact ih M8 x1 x2 x4 (x4 + (1 : Int32)) _ _ _ hq hh (lv_sub hl [3, 4, 5, 1, 0] rfl)

end
set_option maxHeartbeats 4000000 in
set_option maxRecDepth 100000 in
theorem mX11_under (l : Launch) (Y : sy_Y) (sz : Nat) (M : sy_M) (a1 : Int32) (a2 : Int32) (Q : Int32 → sy_M → Prop) (hq : wX11_under M a1 a2 Q) : Met l yX11_under vsX11_under ({ frames := 3, cells := 0, slots := 0, locals := 64 } : Room) (va_Pc [.ref (Y.2.1 0), .int a1, .int a2] (sy_pre Y NX EX tfX sz M)) (sy_QI Y NX EX sz Q) 0 0 (sy_A NX Y.2.1 sz) := by
  refine sy_metI (by decide) rfl (Nat.le_of_ble_eq_true rfl) ?_
  intro p e s m args below meth c C ls hl hh
  have hx := C.1.1
  have hb := C.1.2.1
  have hl : lv_has ls 6 [(0, .ref (Y.2.1 0)), (1, .int a1), (2, .int a2)] := hl
  unfold wX11_under at hq
  refine lv_aload_n hx hb dX11_under_0 rfl (lv_at hl 0 rfl) ?_
  refine sy_get C hh (fun w h => mc (uX_fX11 w h)) 0 (by decide) (oX_0 Y) rfl 3 (by decide) (index := 31) (mc uX_492) (v := .ref (Y.2.1 9)) rfl dX11_under_1 ?_
  refine sy_get C hh (fun w h => mc (uX_fX2 w h)) 9 (by decide) (oX_9 Y) rfl 0 (by decide) (index := 86) (mc uX_520) (v := .int (M 9 0)) rfl dX11_under_4 ?_
  refine lv_if_ne (tgt := 12) hx hb dX11_under_7 (by decide) (fun c1 => ?_) (fun c1 => ?_)
  · have hq := hq.1 c1
    refine lv_iconst (v := (-1 : Int32)) hx hb dX11_under_12 (by decide) ?_
    refine lv_istore_n (lv' := [(3, .int (-1 : Int32)), (0, .ref (Y.2.1 0)), (1, .int a1), (2, .int a2)]) hx hb dX11_under_13 rfl hl (by decide) rfl (fun ls hl => ?_)
    refine lv_iconst (v := (0 : Int32)) hx hb dX11_under_14 (by decide) ?_
    refine lv_istore (lv' := [(4, .int (0 : Int32)), (3, .int (-1 : Int32)), (0, .ref (Y.2.1 0)), (1, .int a1), (2, .int a2)]) hx hb dX11_under_15 hl (by decide) rfl (fun ls hl => ?_)
    obtain ⟨n23, hq⟩ := hq
    refine kX11_under_17 C (fun M11 x1_12 x2_13 x3_14 H locs ls hq hh hl => ?_) n23 M a1 a2 (-1 : Int32) (0 : Int32) _ _ _ hq hh (lv_sub hl [2, 3, 4, 1, 0] rfl)
    · refine lv_iload_n hx hb dX11_under_79 rfl (lv_at hl 3 rfl) ?_
      refine lv_iconst (v := (-1 : Int32)) hx hb dX11_under_80 (by decide) ?_
      refine lv_icmp_eq (tgt := 120) hx hb dX11_under_81 (by decide) (fun c15 => ?_) (fun c15 => ?_)
      · have hq := hq.1 c15
        refine lv_iload_n hx hb dX11_under_120 rfl (lv_at hl 3 rfl) ?_
        exact sy_iret C hh dX11_under_121 hq
      · have hq := hq.2 c15
        refine lv_aload_n hx hb dX11_under_84 rfl (lv_at hl 0 rfl) ?_
        refine sy_get C hh (fun w h => mc (uX_fX11 w h)) 0 (by decide) (oX_0 Y) rfl 3 (by decide) (index := 31) (mc uX_492) (v := .ref (Y.2.1 9)) rfl dX11_under_85 ?_
        refine lv_aload_n hx hb dX11_under_88 rfl (lv_at hl 0 rfl) ?_
        obtain ⟨t16, et16, ht16, hq⟩ := hq
        refine sy_get C hh (fun w h => mc (uX_fX11 w h)) 0 (by decide) (oX_0 Y) rfl 6 (by decide) (index := 49) (mc uX_498) (v := .ref (Y.2.1 t16)) (sy_rf_of et16 (by have := iX10_lt ht16; omega)) dX11_under_89 ?_
        refine lv_iload_n hx hb dX11_under_92 rfl (lv_at hl 3 rfl) ?_
        refine sy_cIV C hh (As := [.ref (Y.2.1 t16), .int x3_14]) (rest := []) 9 (by decide) (oX_9 Y) rfl (mX2_hasRest l Y _ M11 t16 ht16 x3_14 _ hq) (cwV 2 C.1.2.2.2.2 (sy_goodV uX_good uX_569 uX_570 uX_571 uX_114 uX_125 _) rfl rfl rfl hdX2_hasRest ⟨Nat.le_of_ble_eq_true rfl, Nat.le_of_ble_eq_true rfl⟩) rfl hl.1 rfl (Nat.le_of_ble_eq_true rfl) dX11_under_93 (fun r18 M17 H locs hq hh => ?_)
        refine lv_if_eq (tgt := 120) hx hb dX11_under_96 (by decide) (fun c19 => ?_) (fun c19 => ?_)
        · have hq := hq.1 c19
          refine lv_iload_n hx hb dX11_under_120 rfl (lv_at hl 3 rfl) ?_
          exact sy_iret C hh dX11_under_121 hq
        · have hq := hq.2 c19
          refine lv_aload_n hx hb dX11_under_99 rfl (lv_at hl 0 rfl) ?_
          refine sy_get C hh (fun w h => mc (uX_fX11 w h)) 0 (by decide) (oX_0 Y) rfl 3 (by decide) (index := 31) (mc uX_492) (v := .ref (Y.2.1 9)) rfl dX11_under_100 ?_
          refine sy_get C hh (fun w h => mc (uX_fX2 w h)) 9 (by decide) (oX_9 Y) rfl 6 (by decide) (index := 163) (mc uX_564) (v := .ref (Y.2.1 20)) rfl dX11_under_103 ?_
          refine lv_iload_n hx hb dX11_under_106 rfl (lv_at hl 3 rfl) ?_
          refine lv_iload_n hx hb dX11_under_107 rfl (lv_at hl 1 rfl) ?_
          refine lv_iload_n hx hb dX11_under_108 rfl (lv_at hl 2 rfl) ?_
          refine sy_cIV C hh (As := [.int x3_14, .int x1_12, .int x2_13]) (rest := []) 20 (by decide) (oX_20 Y) rfl (mX7_holds l Y _ M17 20 iX7_20 x3_14 x1_12 x2_13 _ hq) (cwV 3 C.1.2.2.2.2 (sy_goodV uX_good uX_566 uX_567 uX_568 uX_37 uX_478 _) rfl rfl rfl hdX7_holds ⟨Nat.le_of_ble_eq_true rfl, Nat.le_of_ble_eq_true rfl⟩) rfl hl.1 rfl (Nat.le_of_ble_eq_true rfl) dX11_under_109 (fun r21 M20 H locs hq hh => ?_)
          refine lv_if_eq (tgt := 120) hx hb dX11_under_112 (by decide) (fun c22 => ?_) (fun c22 => ?_)
          · have hq := hq.1 c22
            refine lv_iload_n hx hb dX11_under_120 rfl (lv_at hl 3 rfl) ?_
            exact sy_iret C hh dX11_under_121 hq
          · have hq := hq.2 c22
            refine lv_bipush (v := (nI 100)) hx hb dX11_under_115 (by decide) ?_
            refine lv_iload_n hx hb dX11_under_117 rfl (lv_at hl 3 rfl) ?_
            refine lv_iadd hx hb dX11_under_118 ?_
            exact sy_iret C hh dX11_under_119 hq
  · have hq := hq.2 c1
    refine lv_iconst (v := (-1 : Int32)) hx hb dX11_under_10 (by decide) ?_
    exact sy_iret C hh dX11_under_11 hq

/-! AreaSetter.letters(I)I -/
def wX11_letters (M : sy_M) (a1 : Int32) (Q : Int32 → sy_M → Prop) : Prop := (((M 9 0) = 0 → Q (-1 : Int32) M) ∧ (¬ (M 9 0) = 0 → ∃ t2 : Nat, (M 0 6) = nI t2 ∧ iX10 t2 ∧ wX10_has M t2 a1 (fun r4 M3 => ((¬ r4 = 0 → wX2_latestCell M3 a1 (fun r7 M6 => ∃ n8 : Nat, n8 < 2000 ∧ r7 = nI n8 ∧ (((M6 17 n8) = 0 → Q (0 : Int32) M6) ∧ (¬ (M6 17 n8) = 0 → (((M6 15 n8) < (nI 10) → Q (0 : Int32) M6) ∧ (¬ (M6 15 n8) < (nI 10) → ((0 ≤ ((M6 14 n8) - (nI 2)) → ∃ t12 : Nat, (M6 0 6) = nI t12 ∧ iX10 t12 ∧ ∃ n13 : Nat, n13 < 40 ∧ a1 = nI n13 ∧ Q (imin (M6 (t12 + 6) n13) (((M6 14 n8) - (nI 2)) / (nI 6))) M6) ∧ (¬ 0 ≤ ((M6 14 n8) - (nI 2)) → Q (0 : Int32) M6)))))))) ∧ (r4 = 0 → Q (-1 : Int32) M3)))))
section
variable {p : Program} {l : Launch} {e : Env} {s : State} {m : MethodId} {args : Array Value} {below : List Frame} {meth : Method} {c : Code} {Y : sy_Y}
end
set_option maxHeartbeats 4000000 in
set_option maxRecDepth 100000 in
theorem mX11_letters (l : Launch) (Y : sy_Y) (sz : Nat) (M : sy_M) (a1 : Int32) (Q : Int32 → sy_M → Prop) (hq : wX11_letters M a1 Q) : Met l yX11_letters vsX11_letters ({ frames := 2, cells := 0, slots := 0, locals := 43 } : Room) (va_Pc [.ref (Y.2.1 0), .int a1] (sy_pre Y NX EX tfX sz M)) (sy_QI Y NX EX sz Q) 0 0 (sy_A NX Y.2.1 sz) := by
  refine sy_metI (by decide) rfl (Nat.le_of_ble_eq_true rfl) ?_
  intro p e s m args below meth c C ls hl hh
  have hx := C.1.1
  have hb := C.1.2.1
  have hl : lv_has ls 4 [(0, .ref (Y.2.1 0)), (1, .int a1)] := hl
  unfold wX11_letters at hq
  refine lv_aload_n hx hb dX11_letters_0 rfl (lv_at hl 0 rfl) ?_
  refine sy_get C hh (fun w h => mc (uX_fX11 w h)) 0 (by decide) (oX_0 Y) rfl 3 (by decide) (index := 31) (mc uX_492) (v := .ref (Y.2.1 9)) rfl dX11_letters_1 ?_
  refine sy_get C hh (fun w h => mc (uX_fX2 w h)) 9 (by decide) (oX_9 Y) rfl 0 (by decide) (index := 86) (mc uX_520) (v := .int (M 9 0)) rfl dX11_letters_4 ?_
  refine lv_if_eq (tgt := 21) hx hb dX11_letters_7 (by decide) (fun c1 => ?_) (fun c1 => ?_)
  · have hq := hq.1 c1
    refine lv_iconst (v := (-1 : Int32)) hx hb dX11_letters_21 (by decide) ?_
    exact sy_iret C hh dX11_letters_22 hq
  · have hq := hq.2 c1
    refine lv_aload_n hx hb dX11_letters_10 rfl (lv_at hl 0 rfl) ?_
    obtain ⟨t2, et2, ht2, hq⟩ := hq
    refine sy_get C hh (fun w h => mc (uX_fX11 w h)) 0 (by decide) (oX_0 Y) rfl 6 (by decide) (index := 49) (mc uX_498) (v := .ref (Y.2.1 t2)) (sy_rf_of et2 (by have := iX10_lt ht2; omega)) dX11_letters_11 ?_
    refine lv_iload_n hx hb dX11_letters_14 rfl (lv_at hl 1 rfl) ?_
    refine sy_cIV C hh (As := [.int a1]) (rest := []) t2 (iX10_N ht2) (oX10 ht2) rfl (mX10_has l Y _ M t2 ht2 a1 _ hq) (cwV 1 C.1.2.2.2.2 (sy_goodV uX_good uX_557 uX_18 uX_19 uX_20 uX_11 _) rfl rfl rfl hdX10_has ⟨Nat.le_of_ble_eq_true rfl, Nat.le_of_ble_eq_true rfl⟩) rfl hl.1 rfl (Nat.le_of_ble_eq_true rfl) dX11_letters_15 (fun r4 M3 H locs hq hh => ?_)
    refine lv_if_ne (tgt := 23) hx hb dX11_letters_18 (by decide) (fun c5 => ?_) (fun c5 => ?_)
    · have hq := hq.1 c5
      refine lv_aload_n hx hb dX11_letters_23 rfl (lv_at hl 0 rfl) ?_
      refine sy_get C hh (fun w h => mc (uX_fX11 w h)) 0 (by decide) (oX_0 Y) rfl 3 (by decide) (index := 31) (mc uX_492) (v := .ref (Y.2.1 9)) rfl dX11_letters_24 ?_
      refine lv_iload_n hx hb dX11_letters_27 rfl (lv_at hl 1 rfl) ?_
      refine sy_cIV C hh (As := [.int a1]) (rest := []) 9 (by decide) (oX_9 Y) rfl (mX2_latestCell l Y _ M3 a1 _ hq) (cwV 1 C.1.2.2.2.2 (sy_goodV uX_good uX_558 uX_118 uX_119 uX_114 uX_110 _) rfl rfl rfl hdX2_latestCell ⟨Nat.le_of_ble_eq_true rfl, Nat.le_of_ble_eq_true rfl⟩) rfl hl.1 rfl (Nat.le_of_ble_eq_true rfl) dX11_letters_28 (fun r7 M6 H locs hq hh => ?_)
      refine lv_istore_n (lv' := [(2, .int r7), (0, .ref (Y.2.1 0)), (1, .int a1)]) hx hb dX11_letters_31 rfl hl (by decide) rfl (fun ls hl => ?_)
      refine lv_aload_n hx hb dX11_letters_32 rfl (lv_at hl 1 rfl) ?_
      refine sy_get C hh (fun w h => mc (uX_fX11 w h)) 0 (by decide) (oX_0 Y) rfl 3 (by decide) (index := 31) (mc uX_492) (v := .ref (Y.2.1 9)) rfl dX11_letters_33 ?_
      refine sy_get C hh (fun w h => mc (uX_fX2 w h)) 9 (by decide) (oX_9 Y) rfl 2 (by decide) (index := 141) (mc uX_552) (v := .ref (Y.2.1 11)) rfl dX11_letters_36 ?_
      refine sy_get C hh (fun w h => mc (uX_fX7 w h)) 11 (by decide) (oX_11 Y) rfl 2 (by decide) (index := 173) (mc uX_573) (v := .ref (Y.2.1 14)) rfl dX11_letters_39 ?_
      refine lv_iload_n hx hb dX11_letters_42 rfl (lv_at hl 0 rfl) ?_
      obtain ⟨n8, hn8, en8, hq⟩ := hq
      refine sy_iald C hh 14 (by decide) (aX_14 Y) tX_14 hn8 en8 (by decide) dX11_letters_43 ?_
      refine lv_iconst (v := (nI 2)) hx hb dX11_letters_44 (by decide) ?_
      refine lv_isub hx hb dX11_letters_45 ?_
      refine lv_istore_n (lv' := [(3, .int ((M6 14 n8) - (nI 2))), (2, .int r7), (0, .ref (Y.2.1 0)), (1, .int a1)]) hx hb dX11_letters_46 rfl hl (by decide) rfl (fun ls hl => ?_)
      refine lv_aload_n hx hb dX11_letters_47 rfl (lv_at hl 2 rfl) ?_
      refine sy_get C hh (fun w h => mc (uX_fX11 w h)) 0 (by decide) (oX_0 Y) rfl 3 (by decide) (index := 31) (mc uX_492) (v := .ref (Y.2.1 9)) rfl dX11_letters_48 ?_
      refine sy_get C hh (fun w h => mc (uX_fX2 w h)) 9 (by decide) (oX_9 Y) rfl 3 (by decide) (index := 147) (mc uX_554) (v := .ref (Y.2.1 17)) rfl dX11_letters_51 ?_
      refine lv_iload_n hx hb dX11_letters_54 rfl (lv_at hl 1 rfl) ?_
      refine sy_zald C hh 17 (by decide) (aX_17 Y) tX_17 hn8 en8 (by decide) dX11_letters_55 ?_
      refine lv_if_eq (tgt := 80) hx hb dX11_letters_56 (by decide) (fun c9 => ?_) (fun c9 => ?_)
      · have hq := hq.1 c9
        refine lv_iconst (v := (0 : Int32)) hx hb dX11_letters_80 (by decide) ?_
        exact sy_iret C hh dX11_letters_81 hq
      · have hq := hq.2 c9
        refine lv_aload_n hx hb dX11_letters_59 rfl (lv_at hl 2 rfl) ?_
        refine sy_get C hh (fun w h => mc (uX_fX11 w h)) 0 (by decide) (oX_0 Y) rfl 3 (by decide) (index := 31) (mc uX_492) (v := .ref (Y.2.1 9)) rfl dX11_letters_60 ?_
        refine sy_get C hh (fun w h => mc (uX_fX2 w h)) 9 (by decide) (oX_9 Y) rfl 2 (by decide) (index := 141) (mc uX_552) (v := .ref (Y.2.1 11)) rfl dX11_letters_63 ?_
        refine sy_get C hh (fun w h => mc (uX_fX7 w h)) 11 (by decide) (oX_11 Y) rfl 3 (by decide) (index := 176) (mc uX_574) (v := .ref (Y.2.1 15)) rfl dX11_letters_66 ?_
        refine lv_iload_n hx hb dX11_letters_69 rfl (lv_at hl 1 rfl) ?_
        refine sy_iald C hh 15 (by decide) (aX_15 Y) tX_15 hn8 en8 (by decide) dX11_letters_70 ?_
        refine lv_bipush (v := (nI 10)) hx hb dX11_letters_71 (by decide) ?_
        refine lv_icmp_lt (tgt := 80) hx hb dX11_letters_73 (by decide) (fun c10 => ?_) (fun c10 => ?_)
        · have hq := hq.1 c10
          refine lv_iconst (v := (0 : Int32)) hx hb dX11_letters_80 (by decide) ?_
          exact sy_iret C hh dX11_letters_81 hq
        · have hq := hq.2 c10
          refine lv_iload_n hx hb dX11_letters_76 rfl (lv_at hl 0 rfl) ?_
          refine lv_if_ge (tgt := 82) hx hb dX11_letters_77 (by decide) (fun c11 => ?_) (fun c11 => ?_)
          · have hq := hq.1 c11
            refine lv_aload_n hx hb dX11_letters_82 rfl (lv_at hl 2 rfl) ?_
            obtain ⟨t12, et12, ht12, hq⟩ := hq
            refine sy_get C hh (fun w h => mc (uX_fX11 w h)) 0 (by decide) (oX_0 Y) rfl 6 (by decide) (index := 49) (mc uX_498) (v := .ref (Y.2.1 t12)) (sy_rf_of et12 (by have := iX10_lt ht12; omega)) dX11_letters_83 ?_
            refine sy_get C hh (fun w h => mc (uX_fX10 w h)) t12 (iX10_N ht12) (oX10 ht12) rfl 7 (by decide) (index := 179) (mc uX_575) (v := .ref (Y.2.1 (t12 + 6))) rfl dX11_letters_86 ?_
            refine lv_iload_n hx hb dX11_letters_89 rfl (lv_at hl 3 rfl) ?_
            obtain ⟨n13, hn13, en13, hq⟩ := hq
            refine sy_iald C hh (t12 + 6) (iX10_N6 ht12) (aX10_6 ht12) (tX10_6 ht12) hn13 en13 (by decide) dX11_letters_90 ?_
            refine lv_iload_n hx hb dX11_letters_91 rfl (lv_at hl 0 rfl) ?_
            refine lv_bipush (v := (nI 6)) hx hb dX11_letters_92 (by decide) ?_
            refine lv_idiv hx hb dX11_letters_94 (by decide) ?_
            refine sy_mmin C hl (index := 182) (mc uX_576) (mc uX_65) (mc uX_25) (mc uX_66) (by decide) (Nat.le_of_ble_eq_true rfl) dX11_letters_95 ?_
            exact sy_iret C hh dX11_letters_98 hq
          · have hq := hq.2 c11
            refine lv_iconst (v := (0 : Int32)) hx hb dX11_letters_80 (by decide) ?_
            exact sy_iret C hh dX11_letters_81 hq
    · have hq := hq.2 c5
      refine lv_iconst (v := (-1 : Int32)) hx hb dX11_letters_21 (by decide) ?_
      exact sy_iret C hh dX11_letters_22 hq

/-! AreaSetter.moved(I)I -/
def wX11_moved (M : sy_M) (a1 : Int32) (Q : Int32 → sy_M → Prop) : Prop := (((M 9 0) < (nI 2) → Q (-1 : Int32) M) ∧ (¬ (M 9 0) < (nI 2) → ∃ t2 : Nat, (M 0 6) = nI t2 ∧ iX10 t2 ∧ wX10_has M t2 a1 (fun r4 M3 => ((¬ r4 = 0 → wX2_cell M3 ((M3 9 0) - (nI 2)) a1 (fun r7 M6 => wX2_latestCell M6 a1 (fun r9 M8 => ∃ n10 : Nat, n10 < 2000 ∧ r7 = nI n10 ∧ (((M8 17 n10) = 0 → Q (-1 : Int32) M8) ∧ (¬ (M8 17 n10) = 0 → ∃ n12 : Nat, n12 < 2000 ∧ r9 = nI n12 ∧ ((¬ (M8 17 n12) = 0 → wX7_distance M8 11 r7 11 r9 (fun r15 M14 => Q r15 M14)) ∧ ((M8 17 n12) = 0 → Q (-1 : Int32) M8))))))) ∧ (r4 = 0 → Q (-1 : Int32) M3)))))
section
variable {p : Program} {l : Launch} {e : Env} {s : State} {m : MethodId} {args : Array Value} {below : List Frame} {meth : Method} {c : Code} {Y : sy_Y}
end
set_option maxHeartbeats 4000000 in
set_option maxRecDepth 100000 in
theorem mX11_moved (l : Launch) (Y : sy_Y) (sz : Nat) (M : sy_M) (a1 : Int32) (Q : Int32 → sy_M → Prop) (hq : wX11_moved M a1 Q) : Met l yX11_moved vsX11_moved ({ frames := 2, cells := 0, slots := 0, locals := 46 } : Room) (va_Pc [.ref (Y.2.1 0), .int a1] (sy_pre Y NX EX tfX sz M)) (sy_QI Y NX EX sz Q) 0 0 (sy_A NX Y.2.1 sz) := by
  refine sy_metI (by decide) rfl (Nat.le_of_ble_eq_true rfl) ?_
  intro p e s m args below meth c C ls hl hh
  have hx := C.1.1
  have hb := C.1.2.1
  have hl : lv_has ls 4 [(0, .ref (Y.2.1 0)), (1, .int a1)] := hl
  unfold wX11_moved at hq
  refine lv_aload_n hx hb dX11_moved_0 rfl (lv_at hl 0 rfl) ?_
  refine sy_get C hh (fun w h => mc (uX_fX11 w h)) 0 (by decide) (oX_0 Y) rfl 3 (by decide) (index := 31) (mc uX_492) (v := .ref (Y.2.1 9)) rfl dX11_moved_1 ?_
  refine sy_get C hh (fun w h => mc (uX_fX2 w h)) 9 (by decide) (oX_9 Y) rfl 0 (by decide) (index := 86) (mc uX_520) (v := .int (M 9 0)) rfl dX11_moved_4 ?_
  refine lv_iconst (v := (nI 2)) hx hb dX11_moved_7 (by decide) ?_
  refine lv_icmp_lt (tgt := 22) hx hb dX11_moved_8 (by decide) (fun c1 => ?_) (fun c1 => ?_)
  · have hq := hq.1 c1
    refine lv_iconst (v := (-1 : Int32)) hx hb dX11_moved_22 (by decide) ?_
    exact sy_iret C hh dX11_moved_23 hq
  · have hq := hq.2 c1
    refine lv_aload_n hx hb dX11_moved_11 rfl (lv_at hl 0 rfl) ?_
    obtain ⟨t2, et2, ht2, hq⟩ := hq
    refine sy_get C hh (fun w h => mc (uX_fX11 w h)) 0 (by decide) (oX_0 Y) rfl 6 (by decide) (index := 49) (mc uX_498) (v := .ref (Y.2.1 t2)) (sy_rf_of et2 (by have := iX10_lt ht2; omega)) dX11_moved_12 ?_
    refine lv_iload_n hx hb dX11_moved_15 rfl (lv_at hl 1 rfl) ?_
    refine sy_cIV C hh (As := [.int a1]) (rest := []) t2 (iX10_N ht2) (oX10 ht2) rfl (mX10_has l Y _ M t2 ht2 a1 _ hq) (cwV 1 C.1.2.2.2.2 (sy_goodV uX_good uX_557 uX_18 uX_19 uX_20 uX_11 _) rfl rfl rfl hdX10_has ⟨Nat.le_of_ble_eq_true rfl, Nat.le_of_ble_eq_true rfl⟩) rfl hl.1 rfl (Nat.le_of_ble_eq_true rfl) dX11_moved_16 (fun r4 M3 H locs hq hh => ?_)
    refine lv_if_ne (tgt := 24) hx hb dX11_moved_19 (by decide) (fun c5 => ?_) (fun c5 => ?_)
    · have hq := hq.1 c5
      refine lv_aload_n hx hb dX11_moved_24 rfl (lv_at hl 0 rfl) ?_
      refine sy_get C hh (fun w h => mc (uX_fX11 w h)) 0 (by decide) (oX_0 Y) rfl 3 (by decide) (index := 31) (mc uX_492) (v := .ref (Y.2.1 9)) rfl dX11_moved_25 ?_
      refine lv_aload_n hx hb dX11_moved_28 rfl (lv_at hl 0 rfl) ?_
      refine sy_get C hh (fun w h => mc (uX_fX11 w h)) 0 (by decide) (oX_0 Y) rfl 3 (by decide) (index := 31) (mc uX_492) (v := .ref (Y.2.1 9)) rfl dX11_moved_29 ?_
      refine sy_get C hh (fun w h => mc (uX_fX2 w h)) 9 (by decide) (oX_9 Y) rfl 0 (by decide) (index := 86) (mc uX_520) (v := .int (M3 9 0)) rfl dX11_moved_32 ?_
      refine lv_iconst (v := (nI 2)) hx hb dX11_moved_35 (by decide) ?_
      refine lv_isub hx hb dX11_moved_36 ?_
      refine lv_iload_n hx hb dX11_moved_37 rfl (lv_at hl 1 rfl) ?_
      refine sy_cIV C hh (As := [.int ((M3 9 0) - (nI 2)), .int a1]) (rest := []) 9 (by decide) (oX_9 Y) rfl (mX2_cell l Y _ M3 ((M3 9 0) - (nI 2)) a1 _ hq) (cwV 2 C.1.2.2.2.2 (sy_goodV uX_good uX_578 uX_112 uX_113 uX_114 uX_109 _) rfl rfl rfl hdX2_cell ⟨Nat.le_of_ble_eq_true rfl, Nat.le_of_ble_eq_true rfl⟩) rfl hl.1 rfl (Nat.le_of_ble_eq_true rfl) dX11_moved_38 (fun r7 M6 H locs hq hh => ?_)
      refine lv_istore_n (lv' := [(2, .int r7), (0, .ref (Y.2.1 0)), (1, .int a1)]) hx hb dX11_moved_41 rfl hl (by decide) rfl (fun ls hl => ?_)
      refine lv_aload_n hx hb dX11_moved_42 rfl (lv_at hl 1 rfl) ?_
      refine sy_get C hh (fun w h => mc (uX_fX11 w h)) 0 (by decide) (oX_0 Y) rfl 3 (by decide) (index := 31) (mc uX_492) (v := .ref (Y.2.1 9)) rfl dX11_moved_43 ?_
      refine lv_iload_n hx hb dX11_moved_46 rfl (lv_at hl 2 rfl) ?_
      refine sy_cIV C hh (As := [.int a1]) (rest := []) 9 (by decide) (oX_9 Y) rfl (mX2_latestCell l Y _ M6 a1 _ hq) (cwV 1 C.1.2.2.2.2 (sy_goodV uX_good uX_558 uX_118 uX_119 uX_114 uX_110 _) rfl rfl rfl hdX2_latestCell ⟨Nat.le_of_ble_eq_true rfl, Nat.le_of_ble_eq_true rfl⟩) rfl hl.1 rfl (Nat.le_of_ble_eq_true rfl) dX11_moved_47 (fun r9 M8 H locs hq hh => ?_)
      refine lv_istore_n (lv' := [(3, .int r9), (2, .int r7), (0, .ref (Y.2.1 0)), (1, .int a1)]) hx hb dX11_moved_50 rfl hl (by decide) rfl (fun ls hl => ?_)
      refine lv_aload_n hx hb dX11_moved_51 rfl (lv_at hl 2 rfl) ?_
      refine sy_get C hh (fun w h => mc (uX_fX11 w h)) 0 (by decide) (oX_0 Y) rfl 3 (by decide) (index := 31) (mc uX_492) (v := .ref (Y.2.1 9)) rfl dX11_moved_52 ?_
      refine sy_get C hh (fun w h => mc (uX_fX2 w h)) 9 (by decide) (oX_9 Y) rfl 3 (by decide) (index := 147) (mc uX_554) (v := .ref (Y.2.1 17)) rfl dX11_moved_55 ?_
      refine lv_iload_n hx hb dX11_moved_58 rfl (lv_at hl 1 rfl) ?_
      obtain ⟨n10, hn10, en10, hq⟩ := hq
      refine sy_zald C hh 17 (by decide) (aX_17 Y) tX_17 hn10 en10 (by decide) dX11_moved_59 ?_
      refine lv_if_eq (tgt := 75) hx hb dX11_moved_60 (by decide) (fun c11 => ?_) (fun c11 => ?_)
      · have hq := hq.1 c11
        refine lv_iconst (v := (-1 : Int32)) hx hb dX11_moved_75 (by decide) ?_
        exact sy_iret C hh dX11_moved_76 hq
      · have hq := hq.2 c11
        refine lv_aload_n hx hb dX11_moved_63 rfl (lv_at hl 2 rfl) ?_
        refine sy_get C hh (fun w h => mc (uX_fX11 w h)) 0 (by decide) (oX_0 Y) rfl 3 (by decide) (index := 31) (mc uX_492) (v := .ref (Y.2.1 9)) rfl dX11_moved_64 ?_
        refine sy_get C hh (fun w h => mc (uX_fX2 w h)) 9 (by decide) (oX_9 Y) rfl 3 (by decide) (index := 147) (mc uX_554) (v := .ref (Y.2.1 17)) rfl dX11_moved_67 ?_
        refine lv_iload_n hx hb dX11_moved_70 rfl (lv_at hl 0 rfl) ?_
        obtain ⟨n12, hn12, en12, hq⟩ := hq
        refine sy_zald C hh 17 (by decide) (aX_17 Y) tX_17 hn12 en12 (by decide) dX11_moved_71 ?_
        refine lv_if_ne (tgt := 77) hx hb dX11_moved_72 (by decide) (fun c13 => ?_) (fun c13 => ?_)
        · have hq := hq.1 c13
          refine lv_aload_n hx hb dX11_moved_77 rfl (lv_at hl 2 rfl) ?_
          refine sy_get C hh (fun w h => mc (uX_fX11 w h)) 0 (by decide) (oX_0 Y) rfl 3 (by decide) (index := 31) (mc uX_492) (v := .ref (Y.2.1 9)) rfl dX11_moved_78 ?_
          refine sy_get C hh (fun w h => mc (uX_fX2 w h)) 9 (by decide) (oX_9 Y) rfl 2 (by decide) (index := 141) (mc uX_552) (v := .ref (Y.2.1 11)) rfl dX11_moved_81 ?_
          refine lv_iload_n hx hb dX11_moved_84 rfl (lv_at hl 1 rfl) ?_
          refine lv_aload_n hx hb dX11_moved_85 rfl (lv_at hl 2 rfl) ?_
          refine sy_get C hh (fun w h => mc (uX_fX11 w h)) 0 (by decide) (oX_0 Y) rfl 3 (by decide) (index := 31) (mc uX_492) (v := .ref (Y.2.1 9)) rfl dX11_moved_86 ?_
          refine sy_get C hh (fun w h => mc (uX_fX2 w h)) 9 (by decide) (oX_9 Y) rfl 2 (by decide) (index := 141) (mc uX_552) (v := .ref (Y.2.1 11)) rfl dX11_moved_89 ?_
          refine lv_iload_n hx hb dX11_moved_92 rfl (lv_at hl 0 rfl) ?_
          refine sy_cIV C hh (As := [.int r7, .ref (Y.2.1 11), .int r9]) (rest := []) 11 (by decide) (oX_11 Y) rfl (mX7_distance l Y _ M8 11 iX7_11 r7 11 iX7_11 r9 _ hq) (cwV 3 C.1.2.2.2.2 (sy_goodV uX_good uX_579 uX_260 uX_261 uX_37 uX_249 _) rfl rfl rfl hdX7_distance ⟨Nat.le_of_ble_eq_true rfl, Nat.le_of_ble_eq_true rfl⟩) rfl hl.1 rfl (Nat.le_of_ble_eq_true rfl) dX11_moved_93 (fun r15 M14 H locs hq hh => ?_)
          exact sy_iret C hh dX11_moved_96 hq
        · have hq := hq.2 c13
          refine lv_iconst (v := (-1 : Int32)) hx hb dX11_moved_75 (by decide) ?_
          exact sy_iret C hh dX11_moved_76 hq
    · have hq := hq.2 c5
      refine lv_iconst (v := (-1 : Int32)) hx hb dX11_moved_22 (by decide) ?_
      exact sy_iret C hh dX11_moved_23 hq

/-! AreaSetter.aboutGroup(II)I -/
def wX11_aboutGroup (M : sy_M) (a1 : Int32) (a2 : Int32) (Q : Int32 → sy_M → Prop) : Prop := ((a2 = (nI 5) → ∃ t2 : Nat, (M 0 6) = nI t2 ∧ iX10 t2 ∧ ∃ n3 : Nat, n3 < 40 ∧ a1 = nI n3 ∧ Q (M (t2 + 2) n3) M) ∧ (¬ a2 = (nI 5) → ((a2 = (nI 6) → ∃ t5 : Nat, (M 0 6) = nI t5 ∧ iX10 t5 ∧ ∃ n6 : Nat, n6 < 40 ∧ a1 = nI n6 ∧ (((M (t5 + 7) n6) = 0 → Q (0 : Int32) M) ∧ (¬ (M (t5 + 7) n6) = 0 → Q (1 : Int32) M))) ∧ (¬ a2 = (nI 6) → ((a2 = (nI 7) → ∃ t9 : Nat, (M 0 6) = nI t9 ∧ iX10 t9 ∧ ∃ n10 : Nat, n10 < 40 ∧ a1 = nI n10 ∧ Q (M (t9 + 8) n10) M) ∧ (¬ a2 = (nI 7) → ((a2 = (nI 8) → ∃ t12 : Nat, (M 0 6) = nI t12 ∧ iX10 t12 ∧ ∃ n13 : Nat, n13 < 40 ∧ a1 = nI n13 ∧ (((M (t12 + 9) n13) = 0 → Q (0 : Int32) M) ∧ (¬ (M (t12 + 9) n13) = 0 → Q (1 : Int32) M))) ∧ (¬ a2 = (nI 8) → Q (-1 : Int32) M))))))))
section
variable {p : Program} {l : Launch} {e : Env} {s : State} {m : MethodId} {args : Array Value} {below : List Frame} {meth : Method} {c : Code} {Y : sy_Y}
end
set_option maxHeartbeats 4000000 in
set_option maxRecDepth 100000 in
theorem mX11_aboutGroup (l : Launch) (Y : sy_Y) (sz : Nat) (M : sy_M) (a1 : Int32) (a2 : Int32) (Q : Int32 → sy_M → Prop) (hq : wX11_aboutGroup M a1 a2 Q) : Met l yX11_aboutGroup vsX11_aboutGroup ({ frames := 0, cells := 0, slots := 0, locals := 0 } : Room) (va_Pc [.ref (Y.2.1 0), .int a1, .int a2] (sy_pre Y NX EX tfX sz M)) (sy_QI Y NX EX sz Q) 0 0 (sy_A NX Y.2.1 sz) := by
  refine sy_metI (by decide) rfl (Nat.le_of_ble_eq_true rfl) ?_
  intro p e s m args below meth c C ls hl hh
  have hx := C.1.1
  have hb := C.1.2.1
  have hl : lv_has ls 3 [(0, .ref (Y.2.1 0)), (1, .int a1), (2, .int a2)] := hl
  unfold wX11_aboutGroup at hq
  refine lv_iload_n hx hb dX11_aboutGroup_0 rfl (lv_at hl 2 rfl) ?_
  by_cases c1 : a2 = (nI 5)
  · have hq := hq.1 c1
    refine lv_tableIn (tgt := 32) (off := 31) hx hb dX11_aboutGroup_1 (by rw [c1]; decide) (by rw [c1]; decide) (by rw [c1]; rfl) (by decide) ?_
    refine lv_aload_n hx hb dX11_aboutGroup_32 rfl (lv_at hl 0 rfl) ?_
    obtain ⟨t2, et2, ht2, hq⟩ := hq
    refine sy_get C hh (fun w h => mc (uX_fX11 w h)) 0 (by decide) (oX_0 Y) rfl 6 (by decide) (index := 49) (mc uX_498) (v := .ref (Y.2.1 t2)) (sy_rf_of et2 (by have := iX10_lt ht2; omega)) dX11_aboutGroup_33 ?_
    refine sy_get C hh (fun w h => mc (uX_fX10 w h)) t2 (iX10_N ht2) (oX10 ht2) rfl 3 (by decide) (index := 232) (mc uX_589) (v := .ref (Y.2.1 (t2 + 2))) rfl dX11_aboutGroup_36 ?_
    refine lv_iload_n hx hb dX11_aboutGroup_39 rfl (lv_at hl 1 rfl) ?_
    obtain ⟨n3, hn3, en3, hq⟩ := hq
    refine sy_iald C hh (t2 + 2) (iX10_N2 ht2) (aX10_2 ht2) (tX10_2 ht2) hn3 en3 (by decide) dX11_aboutGroup_40 ?_
    exact sy_iret C hh dX11_aboutGroup_41 hq
  · have hq := hq.2 c1
    by_cases c4 : a2 = (nI 6)
    · have hq := hq.1 c4
      refine lv_tableIn (tgt := 42) (off := 41) hx hb dX11_aboutGroup_1 (by rw [c4]; decide) (by rw [c4]; decide) (by rw [c4]; rfl) (by decide) ?_
      refine lv_aload_n hx hb dX11_aboutGroup_42 rfl (lv_at hl 0 rfl) ?_
      obtain ⟨t5, et5, ht5, hq⟩ := hq
      refine sy_get C hh (fun w h => mc (uX_fX11 w h)) 0 (by decide) (oX_0 Y) rfl 6 (by decide) (index := 49) (mc uX_498) (v := .ref (Y.2.1 t5)) (sy_rf_of et5 (by have := iX10_lt ht5; omega)) dX11_aboutGroup_43 ?_
      refine sy_get C hh (fun w h => mc (uX_fX10 w h)) t5 (iX10_N ht5) (oX10 ht5) rfl 8 (by decide) (index := 235) (mc uX_590) (v := .ref (Y.2.1 (t5 + 7))) rfl dX11_aboutGroup_46 ?_
      refine lv_iload_n hx hb dX11_aboutGroup_49 rfl (lv_at hl 1 rfl) ?_
      obtain ⟨n6, hn6, en6, hq⟩ := hq
      refine sy_zald C hh (t5 + 7) (iX10_N7 ht5) (aX10_7 ht5) (tX10_7 ht5) hn6 en6 (by decide) dX11_aboutGroup_50 ?_
      refine lv_if_eq (tgt := 58) hx hb dX11_aboutGroup_51 (by decide) (fun c7 => ?_) (fun c7 => ?_)
      · have hq := hq.1 c7
        refine lv_iconst (v := (0 : Int32)) hx hb dX11_aboutGroup_58 (by decide) ?_
        exact sy_iret C hh dX11_aboutGroup_59 hq
      · have hq := hq.2 c7
        refine lv_iconst (v := (1 : Int32)) hx hb dX11_aboutGroup_54 (by decide) ?_
        refine lv_goto (tgt := 59) hx hb dX11_aboutGroup_55 (by decide) ?_
        exact sy_iret C hh dX11_aboutGroup_59 hq
    · have hq := hq.2 c4
      by_cases c8 : a2 = (nI 7)
      · have hq := hq.1 c8
        refine lv_tableIn (tgt := 60) (off := 59) hx hb dX11_aboutGroup_1 (by rw [c8]; decide) (by rw [c8]; decide) (by rw [c8]; rfl) (by decide) ?_
        refine lv_aload_n hx hb dX11_aboutGroup_60 rfl (lv_at hl 0 rfl) ?_
        obtain ⟨t9, et9, ht9, hq⟩ := hq
        refine sy_get C hh (fun w h => mc (uX_fX11 w h)) 0 (by decide) (oX_0 Y) rfl 6 (by decide) (index := 49) (mc uX_498) (v := .ref (Y.2.1 t9)) (sy_rf_of et9 (by have := iX10_lt ht9; omega)) dX11_aboutGroup_61 ?_
        refine sy_get C hh (fun w h => mc (uX_fX10 w h)) t9 (iX10_N ht9) (oX10 ht9) rfl 9 (by decide) (index := 109) (mc uX_538) (v := .ref (Y.2.1 (t9 + 8))) rfl dX11_aboutGroup_64 ?_
        refine lv_iload_n hx hb dX11_aboutGroup_67 rfl (lv_at hl 1 rfl) ?_
        obtain ⟨n10, hn10, en10, hq⟩ := hq
        refine sy_iald C hh (t9 + 8) (iX10_N8 ht9) (aX10_8 ht9) (tX10_8 ht9) hn10 en10 (by decide) dX11_aboutGroup_68 ?_
        exact sy_iret C hh dX11_aboutGroup_69 hq
      · have hq := hq.2 c8
        by_cases c11 : a2 = (nI 8)
        · have hq := hq.1 c11
          refine lv_tableIn (tgt := 70) (off := 69) hx hb dX11_aboutGroup_1 (by rw [c11]; decide) (by rw [c11]; decide) (by rw [c11]; rfl) (by decide) ?_
          refine lv_aload_n hx hb dX11_aboutGroup_70 rfl (lv_at hl 0 rfl) ?_
          obtain ⟨t12, et12, ht12, hq⟩ := hq
          refine sy_get C hh (fun w h => mc (uX_fX11 w h)) 0 (by decide) (oX_0 Y) rfl 6 (by decide) (index := 49) (mc uX_498) (v := .ref (Y.2.1 t12)) (sy_rf_of et12 (by have := iX10_lt ht12; omega)) dX11_aboutGroup_71 ?_
          refine sy_get C hh (fun w h => mc (uX_fX10 w h)) t12 (iX10_N ht12) (oX10 ht12) rfl 10 (by decide) (index := 112) (mc uX_539) (v := .ref (Y.2.1 (t12 + 9))) rfl dX11_aboutGroup_74 ?_
          refine lv_iload_n hx hb dX11_aboutGroup_77 rfl (lv_at hl 1 rfl) ?_
          obtain ⟨n13, hn13, en13, hq⟩ := hq
          refine sy_zald C hh (t12 + 9) (iX10_N9 ht12) (aX10_9 ht12) (tX10_9 ht12) hn13 en13 (by decide) dX11_aboutGroup_78 ?_
          refine lv_if_eq (tgt := 86) hx hb dX11_aboutGroup_79 (by decide) (fun c14 => ?_) (fun c14 => ?_)
          · have hq := hq.1 c14
            refine lv_iconst (v := (0 : Int32)) hx hb dX11_aboutGroup_86 (by decide) ?_
            exact sy_iret C hh dX11_aboutGroup_87 hq
          · have hq := hq.2 c14
            refine lv_iconst (v := (1 : Int32)) hx hb dX11_aboutGroup_82 (by decide) ?_
            refine lv_goto (tgt := 87) hx hb dX11_aboutGroup_83 (by decide) ?_
            exact sy_iret C hh dX11_aboutGroup_87 hq
        · have hq := hq.2 c11
          refine lv_tableOut (tgt := 88) hx hb dX11_aboutGroup_1 (by have := lv_neT c1 (a := 5) (by decide); have := lv_neT c4 (a := 6) (by decide); have := lv_neT c8 (a := 7) (by decide); have := lv_neT c11 (a := 8) (by decide); omega) (by decide) ?_
          refine lv_iconst (v := (-1 : Int32)) hx hb dX11_aboutGroup_88 (by decide) ?_
          exact sy_iret C hh dX11_aboutGroup_89 hq

/-! AreaSetter.about(II)I -/
def wX11_about (M : sy_M) (a1 : Int32) (a2 : Int32) (Q : Int32 → sy_M → Prop) : Prop := ∃ t1 : Nat, (M 0 6) = nI t1 ∧ iX10 t1 ∧ wX10_has M t1 a1 (fun r3 M2 => ((¬ r3 = 0 → ((a2 = (0 : Int32) → ∃ t6 : Nat, (M2 0 6) = nI t6 ∧ iX10 t6 ∧ ∃ n7 : Nat, n7 < 40 ∧ a1 = nI n7 ∧ Q (M2 (t6 + 1) n7) M2) ∧ (¬ a2 = (0 : Int32) → ((a2 = (1 : Int32) → ∃ t9 : Nat, (M2 0 6) = nI t9 ∧ iX10 t9 ∧ wX10_isGroup M2 t9 a1 (fun r11 M10 => ((r11 = 0 → Q (0 : Int32) M10) ∧ (¬ r11 = 0 → Q (1 : Int32) M10)))) ∧ (¬ a2 = (1 : Int32) → ((a2 = (nI 2) → ∃ t14 : Nat, (M2 0 6) = nI t14 ∧ iX10 t14 ∧ ∃ n15 : Nat, n15 < 40 ∧ a1 = nI n15 ∧ Q (M2 (t14 + 3) n15) M2) ∧ (¬ a2 = (nI 2) → ((a2 = (nI 3) → ∃ t17 : Nat, (M2 0 6) = nI t17 ∧ iX10 t17 ∧ ∃ n18 : Nat, n18 < 40 ∧ a1 = nI n18 ∧ Q (M2 (t17 + 6) n18) M2) ∧ (¬ a2 = (nI 3) → ((a2 = (nI 4) → ∃ t20 : Nat, (M2 0 6) = nI t20 ∧ iX10 t20 ∧ ∃ n21 : Nat, n21 < 40 ∧ a1 = nI n21 ∧ Q (M2 (t20 + 4) n21) M2) ∧ (¬ a2 = (nI 4) → ∃ t22 : Nat, (M2 0 6) = nI t22 ∧ iX10 t22 ∧ wX10_isGroup M2 t22 a1 (fun r24 M23 => ((r24 = 0 → Q (-1 : Int32) M23) ∧ (¬ r24 = 0 → wX11_aboutGroup M23 a1 a2 (fun r27 M26 => Q r27 M26))))))))))))))) ∧ (r3 = 0 → Q (-1 : Int32) M2)))
section
variable {p : Program} {l : Launch} {e : Env} {s : State} {m : MethodId} {args : Array Value} {below : List Frame} {meth : Method} {c : Code} {Y : sy_Y}
end
set_option maxHeartbeats 4000000 in
set_option maxRecDepth 100000 in
theorem mX11_about (l : Launch) (Y : sy_Y) (sz : Nat) (M : sy_M) (a1 : Int32) (a2 : Int32) (Q : Int32 → sy_M → Prop) (hq : wX11_about M a1 a2 Q) : Met l yX11_about vsX11_about ({ frames := 2, cells := 0, slots := 0, locals := 42 } : Room) (va_Pc [.ref (Y.2.1 0), .int a1, .int a2] (sy_pre Y NX EX tfX sz M)) (sy_QI Y NX EX sz Q) 0 0 (sy_A NX Y.2.1 sz) := by
  refine sy_metI (by decide) rfl (Nat.le_of_ble_eq_true rfl) ?_
  intro p e s m args below meth c C ls hl hh
  have hx := C.1.1
  have hb := C.1.2.1
  have hl : lv_has ls 3 [(0, .ref (Y.2.1 0)), (1, .int a1), (2, .int a2)] := hl
  unfold wX11_about at hq
  refine lv_aload_n hx hb dX11_about_0 rfl (lv_at hl 0 rfl) ?_
  obtain ⟨t1, et1, ht1, hq⟩ := hq
  refine sy_get C hh (fun w h => mc (uX_fX11 w h)) 0 (by decide) (oX_0 Y) rfl 6 (by decide) (index := 49) (mc uX_498) (v := .ref (Y.2.1 t1)) (sy_rf_of et1 (by have := iX10_lt ht1; omega)) dX11_about_1 ?_
  refine lv_iload_n hx hb dX11_about_4 rfl (lv_at hl 1 rfl) ?_
  refine sy_cIV C hh (As := [.int a1]) (rest := []) t1 (iX10_N ht1) (oX10 ht1) rfl (mX10_has l Y _ M t1 ht1 a1 _ hq) (cwV 1 C.1.2.2.2.2 (sy_goodV uX_good uX_557 uX_18 uX_19 uX_20 uX_11 _) rfl rfl rfl hdX10_has ⟨Nat.le_of_ble_eq_true rfl, Nat.le_of_ble_eq_true rfl⟩) rfl hl.1 rfl (Nat.le_of_ble_eq_true rfl) dX11_about_5 (fun r3 M2 H locs hq hh => ?_)
  refine lv_if_ne (tgt := 13) hx hb dX11_about_8 (by decide) (fun c4 => ?_) (fun c4 => ?_)
  · have hq := hq.1 c4
    refine lv_iload_n hx hb dX11_about_13 rfl (lv_at hl 2 rfl) ?_
    by_cases c5 : a2 = (0 : Int32)
    · have hq := hq.1 c5
      refine lv_tableIn (tgt := 48) (off := 34) hx hb dX11_about_14 (by rw [c5]; decide) (by rw [c5]; decide) (by rw [c5]; rfl) (by decide) ?_
      refine lv_aload_n hx hb dX11_about_48 rfl (lv_at hl 0 rfl) ?_
      obtain ⟨t6, et6, ht6, hq⟩ := hq
      refine sy_get C hh (fun w h => mc (uX_fX11 w h)) 0 (by decide) (oX_0 Y) rfl 6 (by decide) (index := 49) (mc uX_498) (v := .ref (Y.2.1 t6)) (sy_rf_of et6 (by have := iX10_lt ht6; omega)) dX11_about_49 ?_
      refine sy_get C hh (fun w h => mc (uX_fX10 w h)) t6 (iX10_N ht6) (oX10 ht6) rfl 2 (by decide) (index := 203) (mc uX_591) (v := .ref (Y.2.1 (t6 + 1))) rfl dX11_about_52 ?_
      refine lv_iload_n hx hb dX11_about_55 rfl (lv_at hl 1 rfl) ?_
      obtain ⟨n7, hn7, en7, hq⟩ := hq
      refine sy_iald C hh (t6 + 1) (iX10_N1 ht6) (aX10_1 ht6) (tX10_1 ht6) hn7 en7 (by decide) dX11_about_56 ?_
      exact sy_iret C hh dX11_about_57 hq
    · have hq := hq.2 c5
      by_cases c8 : a2 = (1 : Int32)
      · have hq := hq.1 c8
        refine lv_tableIn (tgt := 58) (off := 44) hx hb dX11_about_14 (by rw [c8]; decide) (by rw [c8]; decide) (by rw [c8]; rfl) (by decide) ?_
        refine lv_aload_n hx hb dX11_about_58 rfl (lv_at hl 0 rfl) ?_
        obtain ⟨t9, et9, ht9, hq⟩ := hq
        refine sy_get C hh (fun w h => mc (uX_fX11 w h)) 0 (by decide) (oX_0 Y) rfl 6 (by decide) (index := 49) (mc uX_498) (v := .ref (Y.2.1 t9)) (sy_rf_of et9 (by have := iX10_lt ht9; omega)) dX11_about_59 ?_
        refine lv_iload_n hx hb dX11_about_62 rfl (lv_at hl 1 rfl) ?_
        refine sy_cIV C hh (As := [.int a1]) (rest := []) t9 (iX10_N ht9) (oX10 ht9) rfl (mX10_isGroup l Y _ M2 t9 ht9 a1 _ hq) (cwV 1 C.1.2.2.2.2 (sy_goodV uX_good uX_540 uX_127 uX_128 uX_20 uX_122 _) rfl rfl rfl hdX10_isGroup ⟨Nat.le_of_ble_eq_true rfl, Nat.le_of_ble_eq_true rfl⟩) rfl hl.1 rfl (Nat.le_of_ble_eq_true rfl) dX11_about_63 (fun r11 M10 H locs hq hh => ?_)
        refine lv_if_eq (tgt := 73) hx hb dX11_about_66 (by decide) (fun c12 => ?_) (fun c12 => ?_)
        · have hq := hq.1 c12
          refine lv_iconst (v := (0 : Int32)) hx hb dX11_about_73 (by decide) ?_
          exact sy_iret C hh dX11_about_74 hq
        · have hq := hq.2 c12
          refine lv_iconst (v := (1 : Int32)) hx hb dX11_about_69 (by decide) ?_
          refine lv_goto (tgt := 74) hx hb dX11_about_70 (by decide) ?_
          exact sy_iret C hh dX11_about_74 hq
      · have hq := hq.2 c8
        by_cases c13 : a2 = (nI 2)
        · have hq := hq.1 c13
          refine lv_tableIn (tgt := 75) (off := 61) hx hb dX11_about_14 (by rw [c13]; decide) (by rw [c13]; decide) (by rw [c13]; rfl) (by decide) ?_
          refine lv_aload_n hx hb dX11_about_75 rfl (lv_at hl 0 rfl) ?_
          obtain ⟨t14, et14, ht14, hq⟩ := hq
          refine sy_get C hh (fun w h => mc (uX_fX11 w h)) 0 (by decide) (oX_0 Y) rfl 6 (by decide) (index := 49) (mc uX_498) (v := .ref (Y.2.1 t14)) (sy_rf_of et14 (by have := iX10_lt ht14; omega)) dX11_about_76 ?_
          refine sy_get C hh (fun w h => mc (uX_fX10 w h)) t14 (iX10_N ht14) (oX10 ht14) rfl 4 (by decide) (index := 206) (mc uX_592) (v := .ref (Y.2.1 (t14 + 3))) rfl dX11_about_79 ?_
          refine lv_iload_n hx hb dX11_about_82 rfl (lv_at hl 1 rfl) ?_
          obtain ⟨n15, hn15, en15, hq⟩ := hq
          refine sy_iald C hh (t14 + 3) (iX10_N3 ht14) (aX10_3 ht14) (tX10_3 ht14) hn15 en15 (by decide) dX11_about_83 ?_
          exact sy_iret C hh dX11_about_84 hq
        · have hq := hq.2 c13
          by_cases c16 : a2 = (nI 3)
          · have hq := hq.1 c16
            refine lv_tableIn (tgt := 85) (off := 71) hx hb dX11_about_14 (by rw [c16]; decide) (by rw [c16]; decide) (by rw [c16]; rfl) (by decide) ?_
            refine lv_aload_n hx hb dX11_about_85 rfl (lv_at hl 0 rfl) ?_
            obtain ⟨t17, et17, ht17, hq⟩ := hq
            refine sy_get C hh (fun w h => mc (uX_fX11 w h)) 0 (by decide) (oX_0 Y) rfl 6 (by decide) (index := 49) (mc uX_498) (v := .ref (Y.2.1 t17)) (sy_rf_of et17 (by have := iX10_lt ht17; omega)) dX11_about_86 ?_
            refine sy_get C hh (fun w h => mc (uX_fX10 w h)) t17 (iX10_N ht17) (oX10 ht17) rfl 7 (by decide) (index := 179) (mc uX_575) (v := .ref (Y.2.1 (t17 + 6))) rfl dX11_about_89 ?_
            refine lv_iload_n hx hb dX11_about_92 rfl (lv_at hl 1 rfl) ?_
            obtain ⟨n18, hn18, en18, hq⟩ := hq
            refine sy_iald C hh (t17 + 6) (iX10_N6 ht17) (aX10_6 ht17) (tX10_6 ht17) hn18 en18 (by decide) dX11_about_93 ?_
            exact sy_iret C hh dX11_about_94 hq
          · have hq := hq.2 c16
            by_cases c19 : a2 = (nI 4)
            · have hq := hq.1 c19
              refine lv_tableIn (tgt := 95) (off := 81) hx hb dX11_about_14 (by rw [c19]; decide) (by rw [c19]; decide) (by rw [c19]; rfl) (by decide) ?_
              refine lv_aload_n hx hb dX11_about_95 rfl (lv_at hl 0 rfl) ?_
              obtain ⟨t20, et20, ht20, hq⟩ := hq
              refine sy_get C hh (fun w h => mc (uX_fX11 w h)) 0 (by decide) (oX_0 Y) rfl 6 (by decide) (index := 49) (mc uX_498) (v := .ref (Y.2.1 t20)) (sy_rf_of et20 (by have := iX10_lt ht20; omega)) dX11_about_96 ?_
              refine sy_get C hh (fun w h => mc (uX_fX10 w h)) t20 (iX10_N ht20) (oX10 ht20) rfl 5 (by decide) (index := 209) (mc uX_593) (v := .ref (Y.2.1 (t20 + 4))) rfl dX11_about_99 ?_
              refine lv_iload_n hx hb dX11_about_102 rfl (lv_at hl 1 rfl) ?_
              obtain ⟨n21, hn21, en21, hq⟩ := hq
              refine sy_iald C hh (t20 + 4) (iX10_N4 ht20) (aX10_4 ht20) (tX10_4 ht20) hn21 en21 (by decide) dX11_about_103 ?_
              exact sy_iret C hh dX11_about_104 hq
            · have hq := hq.2 c19
              refine lv_tableOut (tgt := 105) hx hb dX11_about_14 (by have := lv_neT c5 (a := 0) (by decide); have := lv_neT c8 (a := 1) (by decide); have := lv_neT c13 (a := 2) (by decide); have := lv_neT c16 (a := 3) (by decide); have := lv_neT c19 (a := 4) (by decide); omega) (by decide) ?_
              refine lv_aload_n hx hb dX11_about_105 rfl (lv_at hl 0 rfl) ?_
              obtain ⟨t22, et22, ht22, hq⟩ := hq
              refine sy_get C hh (fun w h => mc (uX_fX11 w h)) 0 (by decide) (oX_0 Y) rfl 6 (by decide) (index := 49) (mc uX_498) (v := .ref (Y.2.1 t22)) (sy_rf_of et22 (by have := iX10_lt ht22; omega)) dX11_about_106 ?_
              refine lv_iload_n hx hb dX11_about_109 rfl (lv_at hl 1 rfl) ?_
              refine sy_cIV C hh (As := [.int a1]) (rest := []) t22 (iX10_N ht22) (oX10 ht22) rfl (mX10_isGroup l Y _ M2 t22 ht22 a1 _ hq) (cwV 1 C.1.2.2.2.2 (sy_goodV uX_good uX_540 uX_127 uX_128 uX_20 uX_122 _) rfl rfl rfl hdX10_isGroup ⟨Nat.le_of_ble_eq_true rfl, Nat.le_of_ble_eq_true rfl⟩) rfl hl.1 rfl (Nat.le_of_ble_eq_true rfl) dX11_about_110 (fun r24 M23 H locs hq hh => ?_)
              refine lv_if_eq (tgt := 125) hx hb dX11_about_113 (by decide) (fun c25 => ?_) (fun c25 => ?_)
              · have hq := hq.1 c25
                refine lv_iconst (v := (-1 : Int32)) hx hb dX11_about_125 (by decide) ?_
                exact sy_iret C hh dX11_about_126 hq
              · have hq := hq.2 c25
                refine lv_aload_n hx hb dX11_about_116 rfl (lv_at hl 0 rfl) ?_
                refine lv_iload_n hx hb dX11_about_117 rfl (lv_at hl 1 rfl) ?_
                refine lv_iload_n hx hb dX11_about_118 rfl (lv_at hl 2 rfl) ?_
                refine sy_cIV C hh (As := [.int a1, .int a2]) (rest := []) 0 (by decide) (oX_0 Y) rfl (mX11_aboutGroup l Y _ M23 a1 a2 _ hq) (cwV 2 C.1.2.2.2.2 (sy_goodV uX_good uX_594 uX_595 uX_596 uX_58 uX_588 _) rfl rfl rfl hdX11_aboutGroup ⟨Nat.le_of_ble_eq_true rfl, Nat.le_of_ble_eq_true rfl⟩) rfl hl.1 rfl (Nat.le_of_ble_eq_true rfl) dX11_about_119 (fun r27 M26 H locs hq hh => ?_)
                refine lv_goto (tgt := 126) hx hb dX11_about_122 (by decide) ?_
                exact sy_iret C hh dX11_about_126 hq
  · have hq := hq.2 c4
    refine lv_iconst (v := (-1 : Int32)) hx hb dX11_about_11 (by decide) ?_
    exact sy_iret C hh dX11_about_12 hq

