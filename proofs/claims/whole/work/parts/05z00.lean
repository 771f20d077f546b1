/-! AreaSetterModel.thrown()I -/
def wX12_thrown (M : sy_M)  (Q : Int32 → sy_M → Prop) : Prop := Q (M 0 0) M
section
variable {p : Program} {l : Launch} {e : Env} {s : State} {m : MethodId} {args : Array Value} {below : List Frame} {meth : Method} {c : Code} {Y : sy_Y}
end
set_option maxHeartbeats 4000000 in
set_option maxRecDepth 100000 in
theorem mX12_thrown (l : Launch) (Y : sy_Y) (sz : Nat) (M : sy_M) (Q : Int32 → sy_M → Prop) (hq : wX12_thrown M  Q) : Met l yX12_thrown vsX12_thrown ({ frames := 0, cells := 0, slots := 0, locals := 0 } : Room) (va_Pc [.ref (Y.2.1 0)] (sy_pre Y NZ EZ tfZ sz M)) (sy_QI Y NZ EZ sz Q) 0 0 (sy_A NZ Y.2.1 sz) := by
  refine sy_metI (by decide) rfl (Nat.le_of_ble_eq_true rfl) ?_
  intro p e s m args below meth c C ls hl hh
  have hx := C.1.1
  have hb := C.1.2.1
  have hl : lv_has ls 1 [(0, .ref (Y.2.1 0))] := hl
  unfold wX12_thrown at hq
  refine lv_aload_n hx hb dX12_thrown_0 rfl (lv_at hl 0 rfl) ?_
  refine sy_get C hh (fun w h => mc (uZ_fX12 w h)) 0 (by decide) (oZ_0 Y) rfl 0 (by decide) (index := 1) (mc uZ_1) (v := .int (M 0 0)) rfl dX12_thrown_1 ?_
  exact sy_iret C hh dX12_thrown_4 hq

/-! AreaSetterModel.within(III)Z -/
def wX12_within (M : sy_M) (a1 : Int32) (a2 : Int32) (a3 : Int32) (Q : Int32 → sy_M → Prop) : Prop := ((a1 < a2 → Q (0 : Int32) M) ∧ (¬ a1 < a2 → ((a3 < a1 → Q (0 : Int32) M) ∧ (¬ a3 < a1 → Q (1 : Int32) M))))
section
variable {p : Program} {l : Launch} {e : Env} {s : State} {m : MethodId} {args : Array Value} {below : List Frame} {meth : Method} {c : Code} {Y : sy_Y}
end
set_option maxHeartbeats 4000000 in
set_option maxRecDepth 100000 in
theorem mX12_within (l : Launch) (Y : sy_Y) (sz : Nat) (M : sy_M) (a1 : Int32) (a2 : Int32) (a3 : Int32) (Q : Int32 → sy_M → Prop) (hq : wX12_within M a1 a2 a3 Q) : Met l yX12_within vsX12_within ({ frames := 0, cells := 0, slots := 0, locals := 0 } : Room) (va_Pc [.int a1, .int a2, .int a3] (sy_pre Y NZ EZ tfZ sz M)) (sy_QI Y NZ EZ sz Q) 0 0 (sy_A NZ Y.2.1 sz) := by
  refine sy_metI (by decide) rfl (Nat.le_of_ble_eq_true rfl) ?_
  intro p e s m args below meth c C ls hl hh
  have hx := C.1.1
  have hb := C.1.2.1
  have hl : lv_has ls 3 [(0, .int a1), (1, .int a2), (2, .int a3)] := hl
  unfold wX12_within at hq
  refine lv_iload_n hx hb dX12_within_0 rfl (lv_at hl 0 rfl) ?_
  refine lv_iload_n hx hb dX12_within_1 rfl (lv_at hl 1 rfl) ?_
  refine lv_icmp_lt (tgt := 14) hx hb dX12_within_2 (by decide) (fun c1 => ?_) (fun c1 => ?_)
  · have hq := hq.1 c1
    refine lv_iconst (v := (0 : Int32)) hx hb dX12_within_14 (by decide) ?_
    exact sy_zret C hh dX12_within_15 (by decide) hq
  · have hq := hq.2 c1
    refine lv_iload_n hx hb dX12_within_5 rfl (lv_at hl 0 rfl) ?_
    refine lv_iload_n hx hb dX12_within_6 rfl (lv_at hl 2 rfl) ?_
    refine lv_icmp_gt (tgt := 14) hx hb dX12_within_7 (by decide) (fun c2 => ?_) (fun c2 => ?_)
    · have hq := hq.1 c2
      refine lv_iconst (v := (0 : Int32)) hx hb dX12_within_14 (by decide) ?_
      exact sy_zret C hh dX12_within_15 (by decide) hq
    · have hq := hq.2 c2
      refine lv_iconst (v := (1 : Int32)) hx hb dX12_within_10 (by decide) ?_
      refine lv_goto (tgt := 15) hx hb dX12_within_11 (by decide) ?_
      exact sy_zret C hh dX12_within_15 (by decide) hq

/-! AreaSetterModel.sheet(II)Z -/
def wX12_sheet (M : sy_M) (a1 : Int32) (a2 : Int32) (Q : Int32 → sy_M → Prop) : Prop := wX12_within (mu M 0 0 (0 : Int32)) a1 (1 : Int32) (nI 3000) (fun r2 M1 => ((r2 = 0 → Q (0 : Int32) M1) ∧ (¬ r2 = 0 → wX12_within M1 a2 (1 : Int32) (nI 3000) (fun r5 M4 => ((¬ r5 = 0 → Q (1 : Int32) (mu (mu M4 0 1 a1) 0 2 a2)) ∧ (r5 = 0 → Q (0 : Int32) M4))))))
section
variable {p : Program} {l : Launch} {e : Env} {s : State} {m : MethodId} {args : Array Value} {below : List Frame} {meth : Method} {c : Code} {Y : sy_Y}
end
set_option maxHeartbeats 4000000 in
set_option maxRecDepth 100000 in
theorem mX12_sheet (l : Launch) (Y : sy_Y) (sz : Nat) (M : sy_M) (a1 : Int32) (a2 : Int32) (Q : Int32 → sy_M → Prop) (hq : wX12_sheet M a1 a2 Q) : Met l yX12_sheet vsX12_sheet ({ frames := 1, cells := 0, slots := 0, locals := 22 } : Room) (va_Pc [.ref (Y.2.1 0), .int a1, .int a2] (sy_pre Y NZ EZ tfZ sz M)) (sy_QI Y NZ EZ sz Q) 0 0 (sy_A NZ Y.2.1 sz) := by
  refine sy_metI (by decide) rfl (Nat.le_of_ble_eq_true rfl) ?_
  intro p e s m args below meth c C ls hl hh
  have hx := C.1.1
  have hb := C.1.2.1
  have hl : lv_has ls 3 [(0, .ref (Y.2.1 0)), (1, .int a1), (2, .int a2)] := hl
  unfold wX12_sheet at hq
  refine lv_aload_n hx hb dX12_sheet_0 rfl (lv_at hl 0 rfl) ?_
  refine lv_iconst (v := (0 : Int32)) hx hb dX12_sheet_1 (by decide) ?_
  refine sy_put C hh (fun w h => mc (uZ_fX12 w h)) tyX12 tyX12_ok nmX12 0 (by decide) (oZ_0 Y) rfl 0 (by decide) (index := 1) (mc uZ_1) rfl 0 (0 : Int32) (ty := .int) (tyX12_ok 0 (by decide)) rfl rfl (Nat.le_of_ble_eq_true rfl) (pX12_0 Y _ _ _) dX12_sheet_2 (fun H locs hh => ?_)
  refine lv_iload_n hx hb dX12_sheet_5 rfl (lv_at hl 1 rfl) ?_
  refine lv_iconst (v := (1 : Int32)) hx hb dX12_sheet_6 (by decide) ?_
  refine lv_sipush (v := (nI 3000)) hx hb dX12_sheet_7 (by decide) ?_
  refine sy_cIS C hh (As := [.int a1, .int (1 : Int32), .int (nI 3000)]) (rest := []) (mX12_within l Y _ (mu M 0 0 (0 : Int32)) a1 (1 : Int32) (nI 3000) _ hq) (va_cwS 3 C.1.2.2.2.2 (sy_goodS uZ_good uZ_53 uZ_54 uZ_55 uZ_2 _) rfl rfl rfl hdX12_within.2 ⟨Nat.le_of_ble_eq_true rfl, Nat.le_of_ble_eq_true rfl⟩) rfl hl.1 rfl (Nat.le_of_ble_eq_true rfl) dX12_sheet_10 (fun r2 M1 H locs hq hh => ?_)
  refine lv_if_eq (tgt := 27) hx hb dX12_sheet_13 (by decide) (fun c3 => ?_) (fun c3 => ?_)
  · have hq := hq.1 c3
    refine lv_iconst (v := (0 : Int32)) hx hb dX12_sheet_27 (by decide) ?_
    exact sy_zret C hh dX12_sheet_28 (by decide) hq
  · have hq := hq.2 c3
    refine lv_iload_n hx hb dX12_sheet_16 rfl (lv_at hl 2 rfl) ?_
    refine lv_iconst (v := (1 : Int32)) hx hb dX12_sheet_17 (by decide) ?_
    refine lv_sipush (v := (nI 3000)) hx hb dX12_sheet_18 (by decide) ?_
    refine sy_cIS C hh (As := [.int a2, .int (1 : Int32), .int (nI 3000)]) (rest := []) (mX12_within l Y _ M1 a2 (1 : Int32) (nI 3000) _ hq) (va_cwS 3 C.1.2.2.2.2 (sy_goodS uZ_good uZ_53 uZ_54 uZ_55 uZ_2 _) rfl rfl rfl hdX12_within.2 ⟨Nat.le_of_ble_eq_true rfl, Nat.le_of_ble_eq_true rfl⟩) rfl hl.1 rfl (Nat.le_of_ble_eq_true rfl) dX12_sheet_21 (fun r5 M4 H locs hq hh => ?_)
    refine lv_if_ne (tgt := 29) hx hb dX12_sheet_24 (by decide) (fun c6 => ?_) (fun c6 => ?_)
    · have hq := hq.1 c6
      refine lv_aload_n hx hb dX12_sheet_29 rfl (lv_at hl 0 rfl) ?_
      refine lv_iload_n hx hb dX12_sheet_30 rfl (lv_at hl 1 rfl) ?_
      refine sy_put C hh (fun w h => mc (uZ_fX12 w h)) tyX12 tyX12_ok nmX12 0 (by decide) (oZ_0 Y) rfl 1 (by decide) (index := 13) (mc uZ_6) rfl 1 a1 (ty := .int) (tyX12_ok 1 (by decide)) rfl rfl (Nat.le_of_ble_eq_true rfl) (pX12_1 Y _ _ _) dX12_sheet_31 (fun H locs hh => ?_)
      refine lv_aload_n hx hb dX12_sheet_34 rfl (lv_at hl 0 rfl) ?_
      refine lv_iload_n hx hb dX12_sheet_35 rfl (lv_at hl 2 rfl) ?_
      refine sy_put C hh (fun w h => mc (uZ_fX12 w h)) tyX12 tyX12_ok nmX12 0 (by decide) (oZ_0 Y) rfl 2 (by decide) (index := 16) (mc uZ_7) rfl 2 a2 (ty := .int) (tyX12_ok 2 (by decide)) rfl rfl (Nat.le_of_ble_eq_true rfl) (pX12_2 Y _ _ _) dX12_sheet_36 (fun H locs hh => ?_)
      refine lv_iconst (v := (1 : Int32)) hx hb dX12_sheet_39 (by decide) ?_
      exact sy_zret C hh dX12_sheet_40 (by decide) hq
    · have hq := hq.2 c6
      refine lv_iconst (v := (0 : Int32)) hx hb dX12_sheet_27 (by decide) ?_
      exact sy_zret C hh dX12_sheet_28 (by decide) hq

/-! AreaSetterModel.price(I)Z -/
def wX12_price (M : sy_M) (a1 : Int32) (Q : Int32 → sy_M → Prop) : Prop := wX12_within (mu M 0 0 (0 : Int32)) a1 (0 : Int32) (nI 1000) (fun r2 M1 => ((¬ r2 = 0 → Q (1 : Int32) (mu M1 0 3 a1)) ∧ (r2 = 0 → Q (0 : Int32) M1)))
section
variable {p : Program} {l : Launch} {e : Env} {s : State} {m : MethodId} {args : Array Value} {below : List Frame} {meth : Method} {c : Code} {Y : sy_Y}
end
set_option maxHeartbeats 4000000 in
set_option maxRecDepth 100000 in
theorem mX12_price (l : Launch) (Y : sy_Y) (sz : Nat) (M : sy_M) (a1 : Int32) (Q : Int32 → sy_M → Prop) (hq : wX12_price M a1 Q) : Met l yX12_price vsX12_price ({ frames := 1, cells := 0, slots := 0, locals := 22 } : Room) (va_Pc [.ref (Y.2.1 0), .int a1] (sy_pre Y NZ EZ tfZ sz M)) (sy_QI Y NZ EZ sz Q) 0 0 (sy_A NZ Y.2.1 sz) := by
  refine sy_metI (by decide) rfl (Nat.le_of_ble_eq_true rfl) ?_
  intro p e s m args below meth c C ls hl hh
  have hx := C.1.1
  have hb := C.1.2.1
  have hl : lv_has ls 2 [(0, .ref (Y.2.1 0)), (1, .int a1)] := hl
  unfold wX12_price at hq
  refine lv_aload_n hx hb dX12_price_0 rfl (lv_at hl 0 rfl) ?_
  refine lv_iconst (v := (0 : Int32)) hx hb dX12_price_1 (by decide) ?_
  refine sy_put C hh (fun w h => mc (uZ_fX12 w h)) tyX12 tyX12_ok nmX12 0 (by decide) (oZ_0 Y) rfl 0 (by decide) (index := 1) (mc uZ_1) rfl 0 (0 : Int32) (ty := .int) (tyX12_ok 0 (by decide)) rfl rfl (Nat.le_of_ble_eq_true rfl) (pX12_0 Y _ _ _) dX12_price_2 (fun H locs hh => ?_)
  refine lv_iload_n hx hb dX12_price_5 rfl (lv_at hl 1 rfl) ?_
  refine lv_iconst (v := (0 : Int32)) hx hb dX12_price_6 (by decide) ?_
  refine lv_sipush (v := (nI 1000)) hx hb dX12_price_7 (by decide) ?_
  refine sy_cIS C hh (As := [.int a1, .int (0 : Int32), .int (nI 1000)]) (rest := []) (mX12_within l Y _ (mu M 0 0 (0 : Int32)) a1 (0 : Int32) (nI 1000) _ hq) (va_cwS 3 C.1.2.2.2.2 (sy_goodS uZ_good uZ_53 uZ_54 uZ_55 uZ_2 _) rfl rfl rfl hdX12_within.2 ⟨Nat.le_of_ble_eq_true rfl, Nat.le_of_ble_eq_true rfl⟩) rfl hl.1 rfl (Nat.le_of_ble_eq_true rfl) dX12_price_10 (fun r2 M1 H locs hq hh => ?_)
  refine lv_if_ne (tgt := 18) hx hb dX12_price_13 (by decide) (fun c3 => ?_) (fun c3 => ?_)
  · have hq := hq.1 c3
    refine lv_aload_n hx hb dX12_price_18 rfl (lv_at hl 0 rfl) ?_
    refine lv_iload_n hx hb dX12_price_19 rfl (lv_at hl 1 rfl) ?_
    refine sy_put C hh (fun w h => mc (uZ_fX12 w h)) tyX12 tyX12_ok nmX12 0 (by decide) (oZ_0 Y) rfl 3 (by decide) (index := 146) (mc uZ_57) rfl 3 a1 (ty := .int) (tyX12_ok 3 (by decide)) rfl rfl (Nat.le_of_ble_eq_true rfl) (pX12_3 Y _ _ _) dX12_price_20 (fun H locs hh => ?_)
    refine lv_iconst (v := (1 : Int32)) hx hb dX12_price_23 (by decide) ?_
    exact sy_zret C hh dX12_price_24 (by decide) hq
  · have hq := hq.2 c3
    refine lv_iconst (v := (0 : Int32)) hx hb dX12_price_16 (by decide) ?_
    exact sy_zret C hh dX12_price_17 (by decide) hq

/-! AreaSetterModel.feed(IIIII)I -/
def wX12_feed_76 (K_23 : sy_M → Int32 → Int32 → Int32 → Int32 → Int32 → Int32 → Prop) (Q : Int32 → sy_M → Prop) (M : sy_M) (x1 : Int32) (x2 : Int32) (x3 : Int32) (x4 : Int32) (x5 : Int32) (x6 : Int32) (s0 : Int32) : Prop := ∃ n7 : Nat, n7 < 1000 ∧ (M 0 5) = nI n7 ∧ K_23 (mu (mu M 1 n7 (vp_nar .byte ((s0 >>> (((nI 24) - ((nI 8) * (x6 - x6 / (nI 4) * (nI 4)))) &&& 31)).toInt8.toInt32))) 0 5 ((M 0 5) + (1 : Int32))) x1 x2 x3 x4 x5 (x6 + (1 : Int32))
def wX12_feed_23 (Q : Int32 → sy_M → Prop) : Nat → sy_M → Int32 → Int32 → Int32 → Int32 → Int32 → Int32 → Prop
  | 0, _, _, _, _, _, _, _ => False
  | n + 1, M, x1, x2, x3, x4, x5, x6 => (((nI 20) ≤ x6 → Q (M 0 5) M) ∧ (¬ (nI 20) ≤ x6 → (((nI 4) ≤ x6 → (((nI 8) ≤ x6 → (((nI 12) ≤ x6 → (((nI 16) ≤ x6 → wX12_feed_76 (fun (M8 : sy_M) (x1_9 : Int32) (x2_10 : Int32) (x3_11 : Int32) (x4_12 : Int32) (x5_13 : Int32) (x6_14 : Int32) => wX12_feed_23 Q n M8 x1_9 x2_10 x3_11 x4_12 x5_13 x6_14) Q M x1 x2 x3 x4 x5 x6 x5) ∧ (¬ (nI 16) ≤ x6 → wX12_feed_76 (fun (M15 : sy_M) (x1_16 : Int32) (x2_17 : Int32) (x3_18 : Int32) (x4_19 : Int32) (x5_20 : Int32) (x6_21 : Int32) => wX12_feed_23 Q n M15 x1_16 x2_17 x3_18 x4_19 x5_20 x6_21) Q M x1 x2 x3 x4 x5 x6 x4))) ∧ (¬ (nI 12) ≤ x6 → wX12_feed_76 (fun (M22 : sy_M) (x1_23 : Int32) (x2_24 : Int32) (x3_25 : Int32) (x4_26 : Int32) (x5_27 : Int32) (x6_28 : Int32) => wX12_feed_23 Q n M22 x1_23 x2_24 x3_25 x4_26 x5_27 x6_28) Q M x1 x2 x3 x4 x5 x6 x3))) ∧ (¬ (nI 8) ≤ x6 → wX12_feed_76 (fun (M29 : sy_M) (x1_30 : Int32) (x2_31 : Int32) (x3_32 : Int32) (x4_33 : Int32) (x5_34 : Int32) (x6_35 : Int32) => wX12_feed_23 Q n M29 x1_30 x2_31 x3_32 x4_33 x5_34 x6_35) Q M x1 x2 x3 x4 x5 x6 x2))) ∧ (¬ (nI 4) ≤ x6 → wX12_feed_76 (fun (M36 : sy_M) (x1_37 : Int32) (x2_38 : Int32) (x3_39 : Int32) (x4_40 : Int32) (x5_41 : Int32) (x6_42 : Int32) => wX12_feed_23 Q n M36 x1_37 x2_38 x3_39 x4_40 x5_41 x6_42) Q M x1 x2 x3 x4 x5 x6 x1))))
def wX12_feed (M : sy_M) (a1 : Int32) (a2 : Int32) (a3 : Int32) (a4 : Int32) (a5 : Int32) (Q : Int32 → sy_M → Prop) : Prop := ((((M 0 5) + (nI 20)) ≤ (nI 1000) → ∃ n43 : Nat, wX12_feed_23  Q n43 (mu M 0 0 (0 : Int32)) a1 a2 a3 a4 a5 (0 : Int32)) ∧ (¬ ((M 0 5) + (nI 20)) ≤ (nI 1000) → Q (-1 : Int32) (mu M 0 0 (0 : Int32))))
section
variable {p : Program} {l : Launch} {e : Env} {s : State} {m : MethodId} {args : Array Value} {below : List Frame} {meth : Method} {c : Code} {Y : sy_Y}
set_option maxHeartbeats 4000000 in
set_option maxRecDepth 100000 in
theorem kX12_feed_76 (C : sy_C p m c cX12_feed 8 s args vsX12_feed RX12 meth (some .int) Y NZ tfZ) {Q : Int32 → sy_M → Prop} {K_23 : sy_M → Int32 → Int32 → Int32 → Int32 → Int32 → Int32 → Prop} (hK_23 : ∀ (M : sy_M) (x1 : Int32) (x2 : Int32) (x3 : Int32) (x4 : Int32) (x5 : Int32) (x6 : Int32) (H : Heap) (locs : List Loc) (ls : Array Slot), K_23 M x1 x2 x3 x4 x5 x6 → sy_H Y NZ EZ s H locs M → lv_has ls 8 [(0, .ref (Y.2.1 0)), (1, .int x1), (2, .int x2), (3, .int x3), (4, .int x4), (5, .int x5), (6, .int x6)] → W p l e ({ frames := 0, cells := 0, slots := 0, locals := 0 } : Room) s m args below meth c H locs 0 0 (sy_ZI below args s Y NZ EZ Q) (F0 m 23 ls [])) :
    ∀ (M : sy_M) (x1 : Int32) (x2 : Int32) (x3 : Int32) (x4 : Int32) (x5 : Int32) (x6 : Int32) (s0 : Int32) (H : Heap) (locs : List Loc) (ls : Array Slot), wX12_feed_76 K_23 Q M x1 x2 x3 x4 x5 x6 s0 → sy_H Y NZ EZ s H locs M → lv_has ls 8 [(0, .ref (Y.2.1 0)), (1, .int x1), (2, .int x2), (3, .int x3), (4, .int x4), (5, .int x5), (6, .int x6)] → W p l e ({ frames := 0, cells := 0, slots := 0, locals := 0 } : Room) s m args below meth c H locs 0 0 (sy_ZI below args s Y NZ EZ Q) (F0 m 76 ls [.int s0]) := by
  have hx := C.1.1
  have hb := C.1.2.1
  intro M x1 x2 x3 x4 x5 x6 s0 H locs ls hq hh hl
  unfold wX12_feed_76 at hq
  refine lv_istore (lv' := [(7, .int s0), (0, .ref (Y.2.1 0)), (1, .int x1), (2, .int x2), (3, .int x3), (4, .int x4), (5, .int x5), (6, .int x6)]) hx hb dX12_feed_76 hl (by decide) rfl (fun ls hl => ?_)
  refine lv_aload_n hx hb dX12_feed_78 rfl (lv_at hl 1 rfl) ?_
  refine sy_get C hh (fun w h => mc (uZ_fX12 w h)) 0 (by decide) (oZ_0 Y) rfl 4 (by decide) (index := 19) (mc uZ_9) (v := .ref (Y.2.1 1)) rfl dX12_feed_79 ?_
  refine lv_aload_n hx hb dX12_feed_82 rfl (lv_at hl 1 rfl) ?_
  refine sy_get C hh (fun w h => mc (uZ_fX12 w h)) 0 (by decide) (oZ_0 Y) rfl 5 (by decide) (index := 149) (mc uZ_59) (v := .int (M 0 5)) rfl dX12_feed_83 ?_
  refine lv_iload hx hb dX12_feed_86 (lv_at hl 0 rfl) ?_
  refine lv_bipush (v := (nI 24)) hx hb dX12_feed_88 (by decide) ?_
  refine lv_bipush (v := (nI 8)) hx hb dX12_feed_90 (by decide) ?_
  refine lv_iload hx hb dX12_feed_92 (lv_at hl 7 rfl) ?_
  refine lv_iconst (v := (nI 4)) hx hb dX12_feed_94 (by decide) ?_
  refine lv_irem hx hb dX12_feed_95 (by decide) ?_
  refine lv_imul hx hb dX12_feed_96 ?_
  refine lv_isub hx hb dX12_feed_97 ?_
  refine lv_ishr hx hb dX12_feed_98 ?_
  refine lv_i2b (v := ((s0 >>> (((nI 24) - ((nI 8) * (x6 - x6 / (nI 4) * (nI 4)))) &&& 31)).toInt8.toInt32)) hx hb dX12_feed_99 rfl ?_
  obtain ⟨n7, hn7, en7, hq⟩ := hq
  refine sy_bast C hh 1 (by decide) (aZ_1 Y) tZ_1 hn7 en7 (by decide) dX12_feed_100 (fun H locs hh => ?_)
  refine lv_aload_n hx hb dX12_feed_101 rfl (lv_at hl 1 rfl) ?_
  refine lv_dup hx hb dX12_feed_102 rfl ?_
  refine sy_get C hh (fun w h => mc (uZ_fX12 w h)) 0 (by decide) (oZ_0 Y) rfl 5 (by decide) (index := 149) (mc uZ_59) (v := .int (M 0 5)) rfl dX12_feed_103 ?_
  refine lv_iconst (v := (1 : Int32)) hx hb dX12_feed_106 (by decide) ?_
  refine lv_iadd hx hb dX12_feed_107 ?_
  refine sy_put C hh (fun w h => mc (uZ_fX12 w h)) tyX12 tyX12_ok nmX12 0 (by decide) (oZ_0 Y) rfl 5 (by decide) (index := 149) (mc uZ_59) rfl 5 ((M 0 5) + (1 : Int32)) (ty := .int) (tyX12_ok 5 (by decide)) rfl rfl (Nat.le_of_ble_eq_true rfl) (pX12_5 Y _ _ _) dX12_feed_108 (fun H locs hh => ?_)
  refine lv_iinc (v := (x6 + (1 : Int32))) (lv' := [(6, .int (x6 + (1 : Int32))), (7, .int s0), (0, .ref (Y.2.1 0)), (1, .int x1), (2, .int x2), (3, .int x3), (4, .int x4), (5, .int x5)]) hx hb dX12_feed_111 hl (k := 7) rfl (sy_inc (by decide)) (by decide) rfl (fun ls hl => ?_)
  refine lv_goto (tgt := 23) hx hb dX12_feed_114 (by decide) ?_
  exact hK_23 (mu (mu M 1 n7 (vp_nar .byte ((s0 >>> (((nI 24) - ((nI 8) * (x6 - x6 / (nI 4) * (nI 4)))) &&& 31)).toInt8.toInt32))) 0 5 ((M 0 5) + (1 : Int32))) x1 x2 x3 x4 x5 (x6 + (1 : Int32)) _ _ _ hq hh (lv_sub hl [2, 3, 4, 5, 6, 7, 0] rfl)

set_option maxHeartbeats 4000000 in
set_option maxRecDepth 100000 in
theorem kX12_feed_23 (C : sy_C p m c cX12_feed 8 s args vsX12_feed RX12 meth (some .int) Y NZ tfZ) {Q : Int32 → sy_M → Prop} :
    ∀ (n : Nat) (M : sy_M) (x1 : Int32) (x2 : Int32) (x3 : Int32) (x4 : Int32) (x5 : Int32) (x6 : Int32) (H : Heap) (locs : List Loc) (ls : Array Slot), wX12_feed_23 Q n M x1 x2 x3 x4 x5 x6 → sy_H Y NZ EZ s H locs M → lv_has ls 8 [(0, .ref (Y.2.1 0)), (1, .int x1), (2, .int x2), (3, .int x3), (4, .int x4), (5, .int x5), (6, .int x6)] → W p l e ({ frames := 0, cells := 0, slots := 0, locals := 0 } : Room) s m args below meth c H locs 0 0 (sy_ZI below args s Y NZ EZ Q) (F0 m 23 ls []) := by
  have hx := C.1.1
  have hb := C.1.2.1
  intro n
  induction n with
  | zero =>
    intro M x1 x2 x3 x4 x5 x6 H locs ls hq hh hl
    unfold wX12_feed_23 at hq
    exact hq.elim
  | succ n ih =>
    intro M x1 x2 x3 x4 x5 x6 H locs ls hq hh hl
    unfold wX12_feed_23 at hq
    refine lv_iload hx hb dX12_feed_23 (lv_at hl 6 rfl) ?_
    refine lv_bipush (v := (nI 20)) hx hb dX12_feed_25 (by decide) ?_
    refine lv_icmp_ge (tgt := 117) hx hb dX12_feed_27 (by decide) (fun c2 => ?_) (fun c2 => ?_)
    · have hq := hq.1 c2
      refine lv_aload_n hx hb dX12_feed_117 rfl (lv_at hl 0 rfl) ?_
      refine sy_get C hh (fun w h => mc (uZ_fX12 w h)) 0 (by decide) (oZ_0 Y) rfl 5 (by decide) (index := 149) (mc uZ_59) (v := .int (M 0 5)) rfl dX12_feed_118 ?_
      exact sy_iret C hh dX12_feed_121 hq
    · have hq := hq.2 c2
      refine lv_iload hx hb dX12_feed_30 (lv_at hl 6 rfl) ?_
      refine lv_iconst (v := (nI 4)) hx hb dX12_feed_32 (by decide) ?_
      refine lv_icmp_ge (tgt := 40) hx hb dX12_feed_33 (by decide) (fun c3 => ?_) (fun c3 => ?_)
      · have hq := hq.1 c3
        refine lv_iload hx hb dX12_feed_40 (lv_at hl 6 rfl) ?_
        refine lv_bipush (v := (nI 8)) hx hb dX12_feed_42 (by decide) ?_
        refine lv_icmp_ge (tgt := 51) hx hb dX12_feed_44 (by decide) (fun c4 => ?_) (fun c4 => ?_)
        · have hq := hq.1 c4
          refine lv_iload hx hb dX12_feed_51 (lv_at hl 6 rfl) ?_
          refine lv_bipush (v := (nI 12)) hx hb dX12_feed_53 (by decide) ?_
          refine lv_icmp_ge (tgt := 62) hx hb dX12_feed_55 (by decide) (fun c5 => ?_) (fun c5 => ?_)
          · have hq := hq.1 c5
            refine lv_iload hx hb dX12_feed_62 (lv_at hl 6 rfl) ?_
            refine lv_bipush (v := (nI 16)) hx hb dX12_feed_64 (by decide) ?_
            refine lv_icmp_ge (tgt := 74) hx hb dX12_feed_66 (by decide) (fun c6 => ?_) (fun c6 => ?_)
            · have hq := hq.1 c6
              refine lv_iload hx hb dX12_feed_74 (lv_at hl 5 rfl) ?_
              refine kX12_feed_76 C (fun M8 x1_9 x2_10 x3_11 x4_12 x5_13 x6_14 H locs ls hq hh hl => ?_) M x1 x2 x3 x4 x5 x6 x5 _ _ _ hq hh (lv_sub hl [0, 1, 2, 3, 4, 5, 6] rfl)
              · exact ih M8 x1_9 x2_10 x3_11 x4_12 x5_13 x6_14 _ _ _ hq hh (lv_sub hl [0, 1, 2, 3, 4, 5, 6] rfl)
            · have hq := hq.2 c6
              refine lv_iload hx hb dX12_feed_69 (lv_at hl 4 rfl) ?_
              refine lv_goto (tgt := 76) hx hb dX12_feed_71 (by decide) ?_
              refine kX12_feed_76 C (fun M15 x1_16 x2_17 x3_18 x4_19 x5_20 x6_21 H locs ls hq hh hl => ?_) M x1 x2 x3 x4 x5 x6 x4 _ _ _ hq hh (lv_sub hl [0, 1, 2, 3, 4, 5, 6] rfl)
              · exact ih M15 x1_16 x2_17 x3_18 x4_19 x5_20 x6_21 _ _ _ hq hh (lv_sub hl [0, 1, 2, 3, 4, 5, 6] rfl)
          · have hq := hq.2 c5
            refine lv_iload_n hx hb dX12_feed_58 rfl (lv_at hl 3 rfl) ?_
            refine lv_goto (tgt := 76) hx hb dX12_feed_59 (by decide) ?_
            refine kX12_feed_76 C (fun M22 x1_23 x2_24 x3_25 x4_26 x5_27 x6_28 H locs ls hq hh hl => ?_) M x1 x2 x3 x4 x5 x6 x3 _ _ _ hq hh (lv_sub hl [0, 1, 2, 3, 4, 5, 6] rfl)
            · exact ih M22 x1_23 x2_24 x3_25 x4_26 x5_27 x6_28 _ _ _ hq hh (lv_sub hl [0, 1, 2, 3, 4, 5, 6] rfl)
        · have hq := hq.2 c4
          refine lv_iload_n hx hb dX12_feed_47 rfl (lv_at hl 2 rfl) ?_
          refine lv_goto (tgt := 76) hx hb dX12_feed_48 (by decide) ?_
          refine kX12_feed_76 C (fun M29 x1_30 x2_31 x3_32 x4_33 x5_34 x6_35 H locs ls hq hh hl => ?_) M x1 x2 x3 x4 x5 x6 x2 _ _ _ hq hh (lv_sub hl [0, 1, 2, 3, 4, 5, 6] rfl)
          · exact ih M29 x1_30 x2_31 x3_32 x4_33 x5_34 x6_35 _ _ _ hq hh (lv_sub hl [0, 1, 2, 3, 4, 5, 6] rfl)
      · have hq := hq.2 c3
        refine lv_iload_n hx hb dX12_feed_36 rfl (lv_at hl 1 rfl) ?_
        refine lv_goto (tgt := 76) hx hb dX12_feed_37 (by decide) ?_
        refine kX12_feed_76 C (fun M36 x1_37 x2_38 x3_39 x4_40 x5_41 x6_42 H locs ls hq hh hl => ?_) M x1 x2 x3 x4 x5 x6 x1 _ _ _ hq hh (lv_sub hl [0, 1, 2, 3, 4, 5, 6] rfl)
        · exact ih M36 x1_37 x2_38 x3_39 x4_40 x5_41 x6_42 _ _ _ hq hh (lv_sub hl [0, 1, 2, 3, 4, 5, 6] rfl)

end
set_option maxHeartbeats 4000000 in
set_option maxRecDepth 100000 in
theorem mX12_feed (l : Launch) (Y : sy_Y) (sz : Nat) (M : sy_M) (a1 : Int32) (a2 : Int32) (a3 : Int32) (a4 : Int32) (a5 : Int32) (Q : Int32 → sy_M → Prop) (hq : wX12_feed M a1 a2 a3 a4 a5 Q) : Met l yX12_feed vsX12_feed ({ frames := 0, cells := 0, slots := 0, locals := 0 } : Room) (va_Pc [.ref (Y.2.1 0), .int a1, .int a2, .int a3, .int a4, .int a5] (sy_pre Y NZ EZ tfZ sz M)) (sy_QI Y NZ EZ sz Q) 0 0 (sy_A NZ Y.2.1 sz) := by
  refine sy_metI (by decide) rfl (Nat.le_of_ble_eq_true rfl) ?_
  intro p e s m args below meth c C ls hl hh
  have hx := C.1.1
  have hb := C.1.2.1
  have hl : lv_has ls 8 [(0, .ref (Y.2.1 0)), (1, .int a1), (2, .int a2), (3, .int a3), (4, .int a4), (5, .int a5)] := hl
  unfold wX12_feed at hq
  refine lv_aload_n hx hb dX12_feed_0 rfl (lv_at hl 0 rfl) ?_
  refine lv_iconst (v := (0 : Int32)) hx hb dX12_feed_1 (by decide) ?_
  refine sy_put C hh (fun w h => mc (uZ_fX12 w h)) tyX12 tyX12_ok nmX12 0 (by decide) (oZ_0 Y) rfl 0 (by decide) (index := 1) (mc uZ_1) rfl 0 (0 : Int32) (ty := .int) (tyX12_ok 0 (by decide)) rfl rfl (Nat.le_of_ble_eq_true rfl) (pX12_0 Y _ _ _) dX12_feed_2 (fun H locs hh => ?_)
  refine lv_aload_n hx hb dX12_feed_5 rfl (lv_at hl 0 rfl) ?_
  refine sy_get C hh (fun w h => mc (uZ_fX12 w h)) 0 (by decide) (oZ_0 Y) rfl 5 (by decide) (index := 149) (mc uZ_59) (v := .int (M 0 5)) rfl dX12_feed_6 ?_
  refine lv_bipush (v := (nI 20)) hx hb dX12_feed_9 (by decide) ?_
  refine lv_iadd hx hb dX12_feed_11 ?_
  refine lv_sipush (v := (nI 1000)) hx hb dX12_feed_12 (by decide) ?_
  refine lv_icmp_le (tgt := 20) hx hb dX12_feed_15 (by decide) (fun c1 => ?_) (fun c1 => ?_)
  · have hq := hq.1 c1
    refine lv_iconst (v := (0 : Int32)) hx hb dX12_feed_20 (by decide) ?_
    refine lv_istore (lv' := [(6, .int (0 : Int32)), (0, .ref (Y.2.1 0)), (1, .int a1), (2, .int a2), (3, .int a3), (4, .int a4), (5, .int a5)]) hx hb dX12_feed_21 hl (by decide) rfl (fun ls hl => ?_)
    obtain ⟨n43, hq⟩ := hq
    refine kX12_feed_23 C  n43 (mu M 0 0 (0 : Int32)) a1 a2 a3 a4 a5 (0 : Int32) _ _ _ hq hh (lv_sub hl [1, 2, 3, 4, 5, 6, 0] rfl)
  · have hq := hq.2 c1
    refine lv_iconst (v := (-1 : Int32)) hx hb dX12_feed_18 (by decide) ?_
    exact sy_iret C hh dX12_feed_19 hq

/-! AreaSetterModel.end(I)I -/
def wX12_end (M : sy_M) (a1 : Int32) (Q : Int32 → sy_M → Prop) : Prop := ((a1 < 0 → Q (-1 : Int32) (mu M 0 0 (0 : Int32))) ∧ (¬ a1 < 0 → ((a1 ≤ (M 0 5) → Q a1 (mu (mu M 0 0 (0 : Int32)) 0 5 a1)) ∧ (¬ a1 ≤ (M 0 5) → Q (-1 : Int32) (mu M 0 0 (0 : Int32))))))
section
variable {p : Program} {l : Launch} {e : Env} {s : State} {m : MethodId} {args : Array Value} {below : List Frame} {meth : Method} {c : Code} {Y : sy_Y}
end
set_option maxHeartbeats 4000000 in
set_option maxRecDepth 100000 in
theorem mX12_end (l : Launch) (Y : sy_Y) (sz : Nat) (M : sy_M) (a1 : Int32) (Q : Int32 → sy_M → Prop) (hq : wX12_end M a1 Q) : Met l yX12_end vsX12_end ({ frames := 0, cells := 0, slots := 0, locals := 0 } : Room) (va_Pc [.ref (Y.2.1 0), .int a1] (sy_pre Y NZ EZ tfZ sz M)) (sy_QI Y NZ EZ sz Q) 0 0 (sy_A NZ Y.2.1 sz) := by
  refine sy_metI (by decide) rfl (Nat.le_of_ble_eq_true rfl) ?_
  intro p e s m args below meth c C ls hl hh
  have hx := C.1.1
  have hb := C.1.2.1
  have hl : lv_has ls 2 [(0, .ref (Y.2.1 0)), (1, .int a1)] := hl
  unfold wX12_end at hq
  refine lv_aload_n hx hb dX12_end_0 rfl (lv_at hl 0 rfl) ?_
  refine lv_iconst (v := (0 : Int32)) hx hb dX12_end_1 (by decide) ?_
  refine sy_put C hh (fun w h => mc (uZ_fX12 w h)) tyX12 tyX12_ok nmX12 0 (by decide) (oZ_0 Y) rfl 0 (by decide) (index := 1) (mc uZ_1) rfl 0 (0 : Int32) (ty := .int) (tyX12_ok 0 (by decide)) rfl rfl (Nat.le_of_ble_eq_true rfl) (pX12_0 Y _ _ _) dX12_end_2 (fun H locs hh => ?_)
  refine lv_iload_n hx hb dX12_end_5 rfl (lv_at hl 1 rfl) ?_
  refine lv_if_lt (tgt := 17) hx hb dX12_end_6 (by decide) (fun c1 => ?_) (fun c1 => ?_)
  · have hq := hq.1 c1
    refine lv_iconst (v := (-1 : Int32)) hx hb dX12_end_17 (by decide) ?_
    exact sy_iret C hh dX12_end_18 hq
  · have hq := hq.2 c1
    refine lv_iload_n hx hb dX12_end_9 rfl (lv_at hl 1 rfl) ?_
    refine lv_aload_n hx hb dX12_end_10 rfl (lv_at hl 0 rfl) ?_
    refine sy_get C hh (fun w h => mc (uZ_fX12 w h)) 0 (by decide) (oZ_0 Y) rfl 5 (by decide) (index := 149) (mc uZ_59) (v := .int (M 0 5)) rfl dX12_end_11 ?_
    refine lv_icmp_le (tgt := 19) hx hb dX12_end_14 (by decide) (fun c2 => ?_) (fun c2 => ?_)
    · have hq := hq.1 c2
      refine lv_aload_n hx hb dX12_end_19 rfl (lv_at hl 0 rfl) ?_
      refine lv_iload_n hx hb dX12_end_20 rfl (lv_at hl 1 rfl) ?_
      refine sy_put C hh (fun w h => mc (uZ_fX12 w h)) tyX12 tyX12_ok nmX12 0 (by decide) (oZ_0 Y) rfl 5 (by decide) (index := 149) (mc uZ_59) rfl 5 a1 (ty := .int) (tyX12_ok 5 (by decide)) rfl rfl (Nat.le_of_ble_eq_true rfl) (pX12_5 Y _ _ _) dX12_end_21 (fun H locs hh => ?_)
      refine lv_iload_n hx hb dX12_end_24 rfl (lv_at hl 1 rfl) ?_
      exact sy_iret C hh dX12_end_25 hq
    · have hq := hq.2 c2
      refine lv_iconst (v := (-1 : Int32)) hx hb dX12_end_17 (by decide) ?_
      exact sy_iret C hh dX12_end_18 hq

/-! AreaSetterModel.see(I)I -/
def wX12_see (M : sy_M) (a1 : Int32) (Q : Int32 → sy_M → Prop) : Prop := (((M 0 5) ≤ a1 → Q (0 : Int32) M) ∧ (¬ (M 0 5) ≤ a1 → ∃ n2 : Nat, n2 < 1000 ∧ a1 = nI n2 ∧ Q (M 1 n2) M))
section
variable {p : Program} {l : Launch} {e : Env} {s : State} {m : MethodId} {args : Array Value} {below : List Frame} {meth : Method} {c : Code} {Y : sy_Y}
end
set_option maxHeartbeats 4000000 in
set_option maxRecDepth 100000 in
theorem mX12_see (l : Launch) (Y : sy_Y) (sz : Nat) (M : sy_M) (a1 : Int32) (Q : Int32 → sy_M → Prop) (hq : wX12_see M a1 Q) : Met l yX12_see vsX12_see ({ frames := 0, cells := 0, slots := 0, locals := 0 } : Room) (va_Pc [.ref (Y.2.1 0), .int a1] (sy_pre Y NZ EZ tfZ sz M)) (sy_QI Y NZ EZ sz Q) 0 0 (sy_A NZ Y.2.1 sz) := by
  refine sy_metI (by decide) rfl (Nat.le_of_ble_eq_true rfl) ?_
  intro p e s m args below meth c C ls hl hh
  have hx := C.1.1
  have hb := C.1.2.1
  have hl : lv_has ls 2 [(0, .ref (Y.2.1 0)), (1, .int a1)] := hl
  unfold wX12_see at hq
  refine lv_iload_n hx hb dX12_see_0 rfl (lv_at hl 1 rfl) ?_
  refine lv_aload_n hx hb dX12_see_1 rfl (lv_at hl 0 rfl) ?_
  refine sy_get C hh (fun w h => mc (uZ_fX12 w h)) 0 (by decide) (oZ_0 Y) rfl 5 (by decide) (index := 149) (mc uZ_59) (v := .int (M 0 5)) rfl dX12_see_2 ?_
  refine lv_icmp_ge (tgt := 17) hx hb dX12_see_5 (by decide) (fun c1 => ?_) (fun c1 => ?_)
  · have hq := hq.1 c1
    refine lv_iconst (v := (0 : Int32)) hx hb dX12_see_17 (by decide) ?_
    exact sy_iret C hh dX12_see_18 hq
  · have hq := hq.2 c1
    refine lv_aload_n hx hb dX12_see_8 rfl (lv_at hl 0 rfl) ?_
    refine sy_get C hh (fun w h => mc (uZ_fX12 w h)) 0 (by decide) (oZ_0 Y) rfl 4 (by decide) (index := 19) (mc uZ_9) (v := .ref (Y.2.1 1)) rfl dX12_see_9 ?_
    refine lv_iload_n hx hb dX12_see_12 rfl (lv_at hl 1 rfl) ?_
    obtain ⟨n2, hn2, en2, hq⟩ := hq
    refine sy_bald C hh 1 (by decide) (aZ_1 Y) tZ_1 hn2 en2 (by decide) dX12_see_13 ?_
    refine lv_goto (tgt := 18) hx hb dX12_see_14 (by decide) ?_
    exact sy_iret C hh dX12_see_18 hq

/-! AreaSetterModel.isSmall(I)Z -/
def wX12_isSmall (M : sy_M) (a1 : Int32) (Q : Int32 → sy_M → Prop) : Prop := ((a1 < (nI 97) → Q (0 : Int32) M) ∧ (¬ a1 < (nI 97) → (((nI 122) < a1 → Q (0 : Int32) M) ∧ (¬ (nI 122) < a1 → Q (1 : Int32) M))))
section
variable {p : Program} {l : Launch} {e : Env} {s : State} {m : MethodId} {args : Array Value} {below : List Frame} {meth : Method} {c : Code} {Y : sy_Y}
end
set_option maxHeartbeats 4000000 in
set_option maxRecDepth 100000 in
theorem mX12_isSmall (l : Launch) (Y : sy_Y) (sz : Nat) (M : sy_M) (a1 : Int32) (Q : Int32 → sy_M → Prop) (hq : wX12_isSmall M a1 Q) : Met l yX12_isSmall vsX12_isSmall ({ frames := 0, cells := 0, slots := 0, locals := 0 } : Room) (va_Pc [.int a1] (sy_pre Y NZ EZ tfZ sz M)) (sy_QI Y NZ EZ sz Q) 0 0 (sy_A NZ Y.2.1 sz) := by
  refine sy_metI (by decide) rfl (Nat.le_of_ble_eq_true rfl) ?_
  intro p e s m args below meth c C ls hl hh
  have hx := C.1.1
  have hb := C.1.2.1
  have hl : lv_has ls 1 [(0, .int a1)] := hl
  unfold wX12_isSmall at hq
  refine lv_iload_n hx hb dX12_isSmall_0 rfl (lv_at hl 0 rfl) ?_
  refine lv_bipush (v := (nI 97)) hx hb dX12_isSmall_1 (by decide) ?_
  refine lv_icmp_lt (tgt := 16) hx hb dX12_isSmall_3 (by decide) (fun c1 => ?_) (fun c1 => ?_)
  · have hq := hq.1 c1
    refine lv_iconst (v := (0 : Int32)) hx hb dX12_isSmall_16 (by decide) ?_
    exact sy_zret C hh dX12_isSmall_17 (by decide) hq
  · have hq := hq.2 c1
    refine lv_iload_n hx hb dX12_isSmall_6 rfl (lv_at hl 0 rfl) ?_
    refine lv_bipush (v := (nI 122)) hx hb dX12_isSmall_7 (by decide) ?_
    refine lv_icmp_gt (tgt := 16) hx hb dX12_isSmall_9 (by decide) (fun c2 => ?_) (fun c2 => ?_)
    · have hq := hq.1 c2
      refine lv_iconst (v := (0 : Int32)) hx hb dX12_isSmall_16 (by decide) ?_
      exact sy_zret C hh dX12_isSmall_17 (by decide) hq
    · have hq := hq.2 c2
      refine lv_iconst (v := (1 : Int32)) hx hb dX12_isSmall_12 (by decide) ?_
      refine lv_goto (tgt := 17) hx hb dX12_isSmall_13 (by decide) ?_
      exact sy_zret C hh dX12_isSmall_17 (by decide) hq

/-! AreaSetterModel.isDigit(I)Z -/
def wX12_isDigit (M : sy_M) (a1 : Int32) (Q : Int32 → sy_M → Prop) : Prop := ((a1 < (nI 48) → Q (0 : Int32) M) ∧ (¬ a1 < (nI 48) → (((nI 57) < a1 → Q (0 : Int32) M) ∧ (¬ (nI 57) < a1 → Q (1 : Int32) M))))
section
variable {p : Program} {l : Launch} {e : Env} {s : State} {m : MethodId} {args : Array Value} {below : List Frame} {meth : Method} {c : Code} {Y : sy_Y}
end
set_option maxHeartbeats 4000000 in
set_option maxRecDepth 100000 in
theorem mX12_isDigit (l : Launch) (Y : sy_Y) (sz : Nat) (M : sy_M) (a1 : Int32) (Q : Int32 → sy_M → Prop) (hq : wX12_isDigit M a1 Q) : Met l yX12_isDigit vsX12_isDigit ({ frames := 0, cells := 0, slots := 0, locals := 0 } : Room) (va_Pc [.int a1] (sy_pre Y NZ EZ tfZ sz M)) (sy_QI Y NZ EZ sz Q) 0 0 (sy_A NZ Y.2.1 sz) := by
  refine sy_metI (by decide) rfl (Nat.le_of_ble_eq_true rfl) ?_
  intro p e s m args below meth c C ls hl hh
  have hx := C.1.1
  have hb := C.1.2.1
  have hl : lv_has ls 1 [(0, .int a1)] := hl
  unfold wX12_isDigit at hq
  refine lv_iload_n hx hb dX12_isDigit_0 rfl (lv_at hl 0 rfl) ?_
  refine lv_bipush (v := (nI 48)) hx hb dX12_isDigit_1 (by decide) ?_
  refine lv_icmp_lt (tgt := 16) hx hb dX12_isDigit_3 (by decide) (fun c1 => ?_) (fun c1 => ?_)
  · have hq := hq.1 c1
    refine lv_iconst (v := (0 : Int32)) hx hb dX12_isDigit_16 (by decide) ?_
    exact sy_zret C hh dX12_isDigit_17 (by decide) hq
  · have hq := hq.2 c1
    refine lv_iload_n hx hb dX12_isDigit_6 rfl (lv_at hl 0 rfl) ?_
    refine lv_bipush (v := (nI 57)) hx hb dX12_isDigit_7 (by decide) ?_
    refine lv_icmp_gt (tgt := 16) hx hb dX12_isDigit_9 (by decide) (fun c2 => ?_) (fun c2 => ?_)
    · have hq := hq.1 c2
      refine lv_iconst (v := (0 : Int32)) hx hb dX12_isDigit_16 (by decide) ?_
      exact sy_zret C hh dX12_isDigit_17 (by decide) hq
    · have hq := hq.2 c2
      refine lv_iconst (v := (1 : Int32)) hx hb dX12_isDigit_12 (by decide) ?_
      refine lv_goto (tgt := 17) hx hb dX12_isDigit_13 (by decide) ?_
      exact sy_zret C hh dX12_isDigit_17 (by decide) hq

/-! AreaSetterModel.next()V -/
def wX12_next_39 (K_0 : sy_M → Prop) (Q : sy_M → Prop) (M : sy_M) : Prop := K_0 (mu M 0 6 ((M 0 6) + (1 : Int32)))
def wX12_next_0 (K_52 : sy_M → Prop) (Q : sy_M → Prop) : Nat → sy_M → Prop
  | 0, _ => False
  | n + 1, M => (((M 0 5) ≤ (M 0 6) → K_52 M) ∧ (¬ (M 0 5) ≤ (M 0 6) → ∃ n2 : Nat, n2 < 1000 ∧ (M 0 6) = nI n2 ∧ (((M 1 n2) = (nI 32) → wX12_next_39 (fun (M4 : sy_M) => wX12_next_0 K_52 Q n M4) Q M) ∧ (¬ (M 1 n2) = (nI 32) → ((¬ (M 1 n2) = (nI 10) → K_52 M) ∧ ((M 1 n2) = (nI 10) → wX12_next_39 (fun (M6 : sy_M) => wX12_next_0 K_52 Q n M6) Q M))))))
def wX12_next_223 (K_172 : sy_M → Prop) (Q : sy_M → Prop) (M : sy_M) : Prop := K_172 (mu M 0 6 ((M 0 6) + (1 : Int32)))
def wX12_next_172 (K_236 : sy_M → Prop) (Q : sy_M → Prop) : Nat → sy_M → Prop
  | 0, _ => False
  | n + 1, M => wX12_see M (M 0 6) (fun r20 M19 => wX12_isDigit M19 r20 (fun r22 M21 => ((r22 = 0 → K_236 M21) ∧ (¬ r22 = 0 → (((nI 6) ≤ ((M21 0 6) - (M21 0 7)) → wX12_next_223 (fun (M25 : sy_M) => wX12_next_172 K_236 Q n M25) Q M21) ∧ (¬ (nI 6) ≤ ((M21 0 6) - (M21 0 7)) → wX12_see M21 (M21 0 6) (fun r27 M26 => wX12_next_223 (fun (M28 : sy_M) => wX12_next_172 K_236 Q n M28) Q (mu M26 0 9 ((((nI 10) * (M21 0 9)) + r27) - (nI 48))))))))))
def wX12_next_104 (K_131 : sy_M → Prop) (Q : sy_M → Prop) : Nat → sy_M → Prop
  | 0, _ => False
  | n + 1, M => wX12_see M (M 0 6) (fun r33 M32 => wX12_isSmall M32 r33 (fun r35 M34 => ((r35 = 0 → K_131 M34) ∧ (¬ r35 = 0 → wX12_next_104 K_131 Q n (mu M34 0 6 ((M34 0 6) + (1 : Int32)))))))
def wX12_next_52 (Q : sy_M → Prop) (M : sy_M) : Prop := (((M 0 6) < (M 0 5) → ∃ n9 : Nat, n9 < 1000 ∧ (M 0 6) = nI n9 ∧ wX12_isSmall (mu (mu M 0 7 (M 0 6)) 0 6 ((M 0 6) + (1 : Int32))) (M 1 n9) (fun r11 M10 => ((r11 = 0 → wX12_isDigit M10 (M 1 n9) (fun r14 M13 => ((r14 = 0 → (((M 1 n9) = (nI 40) → Q (mu (mu M13 0 9 (M 1 n9)) 0 8 (nI 4))) ∧ (¬ (M 1 n9) = (nI 40) → (((M 1 n9) = (nI 41) → Q (mu (mu M13 0 9 (M 1 n9)) 0 8 (nI 4))) ∧ (¬ (M 1 n9) = (nI 41) → ((¬ (M 1 n9) = (nI 44) → Q (mu (mu M13 0 9 (M 1 n9)) 0 8 (1 : Int32))) ∧ ((M 1 n9) = (nI 44) → Q (mu (mu M13 0 9 (M 1 n9)) 0 8 (nI 4))))))))) ∧ (¬ r14 = 0 → ∃ n31 : Nat, wX12_next_172 (fun (M29 : sy_M) => ((((M29 0 6) - (M29 0 7)) ≤ (nI 6) → Q (mu M29 0 8 (nI 2))) ∧ (¬ ((M29 0 6) - (M29 0 7)) ≤ (nI 6) → Q (mu M29 0 8 (1 : Int32))))) Q n31 (mu M13 0 9 ((M 1 n9) - (nI 48))))))) ∧ (¬ r11 = 0 → ∃ n39 : Nat, wX12_next_104 (fun (M37 : sy_M) => ((((M37 0 6) - (M37 0 7)) ≤ (nI 8) → Q (mu M37 0 8 (nI 3))) ∧ (¬ ((M37 0 6) - (M37 0 7)) ≤ (nI 8) → Q (mu M37 0 8 (1 : Int32))))) Q n39 M10)))) ∧ (¬ (M 0 6) < (M 0 5) → Q (mu (mu M 0 7 (M 0 6)) 0 8 (0 : Int32))))
def wX12_next (M : sy_M)  (Q : sy_M → Prop) : Prop := ∃ n40 : Nat, wX12_next_0 (fun (M7 : sy_M) => wX12_next_52  Q M7) Q n40 M
section
variable {p : Program} {l : Launch} {e : Env} {s : State} {m : MethodId} {args : Array Value} {below : List Frame} {meth : Method} {c : Code} {Y : sy_Y}
set_option maxHeartbeats 4000000 in
set_option maxRecDepth 100000 in
theorem kX12_next_39 (C : sy_C p m c cX12_next 2 s args vsX12_next RX12 meth none Y NZ tfZ) {Q : sy_M → Prop} {K_0 : sy_M → Prop} (hK_0 : ∀ (M : sy_M) (H : Heap) (locs : List Loc) (ls : Array Slot), K_0 M → sy_H Y NZ EZ s H locs M → lv_has ls 2 [(0, .ref (Y.2.1 0))] → W p l e ({ frames := 1, cells := 0, slots := 0, locals := 21 } : Room) s m args below meth c H locs 0 0 (sy_ZV below args s Y NZ EZ Q) (F0 m 0 ls [])) :
    ∀ (M : sy_M) (H : Heap) (locs : List Loc) (ls : Array Slot), wX12_next_39 K_0 Q M → sy_H Y NZ EZ s H locs M → lv_has ls 2 [(0, .ref (Y.2.1 0))] → W p l e ({ frames := 1, cells := 0, slots := 0, locals := 21 } : Room) s m args below meth c H locs 0 0 (sy_ZV below args s Y NZ EZ Q) (F0 m 39 ls []) := by
  have hx := C.1.1
  have hb := C.1.2.1
  intro M H locs ls hq hh hl
  unfold wX12_next_39 at hq
  refine lv_aload_n hx hb dX12_next_39 rfl (lv_at hl 0 rfl) ?_
  refine lv_dup hx hb dX12_next_40 rfl ?_
  refine sy_get C hh (fun w h => mc (uZ_fX12 w h)) 0 (by decide) (oZ_0 Y) rfl 6 (by decide) (index := 152) (mc uZ_65) (v := .int (M 0 6)) rfl dX12_next_41 ?_
  refine lv_iconst (v := (1 : Int32)) hx hb dX12_next_44 (by decide) ?_
  refine lv_iadd hx hb dX12_next_45 ?_
  refine sy_put C hh (fun w h => mc (uZ_fX12 w h)) tyX12 tyX12_ok nmX12 0 (by decide) (oZ_0 Y) rfl 6 (by decide) (index := 152) (mc uZ_65) rfl 6 ((M 0 6) + (1 : Int32)) (ty := .int) (tyX12_ok 6 (by decide)) rfl rfl (Nat.le_of_ble_eq_true rfl) (pX12_6 Y _ _ _) dX12_next_46 (fun H locs hh => ?_)
  refine lv_goto (tgt := 0) hx hb dX12_next_49 (by decide) ?_
  exact hK_0 (mu M 0 6 ((M 0 6) + (1 : Int32)))  _ _ _ hq hh (lv_sub hl [0] rfl)

set_option maxHeartbeats 4000000 in
set_option maxRecDepth 100000 in
theorem kX12_next_0 (C : sy_C p m c cX12_next 2 s args vsX12_next RX12 meth none Y NZ tfZ) {Q : sy_M → Prop} {K_52 : sy_M → Prop} (hK_52 : ∀ (M : sy_M) (H : Heap) (locs : List Loc) (ls : Array Slot), K_52 M → sy_H Y NZ EZ s H locs M → lv_has ls 2 [(0, .ref (Y.2.1 0))] → W p l e ({ frames := 1, cells := 0, slots := 0, locals := 21 } : Room) s m args below meth c H locs 0 0 (sy_ZV below args s Y NZ EZ Q) (F0 m 52 ls [])) :
    ∀ (n : Nat) (M : sy_M) (H : Heap) (locs : List Loc) (ls : Array Slot), wX12_next_0 K_52 Q n M → sy_H Y NZ EZ s H locs M → lv_has ls 2 [(0, .ref (Y.2.1 0))] → W p l e ({ frames := 1, cells := 0, slots := 0, locals := 21 } : Room) s m args below meth c H locs 0 0 (sy_ZV below args s Y NZ EZ Q) (F0 m 0 ls []) := by
  have hx := C.1.1
  have hb := C.1.2.1
  intro n
  induction n with
  | zero =>
    intro M H locs ls hq hh hl
    unfold wX12_next_0 at hq
    exact hq.elim
  | succ n ih =>
    intro M H locs ls hq hh hl
    unfold wX12_next_0 at hq
    refine lv_aload_n hx hb dX12_next_0 rfl (lv_at hl 0 rfl) ?_
    refine sy_get C hh (fun w h => mc (uZ_fX12 w h)) 0 (by decide) (oZ_0 Y) rfl 6 (by decide) (index := 152) (mc uZ_65) (v := .int (M 0 6)) rfl dX12_next_1 ?_
    refine lv_aload_n hx hb dX12_next_4 rfl (lv_at hl 0 rfl) ?_
    refine sy_get C hh (fun w h => mc (uZ_fX12 w h)) 0 (by decide) (oZ_0 Y) rfl 5 (by decide) (index := 149) (mc uZ_59) (v := .int (M 0 5)) rfl dX12_next_5 ?_
    refine lv_icmp_ge (tgt := 52) hx hb dX12_next_8 (by decide) (fun c1 => ?_) (fun c1 => ?_)
    · have hq := hq.1 c1
      exact hK_52 M  _ _ _ hq hh (lv_sub hl [0] rfl)
    · have hq := hq.2 c1
      refine lv_aload_n hx hb dX12_next_11 rfl (lv_at hl 0 rfl) ?_
      refine sy_get C hh (fun w h => mc (uZ_fX12 w h)) 0 (by decide) (oZ_0 Y) rfl 4 (by decide) (index := 19) (mc uZ_9) (v := .ref (Y.2.1 1)) rfl dX12_next_12 ?_
      refine lv_aload_n hx hb dX12_next_15 rfl (lv_at hl 0 rfl) ?_
      refine sy_get C hh (fun w h => mc (uZ_fX12 w h)) 0 (by decide) (oZ_0 Y) rfl 6 (by decide) (index := 152) (mc uZ_65) (v := .int (M 0 6)) rfl dX12_next_16 ?_
      obtain ⟨n2, hn2, en2, hq⟩ := hq
      refine sy_bald C hh 1 (by decide) (aZ_1 Y) tZ_1 hn2 en2 (by decide) dX12_next_19 ?_
      refine lv_bipush (v := (nI 32)) hx hb dX12_next_20 (by decide) ?_
      refine lv_icmp_eq (tgt := 39) hx hb dX12_next_22 (by decide) (fun c3 => ?_) (fun c3 => ?_)
      · have hq := hq.1 c3
        refine kX12_next_39 C (fun M4 H locs ls hq hh hl => ?_) M  _ _ _ hq hh (lv_sub hl [0] rfl)
        · exact ih M4  _ _ _ hq hh (lv_sub hl [0] rfl)
      · have hq := hq.2 c3
        refine lv_aload_n hx hb dX12_next_25 rfl (lv_at hl 0 rfl) ?_
        refine sy_get C hh (fun w h => mc (uZ_fX12 w h)) 0 (by decide) (oZ_0 Y) rfl 4 (by decide) (index := 19) (mc uZ_9) (v := .ref (Y.2.1 1)) rfl dX12_next_26 ?_
        refine lv_aload_n hx hb dX12_next_29 rfl (lv_at hl 0 rfl) ?_
        refine sy_get C hh (fun w h => mc (uZ_fX12 w h)) 0 (by decide) (oZ_0 Y) rfl 6 (by decide) (index := 152) (mc uZ_65) (v := .int (M 0 6)) rfl dX12_next_30 ?_
        refine sy_bald C hh 1 (by decide) (aZ_1 Y) tZ_1 hn2 en2 (by decide) dX12_next_33 ?_
        refine lv_bipush (v := (nI 10)) hx hb dX12_next_34 (by decide) ?_
        refine lv_icmp_ne (tgt := 52) hx hb dX12_next_36 (by decide) (fun c5 => ?_) (fun c5 => ?_)
        · have hq := hq.1 c5
          exact hK_52 M  _ _ _ hq hh (lv_sub hl [0] rfl)
        · have hq := hq.2 c5
          refine kX12_next_39 C (fun M6 H locs ls hq hh hl => ?_) M  _ _ _ hq hh (lv_sub hl [0] rfl)
          · exact ih M6  _ _ _ hq hh (lv_sub hl [0] rfl)

set_option maxHeartbeats 4000000 in
set_option maxRecDepth 100000 in
theorem kX12_next_223 (C : sy_C p m c cX12_next 2 s args vsX12_next RX12 meth none Y NZ tfZ) {Q : sy_M → Prop} {K_172 : sy_M → Prop} (hK_172 : ∀ (M : sy_M) (H : Heap) (locs : List Loc) (ls : Array Slot), K_172 M → sy_H Y NZ EZ s H locs M → lv_has ls 2 [(0, .ref (Y.2.1 0))] → W p l e ({ frames := 1, cells := 0, slots := 0, locals := 21 } : Room) s m args below meth c H locs 0 0 (sy_ZV below args s Y NZ EZ Q) (F0 m 172 ls [])) :
    ∀ (M : sy_M) (H : Heap) (locs : List Loc) (ls : Array Slot), wX12_next_223 K_172 Q M → sy_H Y NZ EZ s H locs M → lv_has ls 2 [(0, .ref (Y.2.1 0))] → W p l e ({ frames := 1, cells := 0, slots := 0, locals := 21 } : Room) s m args below meth c H locs 0 0 (sy_ZV below args s Y NZ EZ Q) (F0 m 223 ls []) := by
  have hx := C.1.1
  have hb := C.1.2.1
  intro M H locs ls hq hh hl
  unfold wX12_next_223 at hq
  refine lv_aload_n hx hb dX12_next_223 rfl (lv_at hl 0 rfl) ?_
  refine lv_dup hx hb dX12_next_224 rfl ?_
  refine sy_get C hh (fun w h => mc (uZ_fX12 w h)) 0 (by decide) (oZ_0 Y) rfl 6 (by decide) (index := 152) (mc uZ_65) (v := .int (M 0 6)) rfl dX12_next_225 ?_
  refine lv_iconst (v := (1 : Int32)) hx hb dX12_next_228 (by decide) ?_
  refine lv_iadd hx hb dX12_next_229 ?_
  refine sy_put C hh (fun w h => mc (uZ_fX12 w h)) tyX12 tyX12_ok nmX12 0 (by decide) (oZ_0 Y) rfl 6 (by decide) (index := 152) (mc uZ_65) rfl 6 ((M 0 6) + (1 : Int32)) (ty := .int) (tyX12_ok 6 (by decide)) rfl rfl (Nat.le_of_ble_eq_true rfl) (pX12_6 Y _ _ _) dX12_next_230 (fun H locs hh => ?_)
  refine lv_goto (tgt := 172) hx hb dX12_next_233 (by decide) ?_
  exact hK_172 (mu M 0 6 ((M 0 6) + (1 : Int32)))  _ _ _ hq hh (lv_sub hl [0] rfl)

set_option maxHeartbeats 4000000 in
set_option maxRecDepth 100000 in
theorem kX12_next_172 (C : sy_C p m c cX12_next 2 s args vsX12_next RX12 meth none Y NZ tfZ) {Q : sy_M → Prop} {K_236 : sy_M → Prop} (hK_236 : ∀ (M : sy_M) (H : Heap) (locs : List Loc) (ls : Array Slot), K_236 M → sy_H Y NZ EZ s H locs M → lv_has ls 2 [(0, .ref (Y.2.1 0))] → W p l e ({ frames := 1, cells := 0, slots := 0, locals := 21 } : Room) s m args below meth c H locs 0 0 (sy_ZV below args s Y NZ EZ Q) (F0 m 236 ls [])) :
    ∀ (n : Nat) (M : sy_M) (H : Heap) (locs : List Loc) (ls : Array Slot), wX12_next_172 K_236 Q n M → sy_H Y NZ EZ s H locs M → lv_has ls 2 [(0, .ref (Y.2.1 0))] → W p l e ({ frames := 1, cells := 0, slots := 0, locals := 21 } : Room) s m args below meth c H locs 0 0 (sy_ZV below args s Y NZ EZ Q) (F0 m 172 ls []) := by
  have hx := C.1.1
  have hb := C.1.2.1
  intro n
  induction n with
  | zero =>
    intro M H locs ls hq hh hl
    unfold wX12_next_172 at hq
    exact hq.elim
  | succ n ih =>
    intro M H locs ls hq hh hl
    unfold wX12_next_172 at hq
    refine lv_aload_n hx hb dX12_next_172 rfl (lv_at hl 0 rfl) ?_
    refine lv_aload_n hx hb dX12_next_173 rfl (lv_at hl 0 rfl) ?_
    refine sy_get C hh (fun w h => mc (uZ_fX12 w h)) 0 (by decide) (oZ_0 Y) rfl 6 (by decide) (index := 152) (mc uZ_65) (v := .int (M 0 6)) rfl dX12_next_174 ?_
    refine sy_cIV C hh (As := [.int (M 0 6)]) (rest := []) 0 (by decide) (oZ_0 Y) rfl (mX12_see l Y _ M (M 0 6) _ hq) (cwV 1 C.1.2.2.2.2 (sy_goodV uZ_good uZ_71 uZ_72 uZ_73 uZ_55 uZ_61 _) rfl rfl rfl hdX12_see ⟨Nat.le_of_ble_eq_true rfl, Nat.le_of_ble_eq_true rfl⟩) rfl hl.1 rfl (Nat.le_of_ble_eq_true rfl) dX12_next_177 (fun r20 M19 H locs hq hh => ?_)
    refine sy_cIS C hh (As := [.int r20]) (rest := []) (mX12_isDigit l Y _ M19 r20 _ hq) (va_cwS 1 C.1.2.2.2.2 (sy_goodS uZ_good uZ_74 uZ_75 uZ_55 uZ_63 _) rfl rfl rfl hdX12_isDigit.2 ⟨Nat.le_of_ble_eq_true rfl, Nat.le_of_ble_eq_true rfl⟩) rfl hl.1 rfl (Nat.le_of_ble_eq_true rfl) dX12_next_180 (fun r22 M21 H locs hq hh => ?_)
    refine lv_if_eq (tgt := 236) hx hb dX12_next_183 (by decide) (fun c23 => ?_) (fun c23 => ?_)
    · have hq := hq.1 c23
      exact hK_236 M21  _ _ _ hq hh (lv_sub hl [0] rfl)
    · have hq := hq.2 c23
      refine lv_aload_n hx hb dX12_next_186 rfl (lv_at hl 0 rfl) ?_
      refine sy_get C hh (fun w h => mc (uZ_fX12 w h)) 0 (by decide) (oZ_0 Y) rfl 6 (by decide) (index := 152) (mc uZ_65) (v := .int (M21 0 6)) rfl dX12_next_187 ?_
      refine lv_aload_n hx hb dX12_next_190 rfl (lv_at hl 0 rfl) ?_
      refine sy_get C hh (fun w h => mc (uZ_fX12 w h)) 0 (by decide) (oZ_0 Y) rfl 7 (by decide) (index := 155) (mc uZ_66) (v := .int (M21 0 7)) rfl dX12_next_191 ?_
      refine lv_isub hx hb dX12_next_194 ?_
      refine lv_bipush (v := (nI 6)) hx hb dX12_next_195 (by decide) ?_
      refine lv_icmp_ge (tgt := 223) hx hb dX12_next_197 (by decide) (fun c24 => ?_) (fun c24 => ?_)
      · have hq := hq.1 c24
        refine kX12_next_223 C (fun M25 H locs ls hq hh hl => ?_) M21  _ _ _ hq hh (lv_sub hl [0] rfl)
        · exact ih M25  _ _ _ hq hh (lv_sub hl [0] rfl)
      · have hq := hq.2 c24
        refine lv_aload_n hx hb dX12_next_200 rfl (lv_at hl 0 rfl) ?_
        refine lv_bipush (v := (nI 10)) hx hb dX12_next_201 (by decide) ?_
        refine lv_aload_n hx hb dX12_next_203 rfl (lv_at hl 0 rfl) ?_
        refine sy_get C hh (fun w h => mc (uZ_fX12 w h)) 0 (by decide) (oZ_0 Y) rfl 9 (by decide) (index := 172) (mc uZ_68) (v := .int (M21 0 9)) rfl dX12_next_204 ?_
        refine lv_imul hx hb dX12_next_207 ?_
        refine lv_aload_n hx hb dX12_next_208 rfl (lv_at hl 0 rfl) ?_
        refine lv_aload_n hx hb dX12_next_209 rfl (lv_at hl 0 rfl) ?_
        refine sy_get C hh (fun w h => mc (uZ_fX12 w h)) 0 (by decide) (oZ_0 Y) rfl 6 (by decide) (index := 152) (mc uZ_65) (v := .int (M21 0 6)) rfl dX12_next_210 ?_
        refine sy_cIV C hh (As := [.int (M21 0 6)]) (rest := [.int ((nI 10) * (M21 0 9)), .ref (Y.2.1 0)]) 0 (by decide) (oZ_0 Y) rfl (mX12_see l Y _ M21 (M21 0 6) _ hq) (cwV 1 C.1.2.2.2.2 (sy_goodV uZ_good uZ_71 uZ_72 uZ_73 uZ_55 uZ_61 _) rfl rfl rfl hdX12_see ⟨Nat.le_of_ble_eq_true rfl, Nat.le_of_ble_eq_true rfl⟩) rfl hl.1 rfl (Nat.le_of_ble_eq_true rfl) dX12_next_213 (fun r27 M26 H locs hq hh => ?_)
        refine lv_iadd hx hb dX12_next_216 ?_
        refine lv_bipush (v := (nI 48)) hx hb dX12_next_217 (by decide) ?_
        refine lv_isub hx hb dX12_next_219 ?_
        refine sy_put C hh (fun w h => mc (uZ_fX12 w h)) tyX12 tyX12_ok nmX12 0 (by decide) (oZ_0 Y) rfl 9 (by decide) (index := 172) (mc uZ_68) rfl 9 ((((nI 10) * (M21 0 9)) + r27) - (nI 48)) (ty := .int) (tyX12_ok 9 (by decide)) rfl rfl (Nat.le_of_ble_eq_true rfl) (pX12_9 Y _ _ _) dX12_next_220 (fun H locs hh => ?_)
        refine kX12_next_223 C (fun M28 H locs ls hq hh hl => ?_) (mu M26 0 9 ((((nI 10) * (M21 0 9)) + r27) - (nI 48)))  _ _ _ hq hh (lv_sub hl [0] rfl)
        · exact ih M28  _ _ _ hq hh (lv_sub hl [0] rfl)

set_option maxHeartbeats 4000000 in
set_option maxRecDepth 100000 in
theorem kX12_next_104 (C : sy_C p m c cX12_next 2 s args vsX12_next RX12 meth none Y NZ tfZ) {Q : sy_M → Prop} {K_131 : sy_M → Prop} (hK_131 : ∀ (M : sy_M) (H : Heap) (locs : List Loc) (ls : Array Slot), K_131 M → sy_H Y NZ EZ s H locs M → lv_has ls 2 [(0, .ref (Y.2.1 0))] → W p l e ({ frames := 1, cells := 0, slots := 0, locals := 21 } : Room) s m args below meth c H locs 0 0 (sy_ZV below args s Y NZ EZ Q) (F0 m 131 ls [])) :
    ∀ (n : Nat) (M : sy_M) (H : Heap) (locs : List Loc) (ls : Array Slot), wX12_next_104 K_131 Q n M → sy_H Y NZ EZ s H locs M → lv_has ls 2 [(0, .ref (Y.2.1 0))] → W p l e ({ frames := 1, cells := 0, slots := 0, locals := 21 } : Room) s m args below meth c H locs 0 0 (sy_ZV below args s Y NZ EZ Q) (F0 m 104 ls []) := by
  have hx := C.1.1
  have hb := C.1.2.1
  intro n
  induction n with
  | zero =>
    intro M H locs ls hq hh hl
    unfold wX12_next_104 at hq
    exact hq.elim
  | succ n ih =>
    intro M H locs ls hq hh hl
    unfold wX12_next_104 at hq
    refine lv_aload_n hx hb dX12_next_104 rfl (lv_at hl 0 rfl) ?_
    refine lv_aload_n hx hb dX12_next_105 rfl (lv_at hl 0 rfl) ?_
    refine sy_get C hh (fun w h => mc (uZ_fX12 w h)) 0 (by decide) (oZ_0 Y) rfl 6 (by decide) (index := 152) (mc uZ_65) (v := .int (M 0 6)) rfl dX12_next_106 ?_
    refine sy_cIV C hh (As := [.int (M 0 6)]) (rest := []) 0 (by decide) (oZ_0 Y) rfl (mX12_see l Y _ M (M 0 6) _ hq) (cwV 1 C.1.2.2.2.2 (sy_goodV uZ_good uZ_71 uZ_72 uZ_73 uZ_55 uZ_61 _) rfl rfl rfl hdX12_see ⟨Nat.le_of_ble_eq_true rfl, Nat.le_of_ble_eq_true rfl⟩) rfl hl.1 rfl (Nat.le_of_ble_eq_true rfl) dX12_next_109 (fun r33 M32 H locs hq hh => ?_)
    refine sy_cIS C hh (As := [.int r33]) (rest := []) (mX12_isSmall l Y _ M32 r33 _ hq) (va_cwS 1 C.1.2.2.2.2 (sy_goodS uZ_good uZ_69 uZ_70 uZ_55 uZ_62 _) rfl rfl rfl hdX12_isSmall.2 ⟨Nat.le_of_ble_eq_true rfl, Nat.le_of_ble_eq_true rfl⟩) rfl hl.1 rfl (Nat.le_of_ble_eq_true rfl) dX12_next_112 (fun r35 M34 H locs hq hh => ?_)
    refine lv_if_eq (tgt := 131) hx hb dX12_next_115 (by decide) (fun c36 => ?_) (fun c36 => ?_)
    · have hq := hq.1 c36
      exact hK_131 M34  _ _ _ hq hh (lv_sub hl [0] rfl)
    · have hq := hq.2 c36
      refine lv_aload_n hx hb dX12_next_118 rfl (lv_at hl 0 rfl) ?_
      refine lv_dup hx hb dX12_next_119 rfl ?_
      refine sy_get C hh (fun w h => mc (uZ_fX12 w h)) 0 (by decide) (oZ_0 Y) rfl 6 (by decide) (index := 152) (mc uZ_65) (v := .int (M34 0 6)) rfl dX12_next_120 ?_
      refine lv_iconst (v := (1 : Int32)) hx hb dX12_next_123 (by decide) ?_
      refine lv_iadd hx hb dX12_next_124 ?_
      refine sy_put C hh (fun w h => mc (uZ_fX12 w h)) tyX12 tyX12_ok nmX12 0 (by decide) (oZ_0 Y) rfl 6 (by decide) (index := 152) (mc uZ_65) rfl 6 ((M34 0 6) + (1 : Int32)) (ty := .int) (tyX12_ok 6 (by decide)) rfl rfl (Nat.le_of_ble_eq_true rfl) (pX12_6 Y _ _ _) dX12_next_125 (fun H locs hh => ?_)
      refine lv_goto (tgt := 104) hx hb dX12_next_128 (by decide) ?_
      exact ih (mu M34 0 6 ((M34 0 6) + (1 : Int32)))  _ _ _ hq hh (lv_sub hl [0] rfl)

set_option maxHeartbeats 4000000 in
set_option maxRecDepth 100000 in
theorem kX12_next_52 (C : sy_C p m c cX12_next 2 s args vsX12_next RX12 meth none Y NZ tfZ) {Q : sy_M → Prop} :
    ∀ (M : sy_M) (H : Heap) (locs : List Loc) (ls : Array Slot), wX12_next_52 Q M → sy_H Y NZ EZ s H locs M → lv_has ls 2 [(0, .ref (Y.2.1 0))] → W p l e ({ frames := 1, cells := 0, slots := 0, locals := 21 } : Room) s m args below meth c H locs 0 0 (sy_ZV below args s Y NZ EZ Q) (F0 m 52 ls []) := by
  have hx := C.1.1
  have hb := C.1.2.1
  intro M H locs ls hq hh hl
  unfold wX12_next_52 at hq
  refine lv_aload_n hx hb dX12_next_52 rfl (lv_at hl 0 rfl) ?_
  refine lv_aload_n hx hb dX12_next_53 rfl (lv_at hl 0 rfl) ?_
  refine sy_get C hh (fun w h => mc (uZ_fX12 w h)) 0 (by decide) (oZ_0 Y) rfl 6 (by decide) (index := 152) (mc uZ_65) (v := .int (M 0 6)) rfl dX12_next_54 ?_
  refine sy_put C hh (fun w h => mc (uZ_fX12 w h)) tyX12 tyX12_ok nmX12 0 (by decide) (oZ_0 Y) rfl 7 (by decide) (index := 155) (mc uZ_66) rfl 7 (M 0 6) (ty := .int) (tyX12_ok 7 (by decide)) rfl rfl (Nat.le_of_ble_eq_true rfl) (pX12_7 Y _ _ _) dX12_next_57 (fun H locs hh => ?_)
  refine lv_aload_n hx hb dX12_next_60 rfl (lv_at hl 0 rfl) ?_
  refine sy_get C hh (fun w h => mc (uZ_fX12 w h)) 0 (by decide) (oZ_0 Y) rfl 6 (by decide) (index := 152) (mc uZ_65) (v := .int (M 0 6)) rfl dX12_next_61 ?_
  refine lv_aload_n hx hb dX12_next_64 rfl (lv_at hl 0 rfl) ?_
  refine sy_get C hh (fun w h => mc (uZ_fX12 w h)) 0 (by decide) (oZ_0 Y) rfl 5 (by decide) (index := 149) (mc uZ_59) (v := .int (M 0 5)) rfl dX12_next_65 ?_
  refine lv_icmp_lt (tgt := 77) hx hb dX12_next_68 (by decide) (fun c8 => ?_) (fun c8 => ?_)
  · have hq := hq.1 c8
    refine lv_aload_n hx hb dX12_next_77 rfl (lv_at hl 0 rfl) ?_
    refine sy_get C hh (fun w h => mc (uZ_fX12 w h)) 0 (by decide) (oZ_0 Y) rfl 4 (by decide) (index := 19) (mc uZ_9) (v := .ref (Y.2.1 1)) rfl dX12_next_78 ?_
    refine lv_aload_n hx hb dX12_next_81 rfl (lv_at hl 0 rfl) ?_
    refine sy_get C hh (fun w h => mc (uZ_fX12 w h)) 0 (by decide) (oZ_0 Y) rfl 6 (by decide) (index := 152) (mc uZ_65) (v := .int (M 0 6)) rfl dX12_next_82 ?_
    obtain ⟨n9, hn9, en9, hq⟩ := hq
    refine sy_bald C hh 1 (by decide) (aZ_1 Y) tZ_1 hn9 en9 (by decide) dX12_next_85 ?_
    refine lv_istore_n (lv' := [(1, .int (M 1 n9)), (0, .ref (Y.2.1 0))]) hx hb dX12_next_86 rfl hl (by decide) rfl (fun ls hl => ?_)
    refine lv_aload_n hx hb dX12_next_87 rfl (lv_at hl 1 rfl) ?_
    refine lv_dup hx hb dX12_next_88 rfl ?_
    refine sy_get C hh (fun w h => mc (uZ_fX12 w h)) 0 (by decide) (oZ_0 Y) rfl 6 (by decide) (index := 152) (mc uZ_65) (v := .int (M 0 6)) rfl dX12_next_89 ?_
    refine lv_iconst (v := (1 : Int32)) hx hb dX12_next_92 (by decide) ?_
    refine lv_iadd hx hb dX12_next_93 ?_
    refine sy_put C hh (fun w h => mc (uZ_fX12 w h)) tyX12 tyX12_ok nmX12 0 (by decide) (oZ_0 Y) rfl 6 (by decide) (index := 152) (mc uZ_65) rfl 6 ((M 0 6) + (1 : Int32)) (ty := .int) (tyX12_ok 6 (by decide)) rfl rfl (Nat.le_of_ble_eq_true rfl) (pX12_6 Y _ _ _) dX12_next_94 (fun H locs hh => ?_)
    refine lv_iload_n hx hb dX12_next_97 rfl (lv_at hl 0 rfl) ?_
    refine sy_cIS C hh (As := [.int (M 1 n9)]) (rest := []) (mX12_isSmall l Y _ (mu (mu M 0 7 (M 0 6)) 0 6 ((M 0 6) + (1 : Int32))) (M 1 n9) _ hq) (va_cwS 1 C.1.2.2.2.2 (sy_goodS uZ_good uZ_69 uZ_70 uZ_55 uZ_62 _) rfl rfl rfl hdX12_isSmall.2 ⟨Nat.le_of_ble_eq_true rfl, Nat.le_of_ble_eq_true rfl⟩) rfl hl.1 rfl (Nat.le_of_ble_eq_true rfl) dX12_next_98 (fun r11 M10 H locs hq hh => ?_)
    refine lv_if_eq (tgt := 157) hx hb dX12_next_101 (by decide) (fun c12 => ?_) (fun c12 => ?_)
    · have hq := hq.1 c12
      refine lv_iload_n hx hb dX12_next_157 rfl (lv_at hl 0 rfl) ?_
      refine sy_cIS C hh (As := [.int (M 1 n9)]) (rest := []) (mX12_isDigit l Y _ M10 (M 1 n9) _ hq) (va_cwS 1 C.1.2.2.2.2 (sy_goodS uZ_good uZ_74 uZ_75 uZ_55 uZ_63 _) rfl rfl rfl hdX12_isDigit.2 ⟨Nat.le_of_ble_eq_true rfl, Nat.le_of_ble_eq_true rfl⟩) rfl hl.1 rfl (Nat.le_of_ble_eq_true rfl) dX12_next_158 (fun r14 M13 H locs hq hh => ?_)
      refine lv_if_eq (tgt := 262) hx hb dX12_next_161 (by decide) (fun c15 => ?_) (fun c15 => ?_)
      · have hq := hq.1 c15
        refine lv_aload_n hx hb dX12_next_262 rfl (lv_at hl 1 rfl) ?_
        refine lv_iload_n hx hb dX12_next_263 rfl (lv_at hl 0 rfl) ?_
        refine sy_put C hh (fun w h => mc (uZ_fX12 w h)) tyX12 tyX12_ok nmX12 0 (by decide) (oZ_0 Y) rfl 9 (by decide) (index := 172) (mc uZ_68) rfl 9 (M 1 n9) (ty := .int) (tyX12_ok 9 (by decide)) rfl rfl (Nat.le_of_ble_eq_true rfl) (pX12_9 Y _ _ _) dX12_next_264 (fun H locs hh => ?_)
        refine lv_aload_n hx hb dX12_next_267 rfl (lv_at hl 1 rfl) ?_
        refine lv_iload_n hx hb dX12_next_268 rfl (lv_at hl 0 rfl) ?_
        refine lv_bipush (v := (nI 40)) hx hb dX12_next_269 (by decide) ?_
        refine lv_icmp_eq (tgt := 286) hx hb dX12_next_271 (by decide) (fun c16 => ?_) (fun c16 => ?_)
        · have hq := hq.1 c16
          refine lv_iconst (v := (nI 4)) hx hb dX12_next_286 (by decide) ?_
          refine lv_goto (tgt := 291) hx hb dX12_next_287 (by decide) ?_
          refine sy_put C hh (fun w h => mc (uZ_fX12 w h)) tyX12 tyX12_ok nmX12 0 (by decide) (oZ_0 Y) rfl 8 (by decide) (index := 158) (mc uZ_67) rfl 8 (nI 4) (ty := .int) (tyX12_ok 8 (by decide)) rfl rfl (Nat.le_of_ble_eq_true rfl) (pX12_8 Y _ _ _) dX12_next_291 (fun H locs hh => ?_)
          exact sy_vret C hh dX12_next_294 hq
        · have hq := hq.2 c16
          refine lv_iload_n hx hb dX12_next_274 rfl (lv_at hl 0 rfl) ?_
          refine lv_bipush (v := (nI 41)) hx hb dX12_next_275 (by decide) ?_
          refine lv_icmp_eq (tgt := 286) hx hb dX12_next_277 (by decide) (fun c17 => ?_) (fun c17 => ?_)
          · have hq := hq.1 c17
            refine lv_iconst (v := (nI 4)) hx hb dX12_next_286 (by decide) ?_
            refine lv_goto (tgt := 291) hx hb dX12_next_287 (by decide) ?_
            refine sy_put C hh (fun w h => mc (uZ_fX12 w h)) tyX12 tyX12_ok nmX12 0 (by decide) (oZ_0 Y) rfl 8 (by decide) (index := 158) (mc uZ_67) rfl 8 (nI 4) (ty := .int) (tyX12_ok 8 (by decide)) rfl rfl (Nat.le_of_ble_eq_true rfl) (pX12_8 Y _ _ _) dX12_next_291 (fun H locs hh => ?_)
            exact sy_vret C hh dX12_next_294 hq
          · have hq := hq.2 c17
            refine lv_iload_n hx hb dX12_next_280 rfl (lv_at hl 0 rfl) ?_
            refine lv_bipush (v := (nI 44)) hx hb dX12_next_281 (by decide) ?_
            refine lv_icmp_ne (tgt := 290) hx hb dX12_next_283 (by decide) (fun c18 => ?_) (fun c18 => ?_)
            · have hq := hq.1 c18
              refine lv_iconst (v := (1 : Int32)) hx hb dX12_next_290 (by decide) ?_
              refine sy_put C hh (fun w h => mc (uZ_fX12 w h)) tyX12 tyX12_ok nmX12 0 (by decide) (oZ_0 Y) rfl 8 (by decide) (index := 158) (mc uZ_67) rfl 8 (1 : Int32) (ty := .int) (tyX12_ok 8 (by decide)) rfl rfl (Nat.le_of_ble_eq_true rfl) (pX12_8 Y _ _ _) dX12_next_291 (fun H locs hh => ?_)
              exact sy_vret C hh dX12_next_294 hq
            · have hq := hq.2 c18
              refine lv_iconst (v := (nI 4)) hx hb dX12_next_286 (by decide) ?_
              refine lv_goto (tgt := 291) hx hb dX12_next_287 (by decide) ?_
              refine sy_put C hh (fun w h => mc (uZ_fX12 w h)) tyX12 tyX12_ok nmX12 0 (by decide) (oZ_0 Y) rfl 8 (by decide) (index := 158) (mc uZ_67) rfl 8 (nI 4) (ty := .int) (tyX12_ok 8 (by decide)) rfl rfl (Nat.le_of_ble_eq_true rfl) (pX12_8 Y _ _ _) dX12_next_291 (fun H locs hh => ?_)
              exact sy_vret C hh dX12_next_294 hq
      · have hq := hq.2 c15
        refine lv_aload_n hx hb dX12_next_164 rfl (lv_at hl 1 rfl) ?_
        refine lv_iload_n hx hb dX12_next_165 rfl (lv_at hl 0 rfl) ?_
        refine lv_bipush (v := (nI 48)) hx hb dX12_next_166 (by decide) ?_
        refine lv_isub hx hb dX12_next_168 ?_
        refine sy_put C hh (fun w h => mc (uZ_fX12 w h)) tyX12 tyX12_ok nmX12 0 (by decide) (oZ_0 Y) rfl 9 (by decide) (index := 172) (mc uZ_68) rfl 9 ((M 1 n9) - (nI 48)) (ty := .int) (tyX12_ok 9 (by decide)) rfl rfl (Nat.le_of_ble_eq_true rfl) (pX12_9 Y _ _ _) dX12_next_169 (fun H locs hh => ?_)
        obtain ⟨n31, hq⟩ := hq
        refine kX12_next_172 C (fun M29 H locs ls hq hh hl => ?_) n31 (mu M13 0 9 ((M 1 n9) - (nI 48)))  _ _ _ hq hh (lv_sub hl [1] rfl)
        · refine lv_aload_n hx hb dX12_next_236 rfl (lv_at hl 0 rfl) ?_
          refine lv_aload_n hx hb dX12_next_237 rfl (lv_at hl 0 rfl) ?_
          refine sy_get C hh (fun w h => mc (uZ_fX12 w h)) 0 (by decide) (oZ_0 Y) rfl 6 (by decide) (index := 152) (mc uZ_65) (v := .int (M29 0 6)) rfl dX12_next_238 ?_
          refine lv_aload_n hx hb dX12_next_241 rfl (lv_at hl 0 rfl) ?_
          refine sy_get C hh (fun w h => mc (uZ_fX12 w h)) 0 (by decide) (oZ_0 Y) rfl 7 (by decide) (index := 155) (mc uZ_66) (v := .int (M29 0 7)) rfl dX12_next_242 ?_
          refine lv_isub hx hb dX12_next_245 ?_
          refine lv_bipush (v := (nI 6)) hx hb dX12_next_246 (by decide) ?_
          refine lv_icmp_le (tgt := 255) hx hb dX12_next_248 (by decide) (fun c30 => ?_) (fun c30 => ?_)
          · have hq := hq.1 c30
            refine lv_iconst (v := (nI 2)) hx hb dX12_next_255 (by decide) ?_
            refine sy_put C hh (fun w h => mc (uZ_fX12 w h)) tyX12 tyX12_ok nmX12 0 (by decide) (oZ_0 Y) rfl 8 (by decide) (index := 158) (mc uZ_67) rfl 8 (nI 2) (ty := .int) (tyX12_ok 8 (by decide)) rfl rfl (Nat.le_of_ble_eq_true rfl) (pX12_8 Y _ _ _) dX12_next_256 (fun H locs hh => ?_)
            refine lv_goto (tgt := 294) hx hb dX12_next_259 (by decide) ?_
            exact sy_vret C hh dX12_next_294 hq
          · have hq := hq.2 c30
            refine lv_iconst (v := (1 : Int32)) hx hb dX12_next_251 (by decide) ?_
            refine lv_goto (tgt := 256) hx hb dX12_next_252 (by decide) ?_
            refine sy_put C hh (fun w h => mc (uZ_fX12 w h)) tyX12 tyX12_ok nmX12 0 (by decide) (oZ_0 Y) rfl 8 (by decide) (index := 158) (mc uZ_67) rfl 8 (1 : Int32) (ty := .int) (tyX12_ok 8 (by decide)) rfl rfl (Nat.le_of_ble_eq_true rfl) (pX12_8 Y _ _ _) dX12_next_256 (fun H locs hh => ?_)
            refine lv_goto (tgt := 294) hx hb dX12_next_259 (by decide) ?_
            exact sy_vret C hh dX12_next_294 hq
    · have hq := hq.2 c12
      obtain ⟨n39, hq⟩ := hq
      refine kX12_next_104 C (fun M37 H locs ls hq hh hl => ?_) n39 M10  _ _ _ hq hh (lv_sub hl [1] rfl)
      · refine lv_aload_n hx hb dX12_next_131 rfl (lv_at hl 0 rfl) ?_
        refine lv_aload_n hx hb dX12_next_132 rfl (lv_at hl 0 rfl) ?_
        refine sy_get C hh (fun w h => mc (uZ_fX12 w h)) 0 (by decide) (oZ_0 Y) rfl 6 (by decide) (index := 152) (mc uZ_65) (v := .int (M37 0 6)) rfl dX12_next_133 ?_
        refine lv_aload_n hx hb dX12_next_136 rfl (lv_at hl 0 rfl) ?_
        refine sy_get C hh (fun w h => mc (uZ_fX12 w h)) 0 (by decide) (oZ_0 Y) rfl 7 (by decide) (index := 155) (mc uZ_66) (v := .int (M37 0 7)) rfl dX12_next_137 ?_
        refine lv_isub hx hb dX12_next_140 ?_
        refine lv_bipush (v := (nI 8)) hx hb dX12_next_141 (by decide) ?_
        refine lv_icmp_le (tgt := 150) hx hb dX12_next_143 (by decide) (fun c38 => ?_) (fun c38 => ?_)
        · have hq := hq.1 c38
          refine lv_iconst (v := (nI 3)) hx hb dX12_next_150 (by decide) ?_
          refine sy_put C hh (fun w h => mc (uZ_fX12 w h)) tyX12 tyX12_ok nmX12 0 (by decide) (oZ_0 Y) rfl 8 (by decide) (index := 158) (mc uZ_67) rfl 8 (nI 3) (ty := .int) (tyX12_ok 8 (by decide)) rfl rfl (Nat.le_of_ble_eq_true rfl) (pX12_8 Y _ _ _) dX12_next_151 (fun H locs hh => ?_)
          refine lv_goto (tgt := 294) hx hb dX12_next_154 (by decide) ?_
          exact sy_vret C hh dX12_next_294 hq
        · have hq := hq.2 c38
          refine lv_iconst (v := (1 : Int32)) hx hb dX12_next_146 (by decide) ?_
          refine lv_goto (tgt := 151) hx hb dX12_next_147 (by decide) ?_
          refine sy_put C hh (fun w h => mc (uZ_fX12 w h)) tyX12 tyX12_ok nmX12 0 (by decide) (oZ_0 Y) rfl 8 (by decide) (index := 158) (mc uZ_67) rfl 8 (1 : Int32) (ty := .int) (tyX12_ok 8 (by decide)) rfl rfl (Nat.le_of_ble_eq_true rfl) (pX12_8 Y _ _ _) dX12_next_151 (fun H locs hh => ?_)
          refine lv_goto (tgt := 294) hx hb dX12_next_154 (by decide) ?_
          exact sy_vret C hh dX12_next_294 hq
  · have hq := hq.2 c8
    refine lv_aload_n hx hb dX12_next_71 rfl (lv_at hl 0 rfl) ?_
    refine lv_iconst (v := (0 : Int32)) hx hb dX12_next_72 (by decide) ?_
    refine sy_put C hh (fun w h => mc (uZ_fX12 w h)) tyX12 tyX12_ok nmX12 0 (by decide) (oZ_0 Y) rfl 8 (by decide) (index := 158) (mc uZ_67) rfl 8 (0 : Int32) (ty := .int) (tyX12_ok 8 (by decide)) rfl rfl (Nat.le_of_ble_eq_true rfl) (pX12_8 Y _ _ _) dX12_next_73 (fun H locs hh => ?_)
    exact sy_vret C hh dX12_next_76 hq

end
set_option maxHeartbeats 4000000 in
set_option maxRecDepth 100000 in
theorem mX12_next (l : Launch) (Y : sy_Y) (sz : Nat) (M : sy_M) (Q : sy_M → Prop) (hq : wX12_next M  Q) : Met l yX12_next vsX12_next ({ frames := 1, cells := 0, slots := 0, locals := 21 } : Room) (va_Pc [.ref (Y.2.1 0)] (sy_pre Y NZ EZ tfZ sz M)) (sy_QV Y NZ EZ sz Q) 0 0 (sy_A NZ Y.2.1 sz) := by
  refine sy_metV (by decide) rfl (Nat.le_of_ble_eq_true rfl) ?_
  intro p e s m args below meth c C ls hl hh
  have hx := C.1.1
  have hb := C.1.2.1
  have hl : lv_has ls 2 [(0, .ref (Y.2.1 0))] := hl
  unfold wX12_next at hq
  obtain ⟨n40, hq⟩ := hq
  refine kX12_next_0 C (fun M7 H locs ls hq hh hl => ?_) n40 M  _ _ _ hq hh (lv_sub hl [0] rfl)
  · refine kX12_next_52 C  M7  _ _ _ hq hh (lv_sub hl [0] rfl)

