/-! AreaSetterModel.isWord(Ljava/lang/String;)Z -/
def wX12_isWord_28 (Q : Int32 → sy_M → Prop) : Nat → sy_M → Nat → Int32 → Prop
  | 0, _, _, _ => False
  | n + 1, M, x1, x2 => (((nI (sy_len.getD x1 0)) ≤ x2 → Q (1 : Int32) M) ∧ (¬ (nI (sy_len.getD x1 0)) ≤ x2 → ∃ n4 : Nat, n4 < 1000 ∧ ((M 0 7) + x2) = nI n4 ∧ ∃ n5 : Nat, n5 < sy_len.getD x1 0 ∧ x2 = nI n5 ∧ (((M 1 n4) = ((sy_byt.getD x1 []).getD n5 0) → wX12_isWord_28 Q n M x1 (x2 + (1 : Int32))) ∧ (¬ (M 1 n4) = ((sy_byt.getD x1 []).getD n5 0) → Q (0 : Int32) M))))
def wX12_isWord (M : sy_M) (w1 : Nat) (Q : Int32 → sy_M → Prop) : Prop := ((¬ (M 0 8) = (nI 3) → Q (0 : Int32) M) ∧ ((M 0 8) = (nI 3) → ((((M 0 6) - (M 0 7)) = (nI (sy_len.getD w1 0)) → ∃ n7 : Nat, wX12_isWord_28  Q n7 M w1 (0 : Int32)) ∧ (¬ ((M 0 6) - (M 0 7)) = (nI (sy_len.getD w1 0)) → Q (0 : Int32) M))))
section
variable {p : Program} {l : Launch} {e : Env} {s : State} {m : MethodId} {args : Array Value} {below : List Frame} {meth : Method} {c : Code} {Y : sy_Y}
set_option maxHeartbeats 4000000 in
set_option maxRecDepth 100000 in
theorem kX12_isWord_28 (C : sy_C p m c cX12_isWord 3 s args vsX12_isWord RX12 meth (some .boolean) Y NZ tfZ) {Q : Int32 → sy_M → Prop} :
    ∀ (n : Nat) (M : sy_M) (x1 : Nat) (x2 : Int32) (hx1 : x1 < 5) (H : Heap) (locs : List Loc) (ls : Array Slot), wX12_isWord_28 Q n M x1 x2 → sy_H Y NZ EZ s H locs M → lv_has ls 3 [(0, .ref (Y.2.1 0)), (1, .ref (Y.2.2.2.1 x1)), (2, .int x2)] → W p l e ({ frames := 6, cells := 0, slots := 0, locals := 200 } : Room) s m args below meth c H locs 0 0 (sy_ZI below args s Y NZ EZ Q) (F0 m 28 ls []) := by
  have hx := C.1.1
  have hb := C.1.2.1
  intro n
  induction n with
  | zero =>
    intro M x1 x2 hx1 H locs ls hq hh hl
    unfold wX12_isWord_28 at hq
    exact hq.elim
  | succ n ih =>
    intro M x1 x2 hx1 H locs ls hq hh hl
    unfold wX12_isWord_28 at hq
    refine lv_iload_n hx hb dX12_isWord_28 rfl (lv_at hl 2 rfl) ?_
    refine lv_aload_n hx hb dX12_isWord_29 rfl (lv_at hl 1 rfl) ?_
    refine sy_slen_X12_isWord C hh hl hx1 (Nat.le_of_ble_eq_true rfl) dX12_isWord_30 (fun H locs hh => ?_)
    refine lv_icmp_ge (tgt := 63) hx hb dX12_isWord_33 (by decide) (fun c3 => ?_) (fun c3 => ?_)
    · have hq := hq.1 c3
      refine lv_iconst (v := (1 : Int32)) hx hb dX12_isWord_63 (by decide) ?_
      exact sy_zret C hh dX12_isWord_64 (by decide) hq
    · have hq := hq.2 c3
      refine lv_aload_n hx hb dX12_isWord_36 rfl (lv_at hl 0 rfl) ?_
      refine sy_get C hh (fun w h => mc (uZ_fX12 w h)) 0 (by decide) (oZ_0 Y) rfl 4 (by decide) (index := 19) (mc uZ_9) (v := .ref (Y.2.1 1)) rfl dX12_isWord_37 ?_
      refine lv_aload_n hx hb dX12_isWord_40 rfl (lv_at hl 0 rfl) ?_
      refine sy_get C hh (fun w h => mc (uZ_fX12 w h)) 0 (by decide) (oZ_0 Y) rfl 7 (by decide) (index := 155) (mc uZ_66) (v := .int (M 0 7)) rfl dX12_isWord_41 ?_
      refine lv_iload_n hx hb dX12_isWord_44 rfl (lv_at hl 2 rfl) ?_
      refine lv_iadd hx hb dX12_isWord_45 ?_
      obtain ⟨n4, hn4, en4, hq⟩ := hq
      refine sy_bald C hh 1 (by decide) (aZ_1 Y) tZ_1 hn4 en4 (by decide) dX12_isWord_46 ?_
      refine lv_aload_n hx hb dX12_isWord_47 rfl (lv_at hl 1 rfl) ?_
      refine lv_iload_n hx hb dX12_isWord_48 rfl (lv_at hl 2 rfl) ?_
      obtain ⟨n5, hn5, en5, hq⟩ := hq
      refine sy_schar_X12_isWord C hh hl hx1 hn5 en5 (Nat.le_of_ble_eq_true rfl) dX12_isWord_49 (fun H locs hh => ?_)
      refine lv_icmp_eq (tgt := 57) hx hb dX12_isWord_52 (by decide) (fun c6 => ?_) (fun c6 => ?_)
      · have hq := hq.1 c6
        refine lv_iinc (v := (x2 + (1 : Int32))) (lv' := [(2, .int (x2 + (1 : Int32))), (0, .ref (Y.2.1 0)), (1, .ref (Y.2.2.2.1 x1))]) hx hb dX12_isWord_57 hl (k := 2) rfl (sy_inc (by decide)) (by decide) rfl (fun ls hl => ?_)
        refine lv_goto (tgt := 28) hx hb dX12_isWord_60 (by decide) ?_
        exact ih M x1 (x2 + (1 : Int32)) hx1 _ _ _ hq hh (lv_sub hl [1, 2, 0] rfl)
      · have hq := hq.2 c6
        refine lv_iconst (v := (0 : Int32)) hx hb dX12_isWord_55 (by decide) ?_
        exact sy_zret C hh dX12_isWord_56 (by decide) hq

end
set_option maxHeartbeats 4000000 in
set_option maxRecDepth 100000 in
theorem mX12_isWord (l : Launch) (Y : sy_Y) (sz : Nat) (M : sy_M) (w1 : Nat) (hw1 : w1 < 5) (Q : Int32 → sy_M → Prop) (hq : wX12_isWord M w1 Q) : Met l yX12_isWord vsX12_isWord ({ frames := 6, cells := 0, slots := 0, locals := 200 } : Room) (va_Pc [.ref (Y.2.1 0), .ref (Y.2.2.2.1 w1)] (sy_pre Y NZ EZ tfZ sz M)) (sy_QI Y NZ EZ sz Q) 0 0 (sy_A NZ Y.2.1 sz) := by
  refine sy_metI (by decide) rfl (Nat.le_of_ble_eq_true rfl) ?_
  intro p e s m args below meth c C ls hl hh
  have hx := C.1.1
  have hb := C.1.2.1
  have hl : lv_has ls 3 [(0, .ref (Y.2.1 0)), (1, .ref (Y.2.2.2.1 w1))] := hl
  unfold wX12_isWord at hq
  refine lv_aload_n hx hb dX12_isWord_0 rfl (lv_at hl 0 rfl) ?_
  refine sy_get C hh (fun w h => mc (uZ_fX12 w h)) 0 (by decide) (oZ_0 Y) rfl 8 (by decide) (index := 158) (mc uZ_67) (v := .int (M 0 8)) rfl dX12_isWord_1 ?_
  refine lv_iconst (v := (nI 3)) hx hb dX12_isWord_4 (by decide) ?_
  refine lv_icmp_ne (tgt := 24) hx hb dX12_isWord_5 (by decide) (fun c1 => ?_) (fun c1 => ?_)
  · have hq := hq.1 c1
    refine lv_iconst (v := (0 : Int32)) hx hb dX12_isWord_24 (by decide) ?_
    exact sy_zret C hh dX12_isWord_25 (by decide) hq
  · have hq := hq.2 c1
    refine lv_aload_n hx hb dX12_isWord_8 rfl (lv_at hl 0 rfl) ?_
    refine sy_get C hh (fun w h => mc (uZ_fX12 w h)) 0 (by decide) (oZ_0 Y) rfl 6 (by decide) (index := 152) (mc uZ_65) (v := .int (M 0 6)) rfl dX12_isWord_9 ?_
    refine lv_aload_n hx hb dX12_isWord_12 rfl (lv_at hl 0 rfl) ?_
    refine sy_get C hh (fun w h => mc (uZ_fX12 w h)) 0 (by decide) (oZ_0 Y) rfl 7 (by decide) (index := 155) (mc uZ_66) (v := .int (M 0 7)) rfl dX12_isWord_13 ?_
    refine lv_isub hx hb dX12_isWord_16 ?_
    refine lv_aload_n hx hb dX12_isWord_17 rfl (lv_at hl 1 rfl) ?_
    refine sy_slen_X12_isWord C hh hl hw1 (Nat.le_of_ble_eq_true rfl) dX12_isWord_18 (fun H locs hh => ?_)
    refine lv_icmp_eq (tgt := 26) hx hb dX12_isWord_21 (by decide) (fun c2 => ?_) (fun c2 => ?_)
    · have hq := hq.1 c2
      refine lv_iconst (v := (0 : Int32)) hx hb dX12_isWord_26 (by decide) ?_
      refine lv_istore_n (lv' := [(2, .int (0 : Int32)), (0, .ref (Y.2.1 0)), (1, .ref (Y.2.2.2.1 w1))]) hx hb dX12_isWord_27 rfl hl (by decide) rfl (fun ls hl => ?_)
      obtain ⟨n7, hq⟩ := hq
      refine kX12_isWord_28 C  n7 M w1 (0 : Int32) hw1 _ _ _ hq hh (lv_sub hl [1, 2, 0] rfl)
    · have hq := hq.2 c2
      refine lv_iconst (v := (0 : Int32)) hx hb dX12_isWord_24 (by decide) ?_
      exact sy_zret C hh dX12_isWord_25 (by decide) hq

/-! AreaSetterModel.how()I -/
def wX12_how (M : sy_M)  (Q : Int32 → sy_M → Prop) : Prop := wX12_isWord M 1 (fun r2 M1 => ((r2 = 0 → wX12_isWord M1 2 (fun r5 M4 => ((r5 = 0 → wX12_isWord M4 3 (fun r8 M7 => ((r8 = 0 → wX12_isWord M7 4 (fun r11 M10 => ((r11 = 0 → Q (-1 : Int32) M10) ∧ (¬ r11 = 0 → Q (nI 3) M10)))) ∧ (¬ r8 = 0 → Q (nI 2) M7)))) ∧ (¬ r5 = 0 → Q (1 : Int32) M4)))) ∧ (¬ r2 = 0 → Q (0 : Int32) M1)))
section
variable {p : Program} {l : Launch} {e : Env} {s : State} {m : MethodId} {args : Array Value} {below : List Frame} {meth : Method} {c : Code} {Y : sy_Y}
end
set_option maxHeartbeats 4000000 in
set_option maxRecDepth 100000 in
theorem mX12_how (l : Launch) (Y : sy_Y) (sz : Nat) (M : sy_M) (Q : Int32 → sy_M → Prop) (hq : wX12_how M  Q) : Met l yX12_how vsX12_how ({ frames := 7, cells := 0, slots := 0, locals := 222 } : Room) (va_Pc [.ref (Y.2.1 0)] (sy_pre Y NZ EZ tfZ sz M)) (sy_QI Y NZ EZ sz Q) 0 0 (sy_A NZ Y.2.1 sz) := by
  refine sy_metI (by decide) rfl (Nat.le_of_ble_eq_true rfl) ?_
  intro p e s m args below meth c C ls hl hh
  have hx := C.1.1
  have hb := C.1.2.1
  have hl : lv_has ls 1 [(0, .ref (Y.2.1 0))] := hl
  unfold wX12_how at hq
  refine lv_aload_n hx hb dX12_how_0 rfl (lv_at hl 0 rfl) ?_
  refine va_ldcS hx hb C.1.2.2.2.1 (C.2.1.2.2.1.2.1 ("AreaSetterModel", 185, 1) (by decide +kernel)) dX12_how_1 ?_
  refine sy_cIV C hh (As := [.ref (Y.2.2.2.1 1)]) (rest := []) 0 (by decide) (oZ_0 Y) rfl (mX12_isWord l Y _ M 1 (by decide) _ hq) (cwV 1 C.1.2.2.2.2 (sy_goodV uZ_good uZ_126 uZ_127 uZ_128 uZ_55 uZ_125 _) rfl rfl rfl hdX12_isWord ⟨Nat.le_of_ble_eq_true rfl, Nat.le_of_ble_eq_true rfl⟩) rfl hl.1 rfl (Nat.le_of_ble_eq_true rfl) dX12_how_3 (fun r2 M1 H locs hq hh => ?_)
  refine lv_if_eq (tgt := 13) hx hb dX12_how_6 (by decide) (fun c3 => ?_) (fun c3 => ?_)
  · have hq := hq.1 c3
    refine lv_aload_n hx hb dX12_how_13 rfl (lv_at hl 0 rfl) ?_
    refine va_ldcS hx hb C.1.2.2.2.1 (C.2.1.2.2.1.2.1 ("AreaSetterModel", 191, 2) (by decide +kernel)) dX12_how_14 ?_
    refine sy_cIV C hh (As := [.ref (Y.2.2.2.1 2)]) (rest := []) 0 (by decide) (oZ_0 Y) rfl (mX12_isWord l Y _ M1 2 (by decide) _ hq) (cwV 1 C.1.2.2.2.2 (sy_goodV uZ_good uZ_126 uZ_127 uZ_128 uZ_55 uZ_125 _) rfl rfl rfl hdX12_isWord ⟨Nat.le_of_ble_eq_true rfl, Nat.le_of_ble_eq_true rfl⟩) rfl hl.1 rfl (Nat.le_of_ble_eq_true rfl) dX12_how_16 (fun r5 M4 H locs hq hh => ?_)
    refine lv_if_eq (tgt := 26) hx hb dX12_how_19 (by decide) (fun c6 => ?_) (fun c6 => ?_)
    · have hq := hq.1 c6
      refine lv_aload_n hx hb dX12_how_26 rfl (lv_at hl 0 rfl) ?_
      refine va_ldcS hx hb C.1.2.2.2.1 (C.2.1.2.2.1.2.1 ("AreaSetterModel", 193, 3) (by decide +kernel)) dX12_how_27 ?_
      refine sy_cIV C hh (As := [.ref (Y.2.2.2.1 3)]) (rest := []) 0 (by decide) (oZ_0 Y) rfl (mX12_isWord l Y _ M4 3 (by decide) _ hq) (cwV 1 C.1.2.2.2.2 (sy_goodV uZ_good uZ_126 uZ_127 uZ_128 uZ_55 uZ_125 _) rfl rfl rfl hdX12_isWord ⟨Nat.le_of_ble_eq_true rfl, Nat.le_of_ble_eq_true rfl⟩) rfl hl.1 rfl (Nat.le_of_ble_eq_true rfl) dX12_how_29 (fun r8 M7 H locs hq hh => ?_)
      refine lv_if_eq (tgt := 39) hx hb dX12_how_32 (by decide) (fun c9 => ?_) (fun c9 => ?_)
      · have hq := hq.1 c9
        refine lv_aload_n hx hb dX12_how_39 rfl (lv_at hl 0 rfl) ?_
        refine va_ldcS hx hb C.1.2.2.2.1 (C.2.1.2.2.1.2.1 ("AreaSetterModel", 195, 4) (by decide +kernel)) dX12_how_40 ?_
        refine sy_cIV C hh (As := [.ref (Y.2.2.2.1 4)]) (rest := []) 0 (by decide) (oZ_0 Y) rfl (mX12_isWord l Y _ M7 4 (by decide) _ hq) (cwV 1 C.1.2.2.2.2 (sy_goodV uZ_good uZ_126 uZ_127 uZ_128 uZ_55 uZ_125 _) rfl rfl rfl hdX12_isWord ⟨Nat.le_of_ble_eq_true rfl, Nat.le_of_ble_eq_true rfl⟩) rfl hl.1 rfl (Nat.le_of_ble_eq_true rfl) dX12_how_42 (fun r11 M10 H locs hq hh => ?_)
        refine lv_if_eq (tgt := 52) hx hb dX12_how_45 (by decide) (fun c12 => ?_) (fun c12 => ?_)
        · have hq := hq.1 c12
          refine lv_iconst (v := (-1 : Int32)) hx hb dX12_how_52 (by decide) ?_
          exact sy_iret C hh dX12_how_53 hq
        · have hq := hq.2 c12
          refine lv_iconst (v := (nI 3)) hx hb dX12_how_48 (by decide) ?_
          refine lv_goto (tgt := 53) hx hb dX12_how_49 (by decide) ?_
          exact sy_iret C hh dX12_how_53 hq
      · have hq := hq.2 c9
        refine lv_iconst (v := (nI 2)) hx hb dX12_how_35 (by decide) ?_
        refine lv_goto (tgt := 53) hx hb dX12_how_36 (by decide) ?_
        exact sy_iret C hh dX12_how_53 hq
    · have hq := hq.2 c6
      refine lv_iconst (v := (1 : Int32)) hx hb dX12_how_22 (by decide) ?_
      refine lv_goto (tgt := 53) hx hb dX12_how_23 (by decide) ?_
      exact sy_iret C hh dX12_how_53 hq
  · have hq := hq.2 c3
    refine lv_iconst (v := (0 : Int32)) hx hb dX12_how_9 (by decide) ?_
    refine lv_goto (tgt := 53) hx hb dX12_how_10 (by decide) ?_
    exact sy_iret C hh dX12_how_53 hq

/-! AreaSetterModel.isName()Z -/
def wX12_isName (M : sy_M)  (Q : Int32 → sy_M → Prop) : Prop := ((¬ (M 0 8) = (nI 3) → Q (0 : Int32) M) ∧ ((M 0 8) = (nI 3) → wX12_how M (fun r3 M2 => ((¬ r3 = (-1 : Int32) → Q (0 : Int32) M2) ∧ (r3 = (-1 : Int32) → wX12_isWord M2 0 (fun r6 M5 => ((¬ r6 = 0 → Q (0 : Int32) M5) ∧ (r6 = 0 → Q (1 : Int32) M5))))))))
section
variable {p : Program} {l : Launch} {e : Env} {s : State} {m : MethodId} {args : Array Value} {below : List Frame} {meth : Method} {c : Code} {Y : sy_Y}
end
set_option maxHeartbeats 4000000 in
set_option maxRecDepth 100000 in
theorem mX12_isName (l : Launch) (Y : sy_Y) (sz : Nat) (M : sy_M) (Q : Int32 → sy_M → Prop) (hq : wX12_isName M  Q) : Met l yX12_isName vsX12_isName ({ frames := 8, cells := 0, slots := 0, locals := 242 } : Room) (va_Pc [.ref (Y.2.1 0)] (sy_pre Y NZ EZ tfZ sz M)) (sy_QI Y NZ EZ sz Q) 0 0 (sy_A NZ Y.2.1 sz) := by
  refine sy_metI (by decide) rfl (Nat.le_of_ble_eq_true rfl) ?_
  intro p e s m args below meth c C ls hl hh
  have hx := C.1.1
  have hb := C.1.2.1
  have hl : lv_has ls 1 [(0, .ref (Y.2.1 0))] := hl
  unfold wX12_isName at hq
  refine lv_aload_n hx hb dX12_isName_0 rfl (lv_at hl 0 rfl) ?_
  refine sy_get C hh (fun w h => mc (uZ_fX12 w h)) 0 (by decide) (oZ_0 Y) rfl 8 (by decide) (index := 158) (mc uZ_67) (v := .int (M 0 8)) rfl dX12_isName_1 ?_
  refine lv_iconst (v := (nI 3)) hx hb dX12_isName_4 (by decide) ?_
  refine lv_icmp_ne (tgt := 29) hx hb dX12_isName_5 (by decide) (fun c1 => ?_) (fun c1 => ?_)
  · have hq := hq.1 c1
    refine lv_iconst (v := (0 : Int32)) hx hb dX12_isName_29 (by decide) ?_
    exact sy_zret C hh dX12_isName_30 (by decide) hq
  · have hq := hq.2 c1
    refine lv_aload_n hx hb dX12_isName_8 rfl (lv_at hl 0 rfl) ?_
    refine sy_cIV C hh (As := []) (rest := []) 0 (by decide) (oZ_0 Y) rfl (mX12_how l Y _ M  _ hq) (cwV 0 C.1.2.2.2.2 (sy_goodV uZ_good uZ_130 uZ_131 uZ_132 uZ_55 uZ_129 _) rfl rfl rfl hdX12_how ⟨Nat.le_of_ble_eq_true rfl, Nat.le_of_ble_eq_true rfl⟩) rfl hl.1 rfl (Nat.le_of_ble_eq_true rfl) dX12_isName_9 (fun r3 M2 H locs hq hh => ?_)
    refine lv_iconst (v := (-1 : Int32)) hx hb dX12_isName_12 (by decide) ?_
    refine lv_icmp_ne (tgt := 29) hx hb dX12_isName_13 (by decide) (fun c4 => ?_) (fun c4 => ?_)
    · have hq := hq.1 c4
      refine lv_iconst (v := (0 : Int32)) hx hb dX12_isName_29 (by decide) ?_
      exact sy_zret C hh dX12_isName_30 (by decide) hq
    · have hq := hq.2 c4
      refine lv_aload_n hx hb dX12_isName_16 rfl (lv_at hl 0 rfl) ?_
      refine va_ldcS hx hb C.1.2.2.2.1 (C.2.1.2.2.1.2.1 ("AreaSetterModel", 200, 0) (by decide +kernel)) dX12_isName_17 ?_
      refine sy_cIV C hh (As := [.ref (Y.2.2.2.1 0)]) (rest := []) 0 (by decide) (oZ_0 Y) rfl (mX12_isWord l Y _ M2 0 (by decide) _ hq) (cwV 1 C.1.2.2.2.2 (sy_goodV uZ_good uZ_126 uZ_127 uZ_128 uZ_55 uZ_125 _) rfl rfl rfl hdX12_isWord ⟨Nat.le_of_ble_eq_true rfl, Nat.le_of_ble_eq_true rfl⟩) rfl hl.1 rfl (Nat.le_of_ble_eq_true rfl) dX12_isName_19 (fun r6 M5 H locs hq hh => ?_)
      refine lv_if_ne (tgt := 29) hx hb dX12_isName_22 (by decide) (fun c7 => ?_) (fun c7 => ?_)
      · have hq := hq.1 c7
        refine lv_iconst (v := (0 : Int32)) hx hb dX12_isName_29 (by decide) ?_
        exact sy_zret C hh dX12_isName_30 (by decide) hq
      · have hq := hq.2 c7
        refine lv_iconst (v := (1 : Int32)) hx hb dX12_isName_25 (by decide) ?_
        refine lv_goto (tgt := 30) hx hb dX12_isName_26 (by decide) ?_
        exact sy_zret C hh dX12_isName_30 (by decide) hq

/-! AreaSetterModel.is(I)Z -/
def wX12_is (M : sy_M) (a1 : Int32) (Q : Int32 → sy_M → Prop) : Prop := ((¬ (M 0 8) = (nI 4) → Q (0 : Int32) M) ∧ ((M 0 8) = (nI 4) → ((¬ (M 0 9) = a1 → Q (0 : Int32) M) ∧ ((M 0 9) = a1 → Q (1 : Int32) M))))
section
variable {p : Program} {l : Launch} {e : Env} {s : State} {m : MethodId} {args : Array Value} {below : List Frame} {meth : Method} {c : Code} {Y : sy_Y}
end
set_option maxHeartbeats 4000000 in
set_option maxRecDepth 100000 in
theorem mX12_is (l : Launch) (Y : sy_Y) (sz : Nat) (M : sy_M) (a1 : Int32) (Q : Int32 → sy_M → Prop) (hq : wX12_is M a1 Q) : Met l yX12_is vsX12_is ({ frames := 0, cells := 0, slots := 0, locals := 0 } : Room) (va_Pc [.ref (Y.2.1 0), .int a1] (sy_pre Y NZ EZ tfZ sz M)) (sy_QI Y NZ EZ sz Q) 0 0 (sy_A NZ Y.2.1 sz) := by
  refine sy_metI (by decide) rfl (Nat.le_of_ble_eq_true rfl) ?_
  intro p e s m args below meth c C ls hl hh
  have hx := C.1.1
  have hb := C.1.2.1
  have hl : lv_has ls 2 [(0, .ref (Y.2.1 0)), (1, .int a1)] := hl
  unfold wX12_is at hq
  refine lv_aload_n hx hb dX12_is_0 rfl (lv_at hl 0 rfl) ?_
  refine sy_get C hh (fun w h => mc (uZ_fX12 w h)) 0 (by decide) (oZ_0 Y) rfl 8 (by decide) (index := 158) (mc uZ_67) (v := .int (M 0 8)) rfl dX12_is_1 ?_
  refine lv_iconst (v := (nI 4)) hx hb dX12_is_4 (by decide) ?_
  refine lv_icmp_ne (tgt := 20) hx hb dX12_is_5 (by decide) (fun c1 => ?_) (fun c1 => ?_)
  · have hq := hq.1 c1
    refine lv_iconst (v := (0 : Int32)) hx hb dX12_is_20 (by decide) ?_
    exact sy_zret C hh dX12_is_21 (by decide) hq
  · have hq := hq.2 c1
    refine lv_aload_n hx hb dX12_is_8 rfl (lv_at hl 0 rfl) ?_
    refine sy_get C hh (fun w h => mc (uZ_fX12 w h)) 0 (by decide) (oZ_0 Y) rfl 9 (by decide) (index := 172) (mc uZ_68) (v := .int (M 0 9)) rfl dX12_is_9 ?_
    refine lv_iload_n hx hb dX12_is_12 rfl (lv_at hl 1 rfl) ?_
    refine lv_icmp_ne (tgt := 20) hx hb dX12_is_13 (by decide) (fun c2 => ?_) (fun c2 => ?_)
    · have hq := hq.1 c2
      refine lv_iconst (v := (0 : Int32)) hx hb dX12_is_20 (by decide) ?_
      exact sy_zret C hh dX12_is_21 (by decide) hq
    · have hq := hq.2 c2
      refine lv_iconst (v := (1 : Int32)) hx hb dX12_is_16 (by decide) ?_
      refine lv_goto (tgt := 21) hx hb dX12_is_17 (by decide) ?_
      exact sy_zret C hh dX12_is_21 (by decide) hq

/-! AreaSetterModel.fails(I)V -/
def wX12_fails (M : sy_M) (a1 : Int32) (Q : sy_M → Prop) : Prop := (((M 0 10) = 0 → Q (mu (mu M 0 10 a1) 0 11 (M 0 7))) ∧ (¬ (M 0 10) = 0 → Q M))
section
variable {p : Program} {l : Launch} {e : Env} {s : State} {m : MethodId} {args : Array Value} {below : List Frame} {meth : Method} {c : Code} {Y : sy_Y}
end
set_option maxHeartbeats 4000000 in
set_option maxRecDepth 100000 in
theorem mX12_fails (l : Launch) (Y : sy_Y) (sz : Nat) (M : sy_M) (a1 : Int32) (Q : sy_M → Prop) (hq : wX12_fails M a1 Q) : Met l yX12_fails vsX12_fails ({ frames := 0, cells := 0, slots := 0, locals := 0 } : Room) (va_Pc [.ref (Y.2.1 0), .int a1] (sy_pre Y NZ EZ tfZ sz M)) (sy_QV Y NZ EZ sz Q) 0 0 (sy_A NZ Y.2.1 sz) := by
  refine sy_metV (by decide) rfl (Nat.le_of_ble_eq_true rfl) ?_
  intro p e s m args below meth c C ls hl hh
  have hx := C.1.1
  have hb := C.1.2.1
  have hl : lv_has ls 2 [(0, .ref (Y.2.1 0)), (1, .int a1)] := hl
  unfold wX12_fails at hq
  refine lv_aload_n hx hb dX12_fails_0 rfl (lv_at hl 0 rfl) ?_
  refine sy_get C hh (fun w h => mc (uZ_fX12 w h)) 0 (by decide) (oZ_0 Y) rfl 10 (by decide) (index := 202) (mc uZ_136) (v := .int (M 0 10)) rfl dX12_fails_1 ?_
  refine lv_if_eq (tgt := 8) hx hb dX12_fails_4 (by decide) (fun c1 => ?_) (fun c1 => ?_)
  · have hq := hq.1 c1
    refine lv_aload_n hx hb dX12_fails_8 rfl (lv_at hl 0 rfl) ?_
    refine lv_iload_n hx hb dX12_fails_9 rfl (lv_at hl 1 rfl) ?_
    refine sy_put C hh (fun w h => mc (uZ_fX12 w h)) tyX12 tyX12_ok nmX12 0 (by decide) (oZ_0 Y) rfl 10 (by decide) (index := 202) (mc uZ_136) rfl 10 a1 (ty := .int) (tyX12_ok 10 (by decide)) rfl rfl (Nat.le_of_ble_eq_true rfl) (pX12_10 Y _ _ _) dX12_fails_10 (fun H locs hh => ?_)
    refine lv_aload_n hx hb dX12_fails_13 rfl (lv_at hl 0 rfl) ?_
    refine lv_aload_n hx hb dX12_fails_14 rfl (lv_at hl 0 rfl) ?_
    refine sy_get C hh (fun w h => mc (uZ_fX12 w h)) 0 (by decide) (oZ_0 Y) rfl 7 (by decide) (index := 155) (mc uZ_66) (v := .int (M 0 7)) rfl dX12_fails_15 ?_
    refine sy_put C hh (fun w h => mc (uZ_fX12 w h)) tyX12 tyX12_ok nmX12 0 (by decide) (oZ_0 Y) rfl 11 (by decide) (index := 205) (mc uZ_137) rfl 11 (M 0 7) (ty := .int) (tyX12_ok 11 (by decide)) rfl rfl (Nat.le_of_ble_eq_true rfl) (pX12_11 Y _ _ _) dX12_fails_18 (fun H locs hh => ?_)
    exact sy_vret C hh dX12_fails_21 hq
  · have hq := hq.2 c1
    exact sy_vret C hh dX12_fails_7 hq

/-! AreaSetterModel.isWell()Z -/
def wX12_isWell (M : sy_M)  (Q : Int32 → sy_M → Prop) : Prop := ((¬ (M 0 10) = 0 → Q (0 : Int32) M) ∧ ((M 0 10) = 0 → Q (1 : Int32) M))
section
variable {p : Program} {l : Launch} {e : Env} {s : State} {m : MethodId} {args : Array Value} {below : List Frame} {meth : Method} {c : Code} {Y : sy_Y}
end
set_option maxHeartbeats 4000000 in
set_option maxRecDepth 100000 in
theorem mX12_isWell (l : Launch) (Y : sy_Y) (sz : Nat) (M : sy_M) (Q : Int32 → sy_M → Prop) (hq : wX12_isWell M  Q) : Met l yX12_isWell vsX12_isWell ({ frames := 0, cells := 0, slots := 0, locals := 0 } : Room) (va_Pc [.ref (Y.2.1 0)] (sy_pre Y NZ EZ tfZ sz M)) (sy_QI Y NZ EZ sz Q) 0 0 (sy_A NZ Y.2.1 sz) := by
  refine sy_metI (by decide) rfl (Nat.le_of_ble_eq_true rfl) ?_
  intro p e s m args below meth c C ls hl hh
  have hx := C.1.1
  have hb := C.1.2.1
  have hl : lv_has ls 1 [(0, .ref (Y.2.1 0))] := hl
  unfold wX12_isWell at hq
  refine lv_aload_n hx hb dX12_isWell_0 rfl (lv_at hl 0 rfl) ?_
  refine sy_get C hh (fun w h => mc (uZ_fX12 w h)) 0 (by decide) (oZ_0 Y) rfl 10 (by decide) (index := 202) (mc uZ_136) (v := .int (M 0 10)) rfl dX12_isWell_1 ?_
  refine lv_if_ne (tgt := 11) hx hb dX12_isWell_4 (by decide) (fun c1 => ?_) (fun c1 => ?_)
  · have hq := hq.1 c1
    refine lv_iconst (v := (0 : Int32)) hx hb dX12_isWell_11 (by decide) ?_
    exact sy_zret C hh dX12_isWell_12 (by decide) hq
  · have hq := hq.2 c1
    refine lv_iconst (v := (1 : Int32)) hx hb dX12_isWell_7 (by decide) ?_
    refine lv_goto (tgt := 12) hx hb dX12_isWell_8 (by decide) ?_
    exact sy_zret C hh dX12_isWell_12 (by decide) hq

/-! AreaSetterModel.isKnown()Z -/
def wX12_isKnown_43 (K_97 : sy_M → Int32 → Int32 → Int32 → Prop) (Q : Int32 → sy_M → Prop) : Nat → sy_M → Int32 → Int32 → Int32 → Int32 → Prop
  | 0, _, _, _, _, _ => False
  | n + 1, M, x1, x2, x3, x4 => ∃ n4 : Nat, n4 < 82 ∧ x2 = nI n4 ∧ (((M 9 n4) ≤ x4 → K_97 M x1 x2 x3) ∧ (¬ (M 9 n4) ≤ x4 → ((x3 = 0 → K_97 M x1 x2 x3) ∧ (¬ x3 = 0 → ∃ n7 : Nat, n7 < 656 ∧ (((nI 8) * x2) + x4) = nI n7 ∧ ∃ n8 : Nat, n8 < 1000 ∧ ((M 0 7) + x4) = nI n8 ∧ ((¬ (M 10 n7) = (M 1 n8) → wX12_isKnown_43 K_97 Q n M x1 x2 (0 : Int32) (x4 + (1 : Int32))) ∧ ((M 10 n7) = (M 1 n8) → wX12_isKnown_43 K_97 Q n M x1 x2 (1 : Int32) (x4 + (1 : Int32))))))))
def wX12_isKnown_97 (K_5 : sy_M → Int32 → Int32 → Prop) (Q : Int32 → sy_M → Prop) (M : sy_M) (x1 : Int32) (x2 : Int32) (x3 : Int32) : Prop := ((¬ x1 = 0 → K_5 M (1 : Int32) (x2 + (1 : Int32))) ∧ (x1 = 0 → ((x3 = 0 → K_5 M (0 : Int32) (x2 + (1 : Int32))) ∧ (¬ x3 = 0 → K_5 M (1 : Int32) (x2 + (1 : Int32))))))
def wX12_isKnown_5 (Q : Int32 → sy_M → Prop) : Nat → sy_M → Int32 → Int32 → Prop
  | 0, _, _, _ => False
  | n + 1, M, x1, x2 => ((((nI 41) + (M 0 14)) ≤ x2 → (x1 = 0 ∨ x1 = 1) ∧ Q x1 M) ∧ (¬ ((nI 41) + (M 0 14)) ≤ x2 → ∃ n2 : Nat, n2 < 82 ∧ x2 = nI n2 ∧ ((¬ (M 9 n2) = ((M 0 6) - (M 0 7)) → ∃ n19 : Nat, wX12_isKnown_43 (fun (M10 : sy_M) (x1_11 : Int32) (x2_12 : Int32) (x3_13 : Int32) => wX12_isKnown_97 (fun (M16 : sy_M) (x1_17 : Int32) (x2_18 : Int32) => wX12_isKnown_5 Q n M16 x1_17 x2_18) Q M10 x1_11 x2_12 x3_13) Q n19 M x1 x2 (0 : Int32) (0 : Int32)) ∧ ((M 9 n2) = ((M 0 6) - (M 0 7)) → ∃ n27 : Nat, wX12_isKnown_43 (fun (M20 : sy_M) (x1_21 : Int32) (x2_22 : Int32) (x3_23 : Int32) => wX12_isKnown_97 (fun (M24 : sy_M) (x1_25 : Int32) (x2_26 : Int32) => wX12_isKnown_5 Q n M24 x1_25 x2_26) Q M20 x1_21 x2_22 x3_23) Q n27 M x1 x2 (1 : Int32) (0 : Int32)))))
def wX12_isKnown (M : sy_M)  (Q : Int32 → sy_M → Prop) : Prop := ∃ n28 : Nat, wX12_isKnown_5  Q n28 M (0 : Int32) (nI 41)
section
variable {p : Program} {l : Launch} {e : Env} {s : State} {m : MethodId} {args : Array Value} {below : List Frame} {meth : Method} {c : Code} {Y : sy_Y}
set_option maxHeartbeats 4000000 in
set_option maxRecDepth 100000 in
theorem kX12_isKnown_43 (C : sy_C p m c cX12_isKnown 5 s args vsX12_isKnown RX12 meth (some .boolean) Y NZ tfZ) {Q : Int32 → sy_M → Prop} {K_97 : sy_M → Int32 → Int32 → Int32 → Prop} (hK_97 : ∀ (M : sy_M) (x1 : Int32) (x2 : Int32) (x3 : Int32) (H : Heap) (locs : List Loc) (ls : Array Slot), K_97 M x1 x2 x3 → sy_H Y NZ EZ s H locs M → lv_has ls 5 [(0, .ref (Y.2.1 0)), (1, .int x1), (2, .int x2), (3, .int x3)] → W p l e ({ frames := 0, cells := 0, slots := 0, locals := 0 } : Room) s m args below meth c H locs 0 0 (sy_ZI below args s Y NZ EZ Q) (F0 m 97 ls [])) :
    ∀ (n : Nat) (M : sy_M) (x1 : Int32) (x2 : Int32) (x3 : Int32) (x4 : Int32) (H : Heap) (locs : List Loc) (ls : Array Slot), wX12_isKnown_43 K_97 Q n M x1 x2 x3 x4 → sy_H Y NZ EZ s H locs M → lv_has ls 5 [(0, .ref (Y.2.1 0)), (1, .int x1), (2, .int x2), (3, .int x3), (4, .int x4)] → W p l e ({ frames := 0, cells := 0, slots := 0, locals := 0 } : Room) s m args below meth c H locs 0 0 (sy_ZI below args s Y NZ EZ Q) (F0 m 43 ls []) := by
  have hx := C.1.1
  have hb := C.1.2.1
  intro n
  induction n with
  | zero =>
    intro M x1 x2 x3 x4 H locs ls hq hh hl
    unfold wX12_isKnown_43 at hq
    exact hq.elim
  | succ n ih =>
    intro M x1 x2 x3 x4 H locs ls hq hh hl
    unfold wX12_isKnown_43 at hq
    refine lv_iload hx hb dX12_isKnown_43 (lv_at hl 4 rfl) ?_
    refine lv_aload_n hx hb dX12_isKnown_45 rfl (lv_at hl 0 rfl) ?_
    refine sy_get C hh (fun w h => mc (uZ_fX12 w h)) 0 (by decide) (oZ_0 Y) rfl 22 (by decide) (index := 49) (mc uZ_20) (v := .ref (Y.2.1 9)) rfl dX12_isKnown_46 ?_
    refine lv_iload_n hx hb dX12_isKnown_49 rfl (lv_at hl 2 rfl) ?_
    obtain ⟨n4, hn4, en4, hq⟩ := hq
    refine sy_iald C hh 9 (by decide) (aZ_9 Y) tZ_9 hn4 en4 (by decide) dX12_isKnown_50 ?_
    refine lv_icmp_ge (tgt := 97) hx hb dX12_isKnown_51 (by decide) (fun c5 => ?_) (fun c5 => ?_)
    · have hq := hq.1 c5
      exact hK_97 M x1 x2 x3 _ _ _ hq hh (lv_sub hl [0, 1, 2, 3] rfl)
    · have hq := hq.2 c5
      refine lv_iload_n hx hb dX12_isKnown_54 rfl (lv_at hl 3 rfl) ?_
      refine lv_if_eq (tgt := 97) hx hb dX12_isKnown_55 (by decide) (fun c6 => ?_) (fun c6 => ?_)
      · have hq := hq.1 c6
        exact hK_97 M x1 x2 x3 _ _ _ hq hh (lv_sub hl [0, 1, 2, 3] rfl)
      · have hq := hq.2 c6
        refine lv_aload_n hx hb dX12_isKnown_58 rfl (lv_at hl 0 rfl) ?_
        refine sy_get C hh (fun w h => mc (uZ_fX12 w h)) 0 (by decide) (oZ_0 Y) rfl 23 (by decide) (index := 52) (mc uZ_21) (v := .ref (Y.2.1 10)) rfl dX12_isKnown_59 ?_
        refine lv_bipush (v := (nI 8)) hx hb dX12_isKnown_62 (by decide) ?_
        refine lv_iload_n hx hb dX12_isKnown_64 rfl (lv_at hl 2 rfl) ?_
        refine lv_imul hx hb dX12_isKnown_65 ?_
        refine lv_iload hx hb dX12_isKnown_66 (lv_at hl 4 rfl) ?_
        refine lv_iadd hx hb dX12_isKnown_68 ?_
        obtain ⟨n7, hn7, en7, hq⟩ := hq
        refine sy_bald C hh 10 (by decide) (aZ_10 Y) tZ_10 hn7 en7 (by decide) dX12_isKnown_69 ?_
        refine lv_aload_n hx hb dX12_isKnown_70 rfl (lv_at hl 0 rfl) ?_
        refine sy_get C hh (fun w h => mc (uZ_fX12 w h)) 0 (by decide) (oZ_0 Y) rfl 4 (by decide) (index := 19) (mc uZ_9) (v := .ref (Y.2.1 1)) rfl dX12_isKnown_71 ?_
        refine lv_aload_n hx hb dX12_isKnown_74 rfl (lv_at hl 0 rfl) ?_
        refine sy_get C hh (fun w h => mc (uZ_fX12 w h)) 0 (by decide) (oZ_0 Y) rfl 7 (by decide) (index := 155) (mc uZ_66) (v := .int (M 0 7)) rfl dX12_isKnown_75 ?_
        refine lv_iload hx hb dX12_isKnown_78 (lv_at hl 4 rfl) ?_
        refine lv_iadd hx hb dX12_isKnown_80 ?_
        obtain ⟨n8, hn8, en8, hq⟩ := hq
        refine sy_bald C hh 1 (by decide) (aZ_1 Y) tZ_1 hn8 en8 (by decide) dX12_isKnown_81 ?_
        refine lv_icmp_ne (tgt := 89) hx hb dX12_isKnown_82 (by decide) (fun c9 => ?_) (fun c9 => ?_)
        · have hq := hq.1 c9
          refine lv_iconst (v := (0 : Int32)) hx hb dX12_isKnown_89 (by decide) ?_
          refine lv_istore_n (lv' := [(3, .int (0 : Int32)), (0, .ref (Y.2.1 0)), (1, .int x1), (2, .int x2), (4, .int x4)]) hx hb dX12_isKnown_90 rfl hl (by decide) rfl (fun ls hl => ?_)
          refine lv_iinc (v := (x4 + (1 : Int32))) (lv' := [(4, .int (x4 + (1 : Int32))), (3, .int (0 : Int32)), (0, .ref (Y.2.1 0)), (1, .int x1), (2, .int x2)]) hx hb dX12_isKnown_91 hl (k := 4) rfl (sy_inc (by decide)) (by decide) rfl (fun ls hl => ?_)
          refine lv_goto (tgt := 43) hx hb dX12_isKnown_94 (by decide) ?_
          exact ih M x1 x2 (0 : Int32) (x4 + (1 : Int32)) _ _ _ hq hh (lv_sub hl [2, 3, 4, 1, 0] rfl)
        · have hq := hq.2 c9
          refine lv_iconst (v := (1 : Int32)) hx hb dX12_isKnown_85 (by decide) ?_
          refine lv_goto (tgt := 90) hx hb dX12_isKnown_86 (by decide) ?_
          refine lv_istore_n (lv' := [(3, .int (1 : Int32)), (0, .ref (Y.2.1 0)), (1, .int x1), (2, .int x2), (4, .int x4)]) hx hb dX12_isKnown_90 rfl hl (by decide) rfl (fun ls hl => ?_)
          refine lv_iinc (v := (x4 + (1 : Int32))) (lv' := [(4, .int (x4 + (1 : Int32))), (3, .int (1 : Int32)), (0, .ref (Y.2.1 0)), (1, .int x1), (2, .int x2)]) hx hb dX12_isKnown_91 hl (k := 4) rfl (sy_inc (by decide)) (by decide) rfl (fun ls hl => ?_)
          refine lv_goto (tgt := 43) hx hb dX12_isKnown_94 (by decide) ?_
          exact ih M x1 x2 (1 : Int32) (x4 + (1 : Int32)) _ _ _ hq hh (lv_sub hl [2, 3, 4, 1, 0] rfl)

set_option maxHeartbeats 4000000 in
set_option maxRecDepth 100000 in
theorem kX12_isKnown_97 (C : sy_C p m c cX12_isKnown 5 s args vsX12_isKnown RX12 meth (some .boolean) Y NZ tfZ) {Q : Int32 → sy_M → Prop} {K_5 : sy_M → Int32 → Int32 → Prop} (hK_5 : ∀ (M : sy_M) (x1 : Int32) (x2 : Int32) (H : Heap) (locs : List Loc) (ls : Array Slot), K_5 M x1 x2 → sy_H Y NZ EZ s H locs M → lv_has ls 5 [(0, .ref (Y.2.1 0)), (1, .int x1), (2, .int x2)] → W p l e ({ frames := 0, cells := 0, slots := 0, locals := 0 } : Room) s m args below meth c H locs 0 0 (sy_ZI below args s Y NZ EZ Q) (F0 m 5 ls [])) :
    ∀ (M : sy_M) (x1 : Int32) (x2 : Int32) (x3 : Int32) (H : Heap) (locs : List Loc) (ls : Array Slot), wX12_isKnown_97 K_5 Q M x1 x2 x3 → sy_H Y NZ EZ s H locs M → lv_has ls 5 [(0, .ref (Y.2.1 0)), (1, .int x1), (2, .int x2), (3, .int x3)] → W p l e ({ frames := 0, cells := 0, slots := 0, locals := 0 } : Room) s m args below meth c H locs 0 0 (sy_ZI below args s Y NZ EZ Q) (F0 m 97 ls []) := by
  have hx := C.1.1
  have hb := C.1.2.1
  intro M x1 x2 x3 H locs ls hq hh hl
  unfold wX12_isKnown_97 at hq
  refine lv_iload_n hx hb dX12_isKnown_97 rfl (lv_at hl 1 rfl) ?_
  refine lv_if_ne (tgt := 105) hx hb dX12_isKnown_98 (by decide) (fun c14 => ?_) (fun c14 => ?_)
  · have hq := hq.1 c14
    refine lv_iconst (v := (1 : Int32)) hx hb dX12_isKnown_105 (by decide) ?_
    refine lv_goto (tgt := 110) hx hb dX12_isKnown_106 (by decide) ?_
    refine lv_istore_n (lv' := [(1, .int (1 : Int32)), (0, .ref (Y.2.1 0)), (2, .int x2), (3, .int x3)]) hx hb dX12_isKnown_110 rfl hl (by decide) rfl (fun ls hl => ?_)
    refine lv_iinc (v := (x2 + (1 : Int32))) (lv' := [(2, .int (x2 + (1 : Int32))), (1, .int (1 : Int32)), (0, .ref (Y.2.1 0)), (3, .int x3)]) hx hb dX12_isKnown_111 hl (k := 2) rfl (sy_inc (by decide)) (by decide) rfl (fun ls hl => ?_)
    refine lv_goto (tgt := 5) hx hb dX12_isKnown_114 (by decide) ?_
    exact hK_5 M (1 : Int32) (x2 + (1 : Int32)) _ _ _ hq hh (lv_sub hl [2, 1, 0] rfl)
  · have hq := hq.2 c14
    refine lv_iload_n hx hb dX12_isKnown_101 rfl (lv_at hl 3 rfl) ?_
    refine lv_if_eq (tgt := 109) hx hb dX12_isKnown_102 (by decide) (fun c15 => ?_) (fun c15 => ?_)
    · have hq := hq.1 c15
      refine lv_iconst (v := (0 : Int32)) hx hb dX12_isKnown_109 (by decide) ?_
      refine lv_istore_n (lv' := [(1, .int (0 : Int32)), (0, .ref (Y.2.1 0)), (2, .int x2), (3, .int x3)]) hx hb dX12_isKnown_110 rfl hl (by decide) rfl (fun ls hl => ?_)
      refine lv_iinc (v := (x2 + (1 : Int32))) (lv' := [(2, .int (x2 + (1 : Int32))), (1, .int (0 : Int32)), (0, .ref (Y.2.1 0)), (3, .int x3)]) hx hb dX12_isKnown_111 hl (k := 2) rfl (sy_inc (by decide)) (by decide) rfl (fun ls hl => ?_)
      refine lv_goto (tgt := 5) hx hb dX12_isKnown_114 (by decide) ?_
      exact hK_5 M (0 : Int32) (x2 + (1 : Int32)) _ _ _ hq hh (lv_sub hl [2, 1, 0] rfl)
    · have hq := hq.2 c15
      refine lv_iconst (v := (1 : Int32)) hx hb dX12_isKnown_105 (by decide) ?_
      refine lv_goto (tgt := 110) hx hb dX12_isKnown_106 (by decide) ?_
      refine lv_istore_n (lv' := [(1, .int (1 : Int32)), (0, .ref (Y.2.1 0)), (2, .int x2), (3, .int x3)]) hx hb dX12_isKnown_110 rfl hl (by decide) rfl (fun ls hl => ?_)
      refine lv_iinc (v := (x2 + (1 : Int32))) (lv' := [(2, .int (x2 + (1 : Int32))), (1, .int (1 : Int32)), (0, .ref (Y.2.1 0)), (3, .int x3)]) hx hb dX12_isKnown_111 hl (k := 2) rfl (sy_inc (by decide)) (by decide) rfl (fun ls hl => ?_)
      refine lv_goto (tgt := 5) hx hb dX12_isKnown_114 (by decide) ?_
      exact hK_5 M (1 : Int32) (x2 + (1 : Int32)) _ _ _ hq hh (lv_sub hl [2, 1, 0] rfl)

set_option maxHeartbeats 4000000 in
set_option maxRecDepth 100000 in
theorem kX12_isKnown_5 (C : sy_C p m c cX12_isKnown 5 s args vsX12_isKnown RX12 meth (some .boolean) Y NZ tfZ) {Q : Int32 → sy_M → Prop} :
    ∀ (n : Nat) (M : sy_M) (x1 : Int32) (x2 : Int32) (H : Heap) (locs : List Loc) (ls : Array Slot), wX12_isKnown_5 Q n M x1 x2 → sy_H Y NZ EZ s H locs M → lv_has ls 5 [(0, .ref (Y.2.1 0)), (1, .int x1), (2, .int x2)] → W p l e ({ frames := 0, cells := 0, slots := 0, locals := 0 } : Room) s m args below meth c H locs 0 0 (sy_ZI below args s Y NZ EZ Q) (F0 m 5 ls []) := by
  have hx := C.1.1
  have hb := C.1.2.1
  intro n
  induction n with
  | zero =>
    intro M x1 x2 H locs ls hq hh hl
    unfold wX12_isKnown_5 at hq
    exact hq.elim
  | succ n ih =>
    intro M x1 x2 H locs ls hq hh hl
    unfold wX12_isKnown_5 at hq
    refine lv_iload_n hx hb dX12_isKnown_5 rfl (lv_at hl 2 rfl) ?_
    refine lv_bipush (v := (nI 41)) hx hb dX12_isKnown_6 (by decide) ?_
    refine lv_aload_n hx hb dX12_isKnown_8 rfl (lv_at hl 0 rfl) ?_
    refine sy_get C hh (fun w h => mc (uZ_fX12 w h)) 0 (by decide) (oZ_0 Y) rfl 14 (by decide) (index := 208) (mc uZ_140) (v := .int (M 0 14)) rfl dX12_isKnown_9 ?_
    refine lv_iadd hx hb dX12_isKnown_12 ?_
    refine lv_icmp_ge (tgt := 117) hx hb dX12_isKnown_13 (by decide) (fun c1 => ?_) (fun c1 => ?_)
    · have hq := hq.1 c1
      refine lv_iload_n hx hb dX12_isKnown_117 rfl (lv_at hl 1 rfl) ?_
      exact sy_zret C hh dX12_isKnown_118 hq.1 hq.2
    · have hq := hq.2 c1
      refine lv_aload_n hx hb dX12_isKnown_16 rfl (lv_at hl 0 rfl) ?_
      refine sy_get C hh (fun w h => mc (uZ_fX12 w h)) 0 (by decide) (oZ_0 Y) rfl 22 (by decide) (index := 49) (mc uZ_20) (v := .ref (Y.2.1 9)) rfl dX12_isKnown_17 ?_
      refine lv_iload_n hx hb dX12_isKnown_20 rfl (lv_at hl 2 rfl) ?_
      obtain ⟨n2, hn2, en2, hq⟩ := hq
      refine sy_iald C hh 9 (by decide) (aZ_9 Y) tZ_9 hn2 en2 (by decide) dX12_isKnown_21 ?_
      refine lv_aload_n hx hb dX12_isKnown_22 rfl (lv_at hl 0 rfl) ?_
      refine sy_get C hh (fun w h => mc (uZ_fX12 w h)) 0 (by decide) (oZ_0 Y) rfl 6 (by decide) (index := 152) (mc uZ_65) (v := .int (M 0 6)) rfl dX12_isKnown_23 ?_
      refine lv_aload_n hx hb dX12_isKnown_26 rfl (lv_at hl 0 rfl) ?_
      refine sy_get C hh (fun w h => mc (uZ_fX12 w h)) 0 (by decide) (oZ_0 Y) rfl 7 (by decide) (index := 155) (mc uZ_66) (v := .int (M 0 7)) rfl dX12_isKnown_27 ?_
      refine lv_isub hx hb dX12_isKnown_30 ?_
      refine lv_icmp_ne (tgt := 38) hx hb dX12_isKnown_31 (by decide) (fun c3 => ?_) (fun c3 => ?_)
      · have hq := hq.1 c3
        refine lv_iconst (v := (0 : Int32)) hx hb dX12_isKnown_38 (by decide) ?_
        refine lv_istore_n (lv' := [(3, .int (0 : Int32)), (0, .ref (Y.2.1 0)), (1, .int x1), (2, .int x2)]) hx hb dX12_isKnown_39 rfl hl (by decide) rfl (fun ls hl => ?_)
        refine lv_iconst (v := (0 : Int32)) hx hb dX12_isKnown_40 (by decide) ?_
        refine lv_istore (lv' := [(4, .int (0 : Int32)), (3, .int (0 : Int32)), (0, .ref (Y.2.1 0)), (1, .int x1), (2, .int x2)]) hx hb dX12_isKnown_41 hl (by decide) rfl (fun ls hl => ?_)
        obtain ⟨n19, hq⟩ := hq
        refine kX12_isKnown_43 C (fun M10 x1_11 x2_12 x3_13 H locs ls hq hh hl => ?_) n19 M x1 x2 (0 : Int32) (0 : Int32) _ _ _ hq hh (lv_sub hl [2, 3, 4, 1, 0] rfl)
        · refine kX12_isKnown_97 C (fun M16 x1_17 x2_18 H locs ls hq hh hl => ?_) M10 x1_11 x2_12 x3_13 _ _ _ hq hh (lv_sub hl [0, 1, 2, 3] rfl)
          · exact ih M16 x1_17 x2_18 _ _ _ hq hh (lv_sub hl [0, 1, 2] rfl)
      · have hq := hq.2 c3
        refine lv_iconst (v := (1 : Int32)) hx hb dX12_isKnown_34 (by decide) ?_
        refine lv_goto (tgt := 39) hx hb dX12_isKnown_35 (by decide) ?_
        refine lv_istore_n (lv' := [(3, .int (1 : Int32)), (0, .ref (Y.2.1 0)), (1, .int x1), (2, .int x2)]) hx hb dX12_isKnown_39 rfl hl (by decide) rfl (fun ls hl => ?_)
        refine lv_iconst (v := (0 : Int32)) hx hb dX12_isKnown_40 (by decide) ?_
        refine lv_istore (lv' := [(4, .int (0 : Int32)), (3, .int (1 : Int32)), (0, .ref (Y.2.1 0)), (1, .int x1), (2, .int x2)]) hx hb dX12_isKnown_41 hl (by decide) rfl (fun ls hl => ?_)
        obtain ⟨n27, hq⟩ := hq
        refine kX12_isKnown_43 C (fun M20 x1_21 x2_22 x3_23 H locs ls hq hh hl => ?_) n27 M x1 x2 (1 : Int32) (0 : Int32) _ _ _ hq hh (lv_sub hl [2, 3, 4, 1, 0] rfl)
        · refine kX12_isKnown_97 C (fun M24 x1_25 x2_26 H locs ls hq hh hl => ?_) M20 x1_21 x2_22 x3_23 _ _ _ hq hh (lv_sub hl [0, 1, 2, 3] rfl)
          · exact ih M24 x1_25 x2_26 _ _ _ hq hh (lv_sub hl [0, 1, 2] rfl)

end
set_option maxHeartbeats 4000000 in
set_option maxRecDepth 100000 in
theorem mX12_isKnown (l : Launch) (Y : sy_Y) (sz : Nat) (M : sy_M) (Q : Int32 → sy_M → Prop) (hq : wX12_isKnown M  Q) : Met l yX12_isKnown vsX12_isKnown ({ frames := 0, cells := 0, slots := 0, locals := 0 } : Room) (va_Pc [.ref (Y.2.1 0)] (sy_pre Y NZ EZ tfZ sz M)) (sy_QI Y NZ EZ sz Q) 0 0 (sy_A NZ Y.2.1 sz) := by
  refine sy_metI (by decide) rfl (Nat.le_of_ble_eq_true rfl) ?_
  intro p e s m args below meth c C ls hl hh
  have hx := C.1.1
  have hb := C.1.2.1
  have hl : lv_has ls 5 [(0, .ref (Y.2.1 0))] := hl
  unfold wX12_isKnown at hq
  refine lv_iconst (v := (0 : Int32)) hx hb dX12_isKnown_0 (by decide) ?_
  refine lv_istore_n (lv' := [(1, .int (0 : Int32)), (0, .ref (Y.2.1 0))]) hx hb dX12_isKnown_1 rfl hl (by decide) rfl (fun ls hl => ?_)
  refine lv_bipush (v := (nI 41)) hx hb dX12_isKnown_2 (by decide) ?_
  refine lv_istore_n (lv' := [(2, .int (nI 41)), (1, .int (0 : Int32)), (0, .ref (Y.2.1 0))]) hx hb dX12_isKnown_4 rfl hl (by decide) rfl (fun ls hl => ?_)
  obtain ⟨n28, hq⟩ := hq
  refine kX12_isKnown_5 C  n28 M (0 : Int32) (nI 41) _ _ _ hq hh (lv_sub hl [2, 1, 0] rfl)

/-! AreaSetterModel.newBox(I)I -/
def wX12_newBox_39 (Q : Int32 → sy_M → Prop) (M : sy_M) : Prop := wX12_fails M (nI 2) (fun M5 => Q (-1 : Int32) M5)
def wX12_newBox_160 (K_198 : sy_M → Int32 → Int32 → Prop) (Q : Int32 → sy_M → Prop) : Nat → sy_M → Int32 → Int32 → Int32 → Prop
  | 0, _, _, _, _ => False
  | n + 1, M, x1, x2, x3 => ∃ n15 : Nat, n15 < 82 ∧ x2 = nI n15 ∧ (((M 9 n15) ≤ x3 → K_198 M x1 x2) ∧ (¬ (M 9 n15) ≤ x3 → ∃ n17 : Nat, n17 < 1000 ∧ ((M 0 7) + x3) = nI n17 ∧ ∃ n18 : Nat, n18 < 656 ∧ (((nI 8) * x2) + x3) = nI n18 ∧ wX12_newBox_160 K_198 Q n (mu M 10 n18 (vp_nar .byte (M 1 n17))) x1 x2 (x3 + (1 : Int32))))
def wX12_newBox_213 (Q : Int32 → sy_M → Prop) (M : sy_M) (x2 : Int32) : Prop := wX12_next M (fun M23 => Q x2 M23)
def wX12_newBox_121 (Q : Int32 → sy_M → Prop) (M : sy_M) (x1 : Int32) (x2 : Int32) (s1 : Int32) (s2 : Int32) : Prop := ∃ n13 : Nat, n13 < 82 ∧ s1 = nI n13 ∧ ∃ n14 : Nat, n14 < 82 ∧ x2 = nI n14 ∧ ∃ n25 : Nat, wX12_newBox_160 (fun (M19 : sy_M) (x1_20 : Int32) (x2_21 : Int32) => ((x1_20 = (-1 : Int32) → wX12_newBox_213  Q M19 x2_21) ∧ (¬ x1_20 = (-1 : Int32) → ∃ n24 : Nat, n24 < 82 ∧ x1_20 = nI n24 ∧ wX12_newBox_213  Q (mu M19 4 n24 ((M19 4 n24) + (1 : Int32))) x2_21))) Q n25 (mu (mu (mu (mu (mu M 5 n13 s2) 6 n14 (0 : Int32)) 7 n14 (vp_nar .boolean (0 : Int32))) 8 n14 (0 : Int32)) 9 n14 ((M 0 6) - (M 0 7))) x1 x2 (0 : Int32)
def wX12_newBox_46 (Q : Int32 → sy_M → Prop) (M : sy_M) (x1 : Int32) : Prop := wX12_isKnown M (fun r8 M7 => ((r8 = 0 → ∃ n10 : Nat, n10 < 82 ∧ ((nI 41) + (M7 0 14)) = nI n10 ∧ ((¬ x1 = (-1 : Int32) → ∃ n12 : Nat, n12 < 82 ∧ x1 = nI n12 ∧ wX12_newBox_121  Q (mu (mu (mu (mu M7 0 14 ((M7 0 14) + (1 : Int32))) 2 n10 x1) 3 n10 (vp_nar .boolean (0 : Int32))) 4 n10 (0 : Int32)) x1 ((nI 41) + (M7 0 14)) ((nI 41) + (M7 0 14)) ((M7 5 n12) + (1 : Int32))) ∧ (x1 = (-1 : Int32) → wX12_newBox_121  Q (mu (mu (mu (mu M7 0 14 ((M7 0 14) + (1 : Int32))) 2 n10 x1) 3 n10 (vp_nar .boolean (0 : Int32))) 4 n10 (0 : Int32)) x1 ((nI 41) + (M7 0 14)) ((nI 41) + (M7 0 14)) (0 : Int32)))) ∧ (¬ r8 = 0 → wX12_fails M7 (nI 3) (fun M26 => Q (-1 : Int32) M26))))
def wX12_newBox (M : sy_M) (a1 : Int32) (Q : Int32 → sy_M → Prop) : Prop := wX12_isName M (fun r2 M1 => ((¬ r2 = 0 → (((M1 0 14) = (nI 40) → wX12_newBox_39  Q M1) ∧ (¬ (M1 0 14) = (nI 40) → ((a1 = (-1 : Int32) → wX12_newBox_46  Q M1 a1) ∧ (¬ a1 = (-1 : Int32) → ∃ n27 : Nat, n27 < 82 ∧ a1 = nI n27 ∧ ((¬ (M1 4 n27) = (nI 8) → wX12_newBox_46  Q M1 a1) ∧ ((M1 4 n27) = (nI 8) → wX12_newBox_39  Q M1))))))) ∧ (r2 = 0 → wX12_fails M1 (1 : Int32) (fun M29 => Q (-1 : Int32) M29))))
section
variable {p : Program} {l : Launch} {e : Env} {s : State} {m : MethodId} {args : Array Value} {below : List Frame} {meth : Method} {c : Code} {Y : sy_Y}
set_option maxHeartbeats 4000000 in
set_option maxRecDepth 100000 in
theorem kX12_newBox_39 (C : sy_C p m c cX12_newBox 4 s args vsX12_newBox RX12 meth (some .int) Y NZ tfZ) {Q : Int32 → sy_M → Prop} :
    ∀ (M : sy_M) (H : Heap) (locs : List Loc) (ls : Array Slot), wX12_newBox_39 Q M → sy_H Y NZ EZ s H locs M → lv_has ls 4 [(0, .ref (Y.2.1 0))] → W p l e ({ frames := 9, cells := 0, slots := 0, locals := 262 } : Room) s m args below meth c H locs 0 0 (sy_ZI below args s Y NZ EZ Q) (F0 m 39 ls []) := by
  have hx := C.1.1
  have hb := C.1.2.1
  intro M H locs ls hq hh hl
  unfold wX12_newBox_39 at hq
  refine lv_aload_n hx hb dX12_newBox_39 rfl (lv_at hl 0 rfl) ?_
  refine lv_iconst (v := (nI 2)) hx hb dX12_newBox_40 (by decide) ?_
  refine sy_cVV C hh (As := [.int (nI 2)]) (rest := []) 0 (by decide) (oZ_0 Y) rfl (mX12_fails l Y _ M (nI 2) _ hq) (cwV 1 C.1.2.2.2.2 (sy_goodV uZ_good uZ_144 uZ_145 uZ_146 uZ_55 uZ_135 _) rfl rfl rfl hdX12_fails ⟨Nat.le_of_ble_eq_true rfl, Nat.le_of_ble_eq_true rfl⟩) rfl hl.1 rfl (Nat.le_of_ble_eq_true rfl) dX12_newBox_41 (fun M5 H locs hq hh => ?_)
  refine lv_iconst (v := (-1 : Int32)) hx hb dX12_newBox_44 (by decide) ?_
  exact sy_iret C hh dX12_newBox_45 hq

set_option maxHeartbeats 4000000 in
set_option maxRecDepth 100000 in
theorem kX12_newBox_160 (C : sy_C p m c cX12_newBox 4 s args vsX12_newBox RX12 meth (some .int) Y NZ tfZ) {Q : Int32 → sy_M → Prop} {K_198 : sy_M → Int32 → Int32 → Prop} (hK_198 : ∀ (M : sy_M) (x1 : Int32) (x2 : Int32) (H : Heap) (locs : List Loc) (ls : Array Slot), K_198 M x1 x2 → sy_H Y NZ EZ s H locs M → lv_has ls 4 [(0, .ref (Y.2.1 0)), (1, .int x1), (2, .int x2)] → W p l e ({ frames := 9, cells := 0, slots := 0, locals := 262 } : Room) s m args below meth c H locs 0 0 (sy_ZI below args s Y NZ EZ Q) (F0 m 198 ls [])) :
    ∀ (n : Nat) (M : sy_M) (x1 : Int32) (x2 : Int32) (x3 : Int32) (H : Heap) (locs : List Loc) (ls : Array Slot), wX12_newBox_160 K_198 Q n M x1 x2 x3 → sy_H Y NZ EZ s H locs M → lv_has ls 4 [(0, .ref (Y.2.1 0)), (1, .int x1), (2, .int x2), (3, .int x3)] → W p l e ({ frames := 9, cells := 0, slots := 0, locals := 262 } : Room) s m args below meth c H locs 0 0 (sy_ZI below args s Y NZ EZ Q) (F0 m 160 ls []) := by
  have hx := C.1.1
  have hb := C.1.2.1
  intro n
  induction n with
  | zero =>
    intro M x1 x2 x3 H locs ls hq hh hl
    unfold wX12_newBox_160 at hq
    exact hq.elim
  | succ n ih =>
    intro M x1 x2 x3 H locs ls hq hh hl
    unfold wX12_newBox_160 at hq
    refine lv_iload_n hx hb dX12_newBox_160 rfl (lv_at hl 3 rfl) ?_
    refine lv_aload_n hx hb dX12_newBox_161 rfl (lv_at hl 0 rfl) ?_
    refine sy_get C hh (fun w h => mc (uZ_fX12 w h)) 0 (by decide) (oZ_0 Y) rfl 22 (by decide) (index := 49) (mc uZ_20) (v := .ref (Y.2.1 9)) rfl dX12_newBox_162 ?_
    refine lv_iload_n hx hb dX12_newBox_165 rfl (lv_at hl 2 rfl) ?_
    obtain ⟨n15, hn15, en15, hq⟩ := hq
    refine sy_iald C hh 9 (by decide) (aZ_9 Y) tZ_9 hn15 en15 (by decide) dX12_newBox_166 ?_
    refine lv_icmp_ge (tgt := 198) hx hb dX12_newBox_167 (by decide) (fun c16 => ?_) (fun c16 => ?_)
    · have hq := hq.1 c16
      exact hK_198 M x1 x2 _ _ _ hq hh (lv_sub hl [0, 1, 2] rfl)
    · have hq := hq.2 c16
      refine lv_aload_n hx hb dX12_newBox_170 rfl (lv_at hl 0 rfl) ?_
      refine sy_get C hh (fun w h => mc (uZ_fX12 w h)) 0 (by decide) (oZ_0 Y) rfl 23 (by decide) (index := 52) (mc uZ_21) (v := .ref (Y.2.1 10)) rfl dX12_newBox_171 ?_
      refine lv_bipush (v := (nI 8)) hx hb dX12_newBox_174 (by decide) ?_
      refine lv_iload_n hx hb dX12_newBox_176 rfl (lv_at hl 2 rfl) ?_
      refine lv_imul hx hb dX12_newBox_177 ?_
      refine lv_iload_n hx hb dX12_newBox_178 rfl (lv_at hl 3 rfl) ?_
      refine lv_iadd hx hb dX12_newBox_179 ?_
      refine lv_aload_n hx hb dX12_newBox_180 rfl (lv_at hl 0 rfl) ?_
      refine sy_get C hh (fun w h => mc (uZ_fX12 w h)) 0 (by decide) (oZ_0 Y) rfl 4 (by decide) (index := 19) (mc uZ_9) (v := .ref (Y.2.1 1)) rfl dX12_newBox_181 ?_
      refine lv_aload_n hx hb dX12_newBox_184 rfl (lv_at hl 0 rfl) ?_
      refine sy_get C hh (fun w h => mc (uZ_fX12 w h)) 0 (by decide) (oZ_0 Y) rfl 7 (by decide) (index := 155) (mc uZ_66) (v := .int (M 0 7)) rfl dX12_newBox_185 ?_
      refine lv_iload_n hx hb dX12_newBox_188 rfl (lv_at hl 3 rfl) ?_
      refine lv_iadd hx hb dX12_newBox_189 ?_
      obtain ⟨n17, hn17, en17, hq⟩ := hq
      refine sy_bald C hh 1 (by decide) (aZ_1 Y) tZ_1 hn17 en17 (by decide) dX12_newBox_190 ?_
      obtain ⟨n18, hn18, en18, hq⟩ := hq
      refine sy_bast C hh 10 (by decide) (aZ_10 Y) tZ_10 hn18 en18 (by decide) dX12_newBox_191 (fun H locs hh => ?_)
      refine lv_iinc (v := (x3 + (1 : Int32))) (lv' := [(3, .int (x3 + (1 : Int32))), (0, .ref (Y.2.1 0)), (1, .int x1), (2, .int x2)]) hx hb dX12_newBox_192 hl (k := 3) rfl (sy_inc (by decide)) (by decide) rfl (fun ls hl => ?_)
      refine lv_goto (tgt := 160) hx hb dX12_newBox_195 (by decide) ?_
      exact ih (mu M 10 n18 (vp_nar .byte (M 1 n17))) x1 x2 (x3 + (1 : Int32)) _ _ _ hq hh (lv_sub hl [1, 2, 3, 0] rfl)

set_option maxHeartbeats 4000000 in
set_option maxRecDepth 100000 in
theorem kX12_newBox_213 (C : sy_C p m c cX12_newBox 4 s args vsX12_newBox RX12 meth (some .int) Y NZ tfZ) {Q : Int32 → sy_M → Prop} :
    ∀ (M : sy_M) (x2 : Int32) (H : Heap) (locs : List Loc) (ls : Array Slot), wX12_newBox_213 Q M x2 → sy_H Y NZ EZ s H locs M → lv_has ls 4 [(0, .ref (Y.2.1 0)), (2, .int x2)] → W p l e ({ frames := 9, cells := 0, slots := 0, locals := 262 } : Room) s m args below meth c H locs 0 0 (sy_ZI below args s Y NZ EZ Q) (F0 m 213 ls []) := by
  have hx := C.1.1
  have hb := C.1.2.1
  intro M x2 H locs ls hq hh hl
  unfold wX12_newBox_213 at hq
  refine lv_aload_n hx hb dX12_newBox_213 rfl (lv_at hl 0 rfl) ?_
  refine sy_cVV C hh (As := []) (rest := []) 0 (by decide) (oZ_0 Y) rfl (mX12_next l Y _ M  _ hq) (cwV 0 C.1.2.2.2.2 (sy_goodV uZ_good uZ_150 uZ_151 uZ_152 uZ_55 uZ_64 _) rfl rfl rfl hdX12_next ⟨Nat.le_of_ble_eq_true rfl, Nat.le_of_ble_eq_true rfl⟩) rfl hl.1 rfl (Nat.le_of_ble_eq_true rfl) dX12_newBox_214 (fun M23 H locs hq hh => ?_)
  refine lv_iload_n hx hb dX12_newBox_217 rfl (lv_at hl 1 rfl) ?_
  exact sy_iret C hh dX12_newBox_218 hq

set_option maxHeartbeats 4000000 in
set_option maxRecDepth 100000 in
theorem kX12_newBox_121 (C : sy_C p m c cX12_newBox 4 s args vsX12_newBox RX12 meth (some .int) Y NZ tfZ) {Q : Int32 → sy_M → Prop} :
    ∀ (M : sy_M) (x1 : Int32) (x2 : Int32) (s1 : Int32) (s2 : Int32) (H : Heap) (locs : List Loc) (ls : Array Slot), wX12_newBox_121 Q M x1 x2 s1 s2 → sy_H Y NZ EZ s H locs M → lv_has ls 4 [(0, .ref (Y.2.1 0)), (1, .int x1), (2, .int x2)] → W p l e ({ frames := 9, cells := 0, slots := 0, locals := 262 } : Room) s m args below meth c H locs 0 0 (sy_ZI below args s Y NZ EZ Q) (F0 m 121 ls [.int s2, .int s1, .ref (Y.2.1 5)]) := by
  have hx := C.1.1
  have hb := C.1.2.1
  intro M x1 x2 s1 s2 H locs ls hq hh hl
  unfold wX12_newBox_121 at hq
  obtain ⟨n13, hn13, en13, hq⟩ := hq
  refine sy_iast C hh 5 (by decide) (aZ_5 Y) tZ_5 hn13 en13 (by decide) dX12_newBox_121 (fun H locs hh => ?_)
  refine lv_aload_n hx hb dX12_newBox_122 rfl (lv_at hl 0 rfl) ?_
  refine sy_get C hh (fun w h => mc (uZ_fX12 w h)) 0 (by decide) (oZ_0 Y) rfl 19 (by decide) (index := 40) (mc uZ_17) (v := .ref (Y.2.1 6)) rfl dX12_newBox_123 ?_
  refine lv_iload_n hx hb dX12_newBox_126 rfl (lv_at hl 2 rfl) ?_
  refine lv_iconst (v := (0 : Int32)) hx hb dX12_newBox_127 (by decide) ?_
  obtain ⟨n14, hn14, en14, hq⟩ := hq
  refine sy_iast C hh 6 (by decide) (aZ_6 Y) tZ_6 hn14 en14 (by decide) dX12_newBox_128 (fun H locs hh => ?_)
  refine lv_aload_n hx hb dX12_newBox_129 rfl (lv_at hl 0 rfl) ?_
  refine sy_get C hh (fun w h => mc (uZ_fX12 w h)) 0 (by decide) (oZ_0 Y) rfl 20 (by decide) (index := 43) (mc uZ_18) (v := .ref (Y.2.1 7)) rfl dX12_newBox_130 ?_
  refine lv_iload_n hx hb dX12_newBox_133 rfl (lv_at hl 2 rfl) ?_
  refine lv_iconst (v := (0 : Int32)) hx hb dX12_newBox_134 (by decide) ?_
  refine sy_zast C hh 7 (by decide) (aZ_7 Y) tZ_7 hn14 en14 (by decide) dX12_newBox_135 (fun H locs hh => ?_)
  refine lv_aload_n hx hb dX12_newBox_136 rfl (lv_at hl 0 rfl) ?_
  refine sy_get C hh (fun w h => mc (uZ_fX12 w h)) 0 (by decide) (oZ_0 Y) rfl 21 (by decide) (index := 46) (mc uZ_19) (v := .ref (Y.2.1 8)) rfl dX12_newBox_137 ?_
  refine lv_iload_n hx hb dX12_newBox_140 rfl (lv_at hl 2 rfl) ?_
  refine lv_iconst (v := (0 : Int32)) hx hb dX12_newBox_141 (by decide) ?_
  refine sy_iast C hh 8 (by decide) (aZ_8 Y) tZ_8 hn14 en14 (by decide) dX12_newBox_142 (fun H locs hh => ?_)
  refine lv_aload_n hx hb dX12_newBox_143 rfl (lv_at hl 0 rfl) ?_
  refine sy_get C hh (fun w h => mc (uZ_fX12 w h)) 0 (by decide) (oZ_0 Y) rfl 22 (by decide) (index := 49) (mc uZ_20) (v := .ref (Y.2.1 9)) rfl dX12_newBox_144 ?_
  refine lv_iload_n hx hb dX12_newBox_147 rfl (lv_at hl 2 rfl) ?_
  refine lv_aload_n hx hb dX12_newBox_148 rfl (lv_at hl 0 rfl) ?_
  refine sy_get C hh (fun w h => mc (uZ_fX12 w h)) 0 (by decide) (oZ_0 Y) rfl 6 (by decide) (index := 152) (mc uZ_65) (v := .int (M 0 6)) rfl dX12_newBox_149 ?_
  refine lv_aload_n hx hb dX12_newBox_152 rfl (lv_at hl 0 rfl) ?_
  refine sy_get C hh (fun w h => mc (uZ_fX12 w h)) 0 (by decide) (oZ_0 Y) rfl 7 (by decide) (index := 155) (mc uZ_66) (v := .int (M 0 7)) rfl dX12_newBox_153 ?_
  refine lv_isub hx hb dX12_newBox_156 ?_
  refine sy_iast C hh 9 (by decide) (aZ_9 Y) tZ_9 hn14 en14 (by decide) dX12_newBox_157 (fun H locs hh => ?_)
  refine lv_iconst (v := (0 : Int32)) hx hb dX12_newBox_158 (by decide) ?_
  refine lv_istore_n (lv' := [(3, .int (0 : Int32)), (0, .ref (Y.2.1 0)), (1, .int x1), (2, .int x2)]) hx hb dX12_newBox_159 rfl hl (by decide) rfl (fun ls hl => ?_)
  obtain ⟨n25, hq⟩ := hq
  refine kX12_newBox_160 C (fun M19 x1_20 x2_21 H locs ls hq hh hl => ?_) n25 (mu (mu (mu (mu (mu M 5 n13 s2) 6 n14 (0 : Int32)) 7 n14 (vp_nar .boolean (0 : Int32))) 8 n14 (0 : Int32)) 9 n14 ((M 0 6) - (M 0 7))) x1 x2 (0 : Int32) _ _ _ hq hh (lv_sub hl [1, 2, 3, 0] rfl)
  · refine lv_iload_n hx hb dX12_newBox_198 rfl (lv_at hl 1 rfl) ?_
    refine lv_iconst (v := (-1 : Int32)) hx hb dX12_newBox_199 (by decide) ?_
    refine lv_icmp_eq (tgt := 213) hx hb dX12_newBox_200 (by decide) (fun c22 => ?_) (fun c22 => ?_)
    · have hq := hq.1 c22
      refine kX12_newBox_213 C  M19 x2_21 _ _ _ hq hh (lv_sub hl [0, 2] rfl)
    · have hq := hq.2 c22
      refine lv_aload_n hx hb dX12_newBox_203 rfl (lv_at hl 0 rfl) ?_
      refine sy_get C hh (fun w h => mc (uZ_fX12 w h)) 0 (by decide) (oZ_0 Y) rfl 17 (by decide) (index := 34) (mc uZ_15) (v := .ref (Y.2.1 4)) rfl dX12_newBox_204 ?_
      refine lv_iload_n hx hb dX12_newBox_207 rfl (lv_at hl 1 rfl) ?_
      refine lv_dup2_11 hx hb dX12_newBox_208 rfl rfl ?_
      obtain ⟨n24, hn24, en24, hq⟩ := hq
      refine sy_iald C hh 4 (by decide) (aZ_4 Y) tZ_4 hn24 en24 (by decide) dX12_newBox_209 ?_
      refine lv_iconst (v := (1 : Int32)) hx hb dX12_newBox_210 (by decide) ?_
      refine lv_iadd hx hb dX12_newBox_211 ?_
      refine sy_iast C hh 4 (by decide) (aZ_4 Y) tZ_4 hn24 en24 (by decide) dX12_newBox_212 (fun H locs hh => ?_)
      refine kX12_newBox_213 C  (mu M19 4 n24 ((M19 4 n24) + (1 : Int32))) x2_21 _ _ _ hq hh (lv_sub hl [0, 2] rfl)

set_option maxHeartbeats 4000000 in
set_option maxRecDepth 100000 in
theorem kX12_newBox_46 (C : sy_C p m c cX12_newBox 4 s args vsX12_newBox RX12 meth (some .int) Y NZ tfZ) {Q : Int32 → sy_M → Prop} :
    ∀ (M : sy_M) (x1 : Int32) (H : Heap) (locs : List Loc) (ls : Array Slot), wX12_newBox_46 Q M x1 → sy_H Y NZ EZ s H locs M → lv_has ls 4 [(0, .ref (Y.2.1 0)), (1, .int x1)] → W p l e ({ frames := 9, cells := 0, slots := 0, locals := 262 } : Room) s m args below meth c H locs 0 0 (sy_ZI below args s Y NZ EZ Q) (F0 m 46 ls []) := by
  have hx := C.1.1
  have hb := C.1.2.1
  intro M x1 H locs ls hq hh hl
  unfold wX12_newBox_46 at hq
  refine lv_aload_n hx hb dX12_newBox_46 rfl (lv_at hl 0 rfl) ?_
  refine sy_cIV C hh (As := []) (rest := []) 0 (by decide) (oZ_0 Y) rfl (mX12_isKnown l Y _ M  _ hq) (cwV 0 C.1.2.2.2.2 (sy_goodV uZ_good uZ_147 uZ_148 uZ_149 uZ_55 uZ_139 _) rfl rfl rfl hdX12_isKnown ⟨Nat.le_of_ble_eq_true rfl, Nat.le_of_ble_eq_true rfl⟩) rfl hl.1 rfl (Nat.le_of_ble_eq_true rfl) dX12_newBox_47 (fun r8 M7 H locs hq hh => ?_)
  refine lv_if_eq (tgt := 60) hx hb dX12_newBox_50 (by decide) (fun c9 => ?_) (fun c9 => ?_)
  · have hq := hq.1 c9
    refine lv_bipush (v := (nI 41)) hx hb dX12_newBox_60 (by decide) ?_
    refine lv_aload_n hx hb dX12_newBox_62 rfl (lv_at hl 0 rfl) ?_
    refine sy_get C hh (fun w h => mc (uZ_fX12 w h)) 0 (by decide) (oZ_0 Y) rfl 14 (by decide) (index := 208) (mc uZ_140) (v := .int (M7 0 14)) rfl dX12_newBox_63 ?_
    refine lv_iadd hx hb dX12_newBox_66 ?_
    refine lv_istore_n (lv' := [(2, .int ((nI 41) + (M7 0 14))), (0, .ref (Y.2.1 0)), (1, .int x1)]) hx hb dX12_newBox_67 rfl hl (by decide) rfl (fun ls hl => ?_)
    refine lv_aload_n hx hb dX12_newBox_68 rfl (lv_at hl 1 rfl) ?_
    refine lv_dup hx hb dX12_newBox_69 rfl ?_
    refine sy_get C hh (fun w h => mc (uZ_fX12 w h)) 0 (by decide) (oZ_0 Y) rfl 14 (by decide) (index := 208) (mc uZ_140) (v := .int (M7 0 14)) rfl dX12_newBox_70 ?_
    refine lv_iconst (v := (1 : Int32)) hx hb dX12_newBox_73 (by decide) ?_
    refine lv_iadd hx hb dX12_newBox_74 ?_
    refine sy_put C hh (fun w h => mc (uZ_fX12 w h)) tyX12 tyX12_ok nmX12 0 (by decide) (oZ_0 Y) rfl 14 (by decide) (index := 208) (mc uZ_140) rfl 14 ((M7 0 14) + (1 : Int32)) (ty := .int) (tyX12_ok 14 (by decide)) rfl rfl (Nat.le_of_ble_eq_true rfl) (pX12_14 Y _ _ _) dX12_newBox_75 (fun H locs hh => ?_)
    refine lv_aload_n hx hb dX12_newBox_78 rfl (lv_at hl 1 rfl) ?_
    refine sy_get C hh (fun w h => mc (uZ_fX12 w h)) 0 (by decide) (oZ_0 Y) rfl 15 (by decide) (index := 26) (mc uZ_12) (v := .ref (Y.2.1 2)) rfl dX12_newBox_79 ?_
    refine lv_iload_n hx hb dX12_newBox_82 rfl (lv_at hl 0 rfl) ?_
    refine lv_iload_n hx hb dX12_newBox_83 rfl (lv_at hl 2 rfl) ?_
    obtain ⟨n10, hn10, en10, hq⟩ := hq
    refine sy_iast C hh 2 (by decide) (aZ_2 Y) tZ_2 hn10 en10 (by decide) dX12_newBox_84 (fun H locs hh => ?_)
    refine lv_aload_n hx hb dX12_newBox_85 rfl (lv_at hl 1 rfl) ?_
    refine sy_get C hh (fun w h => mc (uZ_fX12 w h)) 0 (by decide) (oZ_0 Y) rfl 16 (by decide) (index := 30) (mc uZ_14) (v := .ref (Y.2.1 3)) rfl dX12_newBox_86 ?_
    refine lv_iload_n hx hb dX12_newBox_89 rfl (lv_at hl 0 rfl) ?_
    refine lv_iconst (v := (0 : Int32)) hx hb dX12_newBox_90 (by decide) ?_
    refine sy_zast C hh 3 (by decide) (aZ_3 Y) tZ_3 hn10 en10 (by decide) dX12_newBox_91 (fun H locs hh => ?_)
    refine lv_aload_n hx hb dX12_newBox_92 rfl (lv_at hl 1 rfl) ?_
    refine sy_get C hh (fun w h => mc (uZ_fX12 w h)) 0 (by decide) (oZ_0 Y) rfl 17 (by decide) (index := 34) (mc uZ_15) (v := .ref (Y.2.1 4)) rfl dX12_newBox_93 ?_
    refine lv_iload_n hx hb dX12_newBox_96 rfl (lv_at hl 0 rfl) ?_
    refine lv_iconst (v := (0 : Int32)) hx hb dX12_newBox_97 (by decide) ?_
    refine sy_iast C hh 4 (by decide) (aZ_4 Y) tZ_4 hn10 en10 (by decide) dX12_newBox_98 (fun H locs hh => ?_)
    refine lv_aload_n hx hb dX12_newBox_99 rfl (lv_at hl 1 rfl) ?_
    refine sy_get C hh (fun w h => mc (uZ_fX12 w h)) 0 (by decide) (oZ_0 Y) rfl 18 (by decide) (index := 37) (mc uZ_16) (v := .ref (Y.2.1 5)) rfl dX12_newBox_100 ?_
    refine lv_iload_n hx hb dX12_newBox_103 rfl (lv_at hl 0 rfl) ?_
    refine lv_iload_n hx hb dX12_newBox_104 rfl (lv_at hl 2 rfl) ?_
    refine lv_iconst (v := (-1 : Int32)) hx hb dX12_newBox_105 (by decide) ?_
    refine lv_icmp_ne (tgt := 113) hx hb dX12_newBox_106 (by decide) (fun c11 => ?_) (fun c11 => ?_)
    · have hq := hq.1 c11
      refine lv_aload_n hx hb dX12_newBox_113 rfl (lv_at hl 1 rfl) ?_
      refine sy_get C hh (fun w h => mc (uZ_fX12 w h)) 0 (by decide) (oZ_0 Y) rfl 18 (by decide) (index := 37) (mc uZ_16) (v := .ref (Y.2.1 5)) rfl dX12_newBox_114 ?_
      refine lv_iload_n hx hb dX12_newBox_117 rfl (lv_at hl 2 rfl) ?_
      obtain ⟨n12, hn12, en12, hq⟩ := hq
      refine sy_iald C hh 5 (by decide) (aZ_5 Y) tZ_5 hn12 en12 (by decide) dX12_newBox_118 ?_
      refine lv_iconst (v := (1 : Int32)) hx hb dX12_newBox_119 (by decide) ?_
      refine lv_iadd hx hb dX12_newBox_120 ?_
      refine kX12_newBox_121 C  (mu (mu (mu (mu M7 0 14 ((M7 0 14) + (1 : Int32))) 2 n10 x1) 3 n10 (vp_nar .boolean (0 : Int32))) 4 n10 (0 : Int32)) x1 ((nI 41) + (M7 0 14)) ((nI 41) + (M7 0 14)) ((M7 5 n12) + (1 : Int32)) _ _ _ hq hh (lv_sub hl [1, 2, 0] rfl)
    · have hq := hq.2 c11
      refine lv_iconst (v := (0 : Int32)) hx hb dX12_newBox_109 (by decide) ?_
      refine lv_goto (tgt := 121) hx hb dX12_newBox_110 (by decide) ?_
      refine kX12_newBox_121 C  (mu (mu (mu (mu M7 0 14 ((M7 0 14) + (1 : Int32))) 2 n10 x1) 3 n10 (vp_nar .boolean (0 : Int32))) 4 n10 (0 : Int32)) x1 ((nI 41) + (M7 0 14)) ((nI 41) + (M7 0 14)) (0 : Int32) _ _ _ hq hh (lv_sub hl [1, 2, 0] rfl)
  · have hq := hq.2 c9
    refine lv_aload_n hx hb dX12_newBox_53 rfl (lv_at hl 0 rfl) ?_
    refine lv_iconst (v := (nI 3)) hx hb dX12_newBox_54 (by decide) ?_
    refine sy_cVV C hh (As := [.int (nI 3)]) (rest := []) 0 (by decide) (oZ_0 Y) rfl (mX12_fails l Y _ M7 (nI 3) _ hq) (cwV 1 C.1.2.2.2.2 (sy_goodV uZ_good uZ_144 uZ_145 uZ_146 uZ_55 uZ_135 _) rfl rfl rfl hdX12_fails ⟨Nat.le_of_ble_eq_true rfl, Nat.le_of_ble_eq_true rfl⟩) rfl hl.1 rfl (Nat.le_of_ble_eq_true rfl) dX12_newBox_55 (fun M26 H locs hq hh => ?_)
    refine lv_iconst (v := (-1 : Int32)) hx hb dX12_newBox_58 (by decide) ?_
    exact sy_iret C hh dX12_newBox_59 hq

end
set_option maxHeartbeats 4000000 in
set_option maxRecDepth 100000 in
theorem mX12_newBox (l : Launch) (Y : sy_Y) (sz : Nat) (M : sy_M) (a1 : Int32) (Q : Int32 → sy_M → Prop) (hq : wX12_newBox M a1 Q) : Met l yX12_newBox vsX12_newBox ({ frames := 9, cells := 0, slots := 0, locals := 262 } : Room) (va_Pc [.ref (Y.2.1 0), .int a1] (sy_pre Y NZ EZ tfZ sz M)) (sy_QI Y NZ EZ sz Q) 0 0 (sy_A NZ Y.2.1 sz) := by
  refine sy_metI (by decide) rfl (Nat.le_of_ble_eq_true rfl) ?_
  intro p e s m args below meth c C ls hl hh
  have hx := C.1.1
  have hb := C.1.2.1
  have hl : lv_has ls 4 [(0, .ref (Y.2.1 0)), (1, .int a1)] := hl
  unfold wX12_newBox at hq
  refine lv_aload_n hx hb dX12_newBox_0 rfl (lv_at hl 0 rfl) ?_
  refine sy_cIV C hh (As := []) (rest := []) 0 (by decide) (oZ_0 Y) rfl (mX12_isName l Y _ M  _ hq) (cwV 0 C.1.2.2.2.2 (sy_goodV uZ_good uZ_141 uZ_142 uZ_143 uZ_55 uZ_133 _) rfl rfl rfl hdX12_isName ⟨Nat.le_of_ble_eq_true rfl, Nat.le_of_ble_eq_true rfl⟩) rfl hl.1 rfl (Nat.le_of_ble_eq_true rfl) dX12_newBox_1 (fun r2 M1 H locs hq hh => ?_)
  refine lv_if_ne (tgt := 14) hx hb dX12_newBox_4 (by decide) (fun c3 => ?_) (fun c3 => ?_)
  · have hq := hq.1 c3
    refine lv_aload_n hx hb dX12_newBox_14 rfl (lv_at hl 0 rfl) ?_
    refine sy_get C hh (fun w h => mc (uZ_fX12 w h)) 0 (by decide) (oZ_0 Y) rfl 14 (by decide) (index := 208) (mc uZ_140) (v := .int (M1 0 14)) rfl dX12_newBox_15 ?_
    refine lv_bipush (v := (nI 40)) hx hb dX12_newBox_18 (by decide) ?_
    refine lv_icmp_eq (tgt := 39) hx hb dX12_newBox_20 (by decide) (fun c4 => ?_) (fun c4 => ?_)
    · have hq := hq.1 c4
      refine kX12_newBox_39 C  M1  _ _ _ hq hh (lv_sub hl [0] rfl)
    · have hq := hq.2 c4
      refine lv_iload_n hx hb dX12_newBox_23 rfl (lv_at hl 1 rfl) ?_
      refine lv_iconst (v := (-1 : Int32)) hx hb dX12_newBox_24 (by decide) ?_
      refine lv_icmp_eq (tgt := 46) hx hb dX12_newBox_25 (by decide) (fun c6 => ?_) (fun c6 => ?_)
      · have hq := hq.1 c6
        refine kX12_newBox_46 C  M1 a1 _ _ _ hq hh (lv_sub hl [0, 1] rfl)
      · have hq := hq.2 c6
        refine lv_aload_n hx hb dX12_newBox_28 rfl (lv_at hl 0 rfl) ?_
        refine sy_get C hh (fun w h => mc (uZ_fX12 w h)) 0 (by decide) (oZ_0 Y) rfl 17 (by decide) (index := 34) (mc uZ_15) (v := .ref (Y.2.1 4)) rfl dX12_newBox_29 ?_
        refine lv_iload_n hx hb dX12_newBox_32 rfl (lv_at hl 1 rfl) ?_
        obtain ⟨n27, hn27, en27, hq⟩ := hq
        refine sy_iald C hh 4 (by decide) (aZ_4 Y) tZ_4 hn27 en27 (by decide) dX12_newBox_33 ?_
        refine lv_bipush (v := (nI 8)) hx hb dX12_newBox_34 (by decide) ?_
        refine lv_icmp_ne (tgt := 46) hx hb dX12_newBox_36 (by decide) (fun c28 => ?_) (fun c28 => ?_)
        · have hq := hq.1 c28
          refine kX12_newBox_46 C  M1 a1 _ _ _ hq hh (lv_sub hl [0, 1] rfl)
        · have hq := hq.2 c28
          refine kX12_newBox_39 C  M1  _ _ _ hq hh (lv_sub hl [0] rfl)
  · have hq := hq.2 c3
    refine lv_aload_n hx hb dX12_newBox_7 rfl (lv_at hl 0 rfl) ?_
    refine lv_iconst (v := (1 : Int32)) hx hb dX12_newBox_8 (by decide) ?_
    refine sy_cVV C hh (As := [.int (1 : Int32)]) (rest := []) 0 (by decide) (oZ_0 Y) rfl (mX12_fails l Y _ M1 (1 : Int32) _ hq) (cwV 1 C.1.2.2.2.2 (sy_goodV uZ_good uZ_144 uZ_145 uZ_146 uZ_55 uZ_135 _) rfl rfl rfl hdX12_fails ⟨Nat.le_of_ble_eq_true rfl, Nat.le_of_ble_eq_true rfl⟩) rfl hl.1 rfl (Nat.le_of_ble_eq_true rfl) dX12_newBox_9 (fun M29 H locs hq hh => ?_)
    refine lv_iconst (v := (-1 : Int32)) hx hb dX12_newBox_12 (by decide) ?_
    exact sy_iret C hh dX12_newBox_13 hq

