/-! AreaSetterModel.place()I -/
def wX12_place (M : sy_M)  (Q : Int32 → sy_M → Prop) : Prop := Q (M 0 12) (mu M 0 0 (0 : Int32))
section
variable {p : Program} {l : Launch} {e : Env} {s : State} {m : MethodId} {args : Array Value} {below : List Frame} {meth : Method} {c : Code} {Y : sy_Y}
end
set_option maxHeartbeats 4000000 in
set_option maxRecDepth 100000 in
theorem mX12_place (l : Launch) (Y : sy_Y) (sz : Nat) (M : sy_M) (Q : Int32 → sy_M → Prop) (hq : wX12_place M  Q) : Met l yX12_place vsX12_place ({ frames := 0, cells := 0, slots := 0, locals := 0 } : Room) (va_Pc [.ref (Y.2.1 0)] (sy_pre Y NZ EZ tfZ sz M)) (sy_QI Y NZ EZ sz Q) 0 0 (sy_A NZ Y.2.1 sz) := by
  refine sy_metI (by decide) rfl (Nat.le_of_ble_eq_true rfl) ?_
  intro p e s m args below meth c C ls hl hh
  have hx := C.1.1
  have hb := C.1.2.1
  have hl : lv_has ls 1 [(0, .ref (Y.2.1 0))] := hl
  unfold wX12_place at hq
  refine lv_aload_n hx hb dX12_place_0 rfl (lv_at hl 0 rfl) ?_
  refine lv_iconst (v := (0 : Int32)) hx hb dX12_place_1 (by decide) ?_
  refine sy_put C hh (fun w h => mc (uZ_fX12 w h)) tyX12 tyX12_ok nmX12 0 (by decide) (oZ_0 Y) rfl 0 (by decide) (index := 1) (mc uZ_1) rfl 0 (0 : Int32) (ty := .int) (tyX12_ok 0 (by decide)) rfl rfl (Nat.le_of_ble_eq_true rfl) (pX12_0 Y _ _ _) dX12_place_2 (fun H locs hh => ?_)
  refine lv_aload_n hx hb dX12_place_5 rfl (lv_at hl 0 rfl) ?_
  refine sy_get C hh (fun w h => mc (uZ_fX12 w h)) 0 (by decide) (oZ_0 Y) rfl 12 (by decide) (index := 23) (mc uZ_10) (v := .int (M 0 12)) rfl dX12_place_6 ?_
  exact sy_iret C hh dX12_place_9 hq

/-! AreaSetterModel.isBox(I)Z -/
def wX12_isBox (M : sy_M) (a1 : Int32) (Q : Int32 → sy_M → Prop) : Prop := ((a1 < 0 → Q (0 : Int32) M) ∧ (¬ a1 < 0 → (((M 0 13) ≤ a1 → Q (0 : Int32) M) ∧ (¬ (M 0 13) ≤ a1 → Q (1 : Int32) M))))
section
variable {p : Program} {l : Launch} {e : Env} {s : State} {m : MethodId} {args : Array Value} {below : List Frame} {meth : Method} {c : Code} {Y : sy_Y}
end
set_option maxHeartbeats 4000000 in
set_option maxRecDepth 100000 in
theorem mX12_isBox (l : Launch) (Y : sy_Y) (sz : Nat) (M : sy_M) (a1 : Int32) (Q : Int32 → sy_M → Prop) (hq : wX12_isBox M a1 Q) : Met l yX12_isBox vsX12_isBox ({ frames := 0, cells := 0, slots := 0, locals := 0 } : Room) (va_Pc [.ref (Y.2.1 0), .int a1] (sy_pre Y NZ EZ tfZ sz M)) (sy_QI Y NZ EZ sz Q) 0 0 (sy_A NZ Y.2.1 sz) := by
  refine sy_metI (by decide) rfl (Nat.le_of_ble_eq_true rfl) ?_
  intro p e s m args below meth c C ls hl hh
  have hx := C.1.1
  have hb := C.1.2.1
  have hl : lv_has ls 2 [(0, .ref (Y.2.1 0)), (1, .int a1)] := hl
  unfold wX12_isBox at hq
  refine lv_iload_n hx hb dX12_isBox_0 rfl (lv_at hl 1 rfl) ?_
  refine lv_if_lt (tgt := 16) hx hb dX12_isBox_1 (by decide) (fun c1 => ?_) (fun c1 => ?_)
  · have hq := hq.1 c1
    refine lv_iconst (v := (0 : Int32)) hx hb dX12_isBox_16 (by decide) ?_
    exact sy_zret C hh dX12_isBox_17 (by decide) hq
  · have hq := hq.2 c1
    refine lv_iload_n hx hb dX12_isBox_4 rfl (lv_at hl 1 rfl) ?_
    refine lv_aload_n hx hb dX12_isBox_5 rfl (lv_at hl 0 rfl) ?_
    refine sy_get C hh (fun w h => mc (uZ_fX12 w h)) 0 (by decide) (oZ_0 Y) rfl 13 (by decide) (index := 243) (mc uZ_175) (v := .int (M 0 13)) rfl dX12_isBox_6 ?_
    refine lv_icmp_ge (tgt := 16) hx hb dX12_isBox_9 (by decide) (fun c2 => ?_) (fun c2 => ?_)
    · have hq := hq.1 c2
      refine lv_iconst (v := (0 : Int32)) hx hb dX12_isBox_16 (by decide) ?_
      exact sy_zret C hh dX12_isBox_17 (by decide) hq
    · have hq := hq.2 c2
      refine lv_iconst (v := (1 : Int32)) hx hb dX12_isBox_12 (by decide) ?_
      refine lv_goto (tgt := 17) hx hb dX12_isBox_13 (by decide) ?_
      exact sy_zret C hh dX12_isBox_17 (by decide) hq

/-! AreaSetterModel.size(III)I -/
def wX12_size (M : sy_M) (a1 : Int32) (a2 : Int32) (a3 : Int32) (Q : Int32 → sy_M → Prop) : Prop := wX12_isBox (mu M 0 0 (0 : Int32)) a1 (fun r2 M1 => ((r2 = 0 → Q (-1 : Int32) M1) ∧ (¬ r2 = 0 → ∃ n4 : Nat, n4 < 82 ∧ a1 = nI n4 ∧ ((¬ (M1 3 n4) = 0 → Q (-1 : Int32) M1) ∧ ((M1 3 n4) = 0 → wX12_within M1 a2 (0 : Int32) (nI 999) (fun r7 M6 => ((r7 = 0 → Q (-1 : Int32) M6) ∧ (¬ r7 = 0 → wX12_within M6 a3 (0 : Int32) (nI 999999) (fun r10 M9 => ((r10 = 0 → Q (-1 : Int32) M9) ∧ (¬ r10 = 0 → ((¬ (M9 0 24) = (nI 100) → ∃ n13 : Nat, n13 < 100 ∧ (M9 0 24) = nI n13 ∧ Q (((M9 0 24) + (1 : Int32)) - (1 : Int32)) (mu (mu (mu (mu M9 11 n13 a1) 12 n13 a2) 13 n13 a3) 0 24 ((M9 0 24) + (1 : Int32)))) ∧ ((M9 0 24) = (nI 100) → Q (-1 : Int32) M9)))))))))))))
section
variable {p : Program} {l : Launch} {e : Env} {s : State} {m : MethodId} {args : Array Value} {below : List Frame} {meth : Method} {c : Code} {Y : sy_Y}
end
set_option maxHeartbeats 4000000 in
set_option maxRecDepth 100000 in
theorem mX12_size (l : Launch) (Y : sy_Y) (sz : Nat) (M : sy_M) (a1 : Int32) (a2 : Int32) (a3 : Int32) (Q : Int32 → sy_M → Prop) (hq : wX12_size M a1 a2 a3 Q) : Met l yX12_size vsX12_size ({ frames := 1, cells := 0, slots := 0, locals := 22 } : Room) (va_Pc [.ref (Y.2.1 0), .int a1, .int a2, .int a3] (sy_pre Y NZ EZ tfZ sz M)) (sy_QI Y NZ EZ sz Q) 0 0 (sy_A NZ Y.2.1 sz) := by
  refine sy_metI (by decide) rfl (Nat.le_of_ble_eq_true rfl) ?_
  intro p e s m args below meth c C ls hl hh
  have hx := C.1.1
  have hb := C.1.2.1
  have hl : lv_has ls 4 [(0, .ref (Y.2.1 0)), (1, .int a1), (2, .int a2), (3, .int a3)] := hl
  unfold wX12_size at hq
  refine lv_aload_n hx hb dX12_size_0 rfl (lv_at hl 0 rfl) ?_
  refine lv_iconst (v := (0 : Int32)) hx hb dX12_size_1 (by decide) ?_
  refine sy_put C hh (fun w h => mc (uZ_fX12 w h)) tyX12 tyX12_ok nmX12 0 (by decide) (oZ_0 Y) rfl 0 (by decide) (index := 1) (mc uZ_1) rfl 0 (0 : Int32) (ty := .int) (tyX12_ok 0 (by decide)) rfl rfl (Nat.le_of_ble_eq_true rfl) (pX12_0 Y _ _ _) dX12_size_2 (fun H locs hh => ?_)
  refine lv_aload_n hx hb dX12_size_5 rfl (lv_at hl 0 rfl) ?_
  refine lv_iload_n hx hb dX12_size_6 rfl (lv_at hl 1 rfl) ?_
  refine sy_cIV C hh (As := [.int a1]) (rest := []) 0 (by decide) (oZ_0 Y) rfl (mX12_isBox l Y _ (mu M 0 0 (0 : Int32)) a1 _ hq) (cwV 1 C.1.2.2.2.2 (sy_goodV uZ_good uZ_183 uZ_184 uZ_185 uZ_55 uZ_180 _) rfl rfl rfl hdX12_isBox ⟨Nat.le_of_ble_eq_true rfl, Nat.le_of_ble_eq_true rfl⟩) rfl hl.1 rfl (Nat.le_of_ble_eq_true rfl) dX12_size_7 (fun r2 M1 H locs hq hh => ?_)
  refine lv_if_eq (tgt := 52) hx hb dX12_size_10 (by decide) (fun c3 => ?_) (fun c3 => ?_)
  · have hq := hq.1 c3
    refine lv_iconst (v := (-1 : Int32)) hx hb dX12_size_52 (by decide) ?_
    exact sy_iret C hh dX12_size_53 hq
  · have hq := hq.2 c3
    refine lv_aload_n hx hb dX12_size_13 rfl (lv_at hl 0 rfl) ?_
    refine sy_get C hh (fun w h => mc (uZ_fX12 w h)) 0 (by decide) (oZ_0 Y) rfl 16 (by decide) (index := 30) (mc uZ_14) (v := .ref (Y.2.1 3)) rfl dX12_size_14 ?_
    refine lv_iload_n hx hb dX12_size_17 rfl (lv_at hl 1 rfl) ?_
    obtain ⟨n4, hn4, en4, hq⟩ := hq
    refine sy_zald C hh 3 (by decide) (aZ_3 Y) tZ_3 hn4 en4 (by decide) dX12_size_18 ?_
    refine lv_if_ne (tgt := 52) hx hb dX12_size_19 (by decide) (fun c5 => ?_) (fun c5 => ?_)
    · have hq := hq.1 c5
      refine lv_iconst (v := (-1 : Int32)) hx hb dX12_size_52 (by decide) ?_
      exact sy_iret C hh dX12_size_53 hq
    · have hq := hq.2 c5
      refine lv_iload_n hx hb dX12_size_22 rfl (lv_at hl 2 rfl) ?_
      refine lv_iconst (v := (0 : Int32)) hx hb dX12_size_23 (by decide) ?_
      refine lv_sipush (v := (nI 999)) hx hb dX12_size_24 (by decide) ?_
      refine sy_cIS C hh (As := [.int a2, .int (0 : Int32), .int (nI 999)]) (rest := []) (mX12_within l Y _ M1 a2 (0 : Int32) (nI 999) _ hq) (va_cwS 3 C.1.2.2.2.2 (sy_goodS uZ_good uZ_53 uZ_54 uZ_55 uZ_2 _) rfl rfl rfl hdX12_within.2 ⟨Nat.le_of_ble_eq_true rfl, Nat.le_of_ble_eq_true rfl⟩) rfl hl.1 rfl (Nat.le_of_ble_eq_true rfl) dX12_size_27 (fun r7 M6 H locs hq hh => ?_)
      refine lv_if_eq (tgt := 52) hx hb dX12_size_30 (by decide) (fun c8 => ?_) (fun c8 => ?_)
      · have hq := hq.1 c8
        refine lv_iconst (v := (-1 : Int32)) hx hb dX12_size_52 (by decide) ?_
        exact sy_iret C hh dX12_size_53 hq
      · have hq := hq.2 c8
        refine lv_iload_n hx hb dX12_size_33 rfl (lv_at hl 3 rfl) ?_
        refine lv_iconst (v := (0 : Int32)) hx hb dX12_size_34 (by decide) ?_
        refine lv_ldc (v := (nI 999999)) hx hb C.1.2.2.2.1 (C.1.2.2.2.2 (.constant RX12 255 (nI 999999)) (mc uZ_182)) dX12_size_35 ?_
        refine sy_cIS C hh (As := [.int a3, .int (0 : Int32), .int (nI 999999)]) (rest := []) (mX12_within l Y _ M6 a3 (0 : Int32) (nI 999999) _ hq) (va_cwS 3 C.1.2.2.2.2 (sy_goodS uZ_good uZ_53 uZ_54 uZ_55 uZ_2 _) rfl rfl rfl hdX12_within.2 ⟨Nat.le_of_ble_eq_true rfl, Nat.le_of_ble_eq_true rfl⟩) rfl hl.1 rfl (Nat.le_of_ble_eq_true rfl) dX12_size_37 (fun r10 M9 H locs hq hh => ?_)
        refine lv_if_eq (tgt := 52) hx hb dX12_size_40 (by decide) (fun c11 => ?_) (fun c11 => ?_)
        · have hq := hq.1 c11
          refine lv_iconst (v := (-1 : Int32)) hx hb dX12_size_52 (by decide) ?_
          exact sy_iret C hh dX12_size_53 hq
        · have hq := hq.2 c11
          refine lv_aload_n hx hb dX12_size_43 rfl (lv_at hl 0 rfl) ?_
          refine sy_get C hh (fun w h => mc (uZ_fX12 w h)) 0 (by decide) (oZ_0 Y) rfl 24 (by decide) (index := 246) (mc uZ_176) (v := .int (M9 0 24)) rfl dX12_size_44 ?_
          refine lv_bipush (v := (nI 100)) hx hb dX12_size_47 (by decide) ?_
          refine lv_icmp_ne (tgt := 54) hx hb dX12_size_49 (by decide) (fun c12 => ?_) (fun c12 => ?_)
          · have hq := hq.1 c12
            refine lv_aload_n hx hb dX12_size_54 rfl (lv_at hl 0 rfl) ?_
            refine sy_get C hh (fun w h => mc (uZ_fX12 w h)) 0 (by decide) (oZ_0 Y) rfl 25 (by decide) (index := 55) (mc uZ_22) (v := .ref (Y.2.1 11)) rfl dX12_size_55 ?_
            refine lv_aload_n hx hb dX12_size_58 rfl (lv_at hl 0 rfl) ?_
            refine sy_get C hh (fun w h => mc (uZ_fX12 w h)) 0 (by decide) (oZ_0 Y) rfl 24 (by decide) (index := 246) (mc uZ_176) (v := .int (M9 0 24)) rfl dX12_size_59 ?_
            refine lv_iload_n hx hb dX12_size_62 rfl (lv_at hl 1 rfl) ?_
            obtain ⟨n13, hn13, en13, hq⟩ := hq
            refine sy_iast C hh 11 (by decide) (aZ_11 Y) tZ_11 hn13 en13 (by decide) dX12_size_63 (fun H locs hh => ?_)
            refine lv_aload_n hx hb dX12_size_64 rfl (lv_at hl 0 rfl) ?_
            refine sy_get C hh (fun w h => mc (uZ_fX12 w h)) 0 (by decide) (oZ_0 Y) rfl 26 (by decide) (index := 58) (mc uZ_23) (v := .ref (Y.2.1 12)) rfl dX12_size_65 ?_
            refine lv_aload_n hx hb dX12_size_68 rfl (lv_at hl 0 rfl) ?_
            refine sy_get C hh (fun w h => mc (uZ_fX12 w h)) 0 (by decide) (oZ_0 Y) rfl 24 (by decide) (index := 246) (mc uZ_176) (v := .int (M9 0 24)) rfl dX12_size_69 ?_
            refine lv_iload_n hx hb dX12_size_72 rfl (lv_at hl 2 rfl) ?_
            refine sy_iast C hh 12 (by decide) (aZ_12 Y) tZ_12 hn13 en13 (by decide) dX12_size_73 (fun H locs hh => ?_)
            refine lv_aload_n hx hb dX12_size_74 rfl (lv_at hl 0 rfl) ?_
            refine sy_get C hh (fun w h => mc (uZ_fX12 w h)) 0 (by decide) (oZ_0 Y) rfl 27 (by decide) (index := 61) (mc uZ_24) (v := .ref (Y.2.1 13)) rfl dX12_size_75 ?_
            refine lv_aload_n hx hb dX12_size_78 rfl (lv_at hl 0 rfl) ?_
            refine sy_get C hh (fun w h => mc (uZ_fX12 w h)) 0 (by decide) (oZ_0 Y) rfl 24 (by decide) (index := 246) (mc uZ_176) (v := .int (M9 0 24)) rfl dX12_size_79 ?_
            refine lv_iload_n hx hb dX12_size_82 rfl (lv_at hl 3 rfl) ?_
            refine sy_iast C hh 13 (by decide) (aZ_13 Y) tZ_13 hn13 en13 (by decide) dX12_size_83 (fun H locs hh => ?_)
            refine lv_aload_n hx hb dX12_size_84 rfl (lv_at hl 0 rfl) ?_
            refine lv_dup hx hb dX12_size_85 rfl ?_
            refine sy_get C hh (fun w h => mc (uZ_fX12 w h)) 0 (by decide) (oZ_0 Y) rfl 24 (by decide) (index := 246) (mc uZ_176) (v := .int (M9 0 24)) rfl dX12_size_86 ?_
            refine lv_iconst (v := (1 : Int32)) hx hb dX12_size_89 (by decide) ?_
            refine lv_iadd hx hb dX12_size_90 ?_
            refine sy_put C hh (fun w h => mc (uZ_fX12 w h)) tyX12 tyX12_ok nmX12 0 (by decide) (oZ_0 Y) rfl 24 (by decide) (index := 246) (mc uZ_176) rfl 24 ((M9 0 24) + (1 : Int32)) (ty := .int) (tyX12_ok 24 (by decide)) rfl rfl (Nat.le_of_ble_eq_true rfl) (pX12_24 Y _ _ _) dX12_size_91 (fun H locs hh => ?_)
            refine lv_aload_n hx hb dX12_size_94 rfl (lv_at hl 0 rfl) ?_
            refine sy_get C hh (fun w h => mc (uZ_fX12 w h)) 0 (by decide) (oZ_0 Y) rfl 24 (by decide) (index := 246) (mc uZ_176) (v := .int ((M9 0 24) + (1 : Int32))) rfl dX12_size_95 ?_
            refine lv_iconst (v := (1 : Int32)) hx hb dX12_size_98 (by decide) ?_
            refine lv_isub hx hb dX12_size_99 ?_
            exact sy_iret C hh dX12_size_100 hq
          · have hq := hq.2 c12
            refine lv_iconst (v := (-1 : Int32)) hx hb dX12_size_52 (by decide) ?_
            exact sy_iret C hh dX12_size_53 hq

/-! AreaSetterModel.sizeOf(II)I -/
def wX12_sizeOf_59 (rec : sy_M → Int32 → Int32 → (Int32 → sy_M → Prop) → Prop) (K_120 : sy_M → Int32 → Int32 → Prop) (Q : Int32 → sy_M → Prop) : Nat → sy_M → Int32 → Int32 → Int32 → Int32 → Prop
  | 0, _, _, _, _, _ => False
  | n + 1, M, x1, x2, x3, x4 => (((M 0 24) ≤ x4 → K_120 M x1 x3) ∧ (¬ (M 0 24) ≤ x4 → ∃ n4 : Nat, n4 < 100 ∧ x4 = nI n4 ∧ ((¬ (M 11 n4) = x1 → wX12_sizeOf_59 rec K_120 Q n M x1 x2 x3 (x4 + (1 : Int32))) ∧ ((M 11 n4) = x1 → ((x2 < (M 12 n4) → wX12_sizeOf_59 rec K_120 Q n M x1 x2 x3 (x4 + (1 : Int32))) ∧ (¬ x2 < (M 12 n4) → ((x3 = (-1 : Int32) → wX12_sizeOf_59 rec K_120 Q n M x1 x2 x4 (x4 + (1 : Int32))) ∧ (¬ x3 = (-1 : Int32) → ∃ n8 : Nat, n8 < 100 ∧ x3 = nI n8 ∧ (((M 12 n4) < (M 12 n8) → wX12_sizeOf_59 rec K_120 Q n M x1 x2 x3 (x4 + (1 : Int32))) ∧ (¬ (M 12 n4) < (M 12 n8) → wX12_sizeOf_59 rec K_120 Q n M x1 x2 x4 (x4 + (1 : Int32))))))))))))
def wX12_sizeOf_16 (rec : sy_M → Int32 → Int32 → (Int32 → sy_M → Prop) → Prop) (Q : Int32 → sy_M → Prop) : Nat → sy_M → Int32 → Int32 → Int32 → Int32 → Prop
  | 0, _, _, _, _, _ => False
  | n + 1, M, x1, x2, x3, x4 => (((M 0 13) ≤ x4 → Q x3 M) ∧ (¬ (M 0 13) ≤ x4 → ∃ n18 : Nat, n18 < 82 ∧ x4 = nI n18 ∧ ((¬ (M 2 n18) = x1 → wX12_sizeOf_16 rec Q n M x1 x2 x3 (x4 + (1 : Int32))) ∧ ((M 2 n18) = x1 → rec M x4 x2 (fun r21 M20 => wX12_sizeOf_16 rec Q n M20 x1 x2 (x3 + r21) (x4 + (1 : Int32)))))))
def wX12_sizeOf_b (rec : sy_M → Int32 → Int32 → (Int32 → sy_M → Prop) → Prop) (M : sy_M) (a1 : Int32) (a2 : Int32) (Q : Int32 → sy_M → Prop) : Prop := ∃ n1 : Nat, n1 < 82 ∧ a1 = nI n1 ∧ (((M 3 n1) = 0 → ∃ n16 : Nat, wX12_sizeOf_59 rec (fun (M10 : sy_M) (x1_11 : Int32) (x3_12 : Int32) => ((¬ x3_12 = (-1 : Int32) → ∃ n14 : Nat, n14 < 100 ∧ x3_12 = nI n14 ∧ Q (M10 13 n14) M10) ∧ (x3_12 = (-1 : Int32) → ∃ n15 : Nat, n15 < 82 ∧ x1_11 = nI n15 ∧ Q (M10 8 n15) M10))) Q n16 M a1 a2 (-1 : Int32) (0 : Int32)) ∧ (¬ (M 3 n1) = 0 → ∃ n22 : Nat, wX12_sizeOf_16 rec  Q n22 M a1 a2 (0 : Int32) (a1 + (1 : Int32))))
def wX12_sizeOf : Nat → sy_M → Int32 → Int32 → (Int32 → sy_M → Prop) → Prop
  | 0, _, _, _, _ => False
  | d + 1, M, a1, a2, Q => wX12_sizeOf_b (wX12_sizeOf d) M a1 a2 Q
section
variable {p : Program} {l : Launch} {e : Env} {s : State} {m : MethodId} {args : Array Value} {below : List Frame} {meth : Method} {c : Code} {Y : sy_Y}
set_option maxHeartbeats 4000000 in
set_option maxRecDepth 100000 in
theorem kX12_sizeOf_59 (C : sy_C p m c cX12_sizeOf 5 s args vsX12_sizeOf RX12 meth (some .int) Y NZ tfZ) {rec : sy_M → Int32 → Int32 → (Int32 → sy_M → Prop) → Prop} {d : Nat} (hrec : ∀ (sz : Nat) (M : sy_M) (a1 : Int32) (a2 : Int32) (Q : Int32 → sy_M → Prop), rec M a1 a2 Q → Met l yX12_sizeOf vsX12_sizeOf ({ frames := 1 * d + 2, cells := 0, slots := 0, locals := 24 * d + 100 } : Room) (va_Pc [.ref (Y.2.1 0), .int a1, .int a2] (sy_pre Y NZ EZ tfZ sz M)) (sy_QI Y NZ EZ sz Q) 0 0 (sy_A NZ Y.2.1 sz)) {Q : Int32 → sy_M → Prop} {K_120 : sy_M → Int32 → Int32 → Prop} (hK_120 : ∀ (M : sy_M) (x1 : Int32) (x3 : Int32) (H : Heap) (locs : List Loc) (ls : Array Slot), K_120 M x1 x3 → sy_H Y NZ EZ s H locs M → lv_has ls 5 [(0, .ref (Y.2.1 0)), (1, .int x1), (3, .int x3)] → W p l e ({ frames := 1 * (d + 1) + 2, cells := 0, slots := 0, locals := 24 * (d + 1) + 100 } : Room) s m args below meth c H locs 0 0 (sy_ZI below args s Y NZ EZ Q) (F0 m 120 ls [])) :
    ∀ (n : Nat) (M : sy_M) (x1 : Int32) (x2 : Int32) (x3 : Int32) (x4 : Int32) (H : Heap) (locs : List Loc) (ls : Array Slot), wX12_sizeOf_59 rec K_120 Q n M x1 x2 x3 x4 → sy_H Y NZ EZ s H locs M → lv_has ls 5 [(0, .ref (Y.2.1 0)), (1, .int x1), (2, .int x2), (3, .int x3), (4, .int x4)] → W p l e ({ frames := 1 * (d + 1) + 2, cells := 0, slots := 0, locals := 24 * (d + 1) + 100 } : Room) s m args below meth c H locs 0 0 (sy_ZI below args s Y NZ EZ Q) (F0 m 59 ls []) := by
  have hx := C.1.1
  have hb := C.1.2.1
  intro n
  induction n with
  | zero =>
    intro M x1 x2 x3 x4 H locs ls hq hh hl
    unfold wX12_sizeOf_59 at hq
    exact hq.elim
  | succ n ih =>
    intro M x1 x2 x3 x4 H locs ls hq hh hl
    unfold wX12_sizeOf_59 at hq
    refine lv_iload hx hb dX12_sizeOf_59 (lv_at hl 4 rfl) ?_
    refine lv_aload_n hx hb dX12_sizeOf_61 rfl (lv_at hl 0 rfl) ?_
    refine sy_get C hh (fun w h => mc (uZ_fX12 w h)) 0 (by decide) (oZ_0 Y) rfl 24 (by decide) (index := 246) (mc uZ_176) (v := .int (M 0 24)) rfl dX12_sizeOf_62 ?_
    refine lv_icmp_ge (tgt := 120) hx hb dX12_sizeOf_65 (by decide) (fun c3 => ?_) (fun c3 => ?_)
    · have hq := hq.1 c3
      exact hK_120 M x1 x3 _ _ _ hq hh (lv_sub hl [0, 1, 3] rfl)
    · have hq := hq.2 c3
      refine lv_aload_n hx hb dX12_sizeOf_68 rfl (lv_at hl 0 rfl) ?_
      refine sy_get C hh (fun w h => mc (uZ_fX12 w h)) 0 (by decide) (oZ_0 Y) rfl 25 (by decide) (index := 55) (mc uZ_22) (v := .ref (Y.2.1 11)) rfl dX12_sizeOf_69 ?_
      refine lv_iload hx hb dX12_sizeOf_72 (lv_at hl 4 rfl) ?_
      obtain ⟨n4, hn4, en4, hq⟩ := hq
      refine sy_iald C hh 11 (by decide) (aZ_11 Y) tZ_11 hn4 en4 (by decide) dX12_sizeOf_74 ?_
      refine lv_iload_n hx hb dX12_sizeOf_75 rfl (lv_at hl 1 rfl) ?_
      refine lv_icmp_ne (tgt := 114) hx hb dX12_sizeOf_76 (by decide) (fun c5 => ?_) (fun c5 => ?_)
      · have hq := hq.1 c5
        refine lv_iinc (v := (x4 + (1 : Int32))) (lv' := [(4, .int (x4 + (1 : Int32))), (0, .ref (Y.2.1 0)), (1, .int x1), (2, .int x2), (3, .int x3)]) hx hb dX12_sizeOf_114 hl (k := 4) rfl (sy_inc (by decide)) (by decide) rfl (fun ls hl => ?_)
        refine lv_goto (tgt := 59) hx hb dX12_sizeOf_117 (by decide) ?_
        exact ih M x1 x2 x3 (x4 + (1 : Int32)) _ _ _ hq hh (lv_sub hl [1, 2, 3, 4, 0] rfl)
      · have hq := hq.2 c5
        refine lv_aload_n hx hb dX12_sizeOf_79 rfl (lv_at hl 0 rfl) ?_
        refine sy_get C hh (fun w h => mc (uZ_fX12 w h)) 0 (by decide) (oZ_0 Y) rfl 26 (by decide) (index := 58) (mc uZ_23) (v := .ref (Y.2.1 12)) rfl dX12_sizeOf_80 ?_
        refine lv_iload hx hb dX12_sizeOf_83 (lv_at hl 4 rfl) ?_
        refine sy_iald C hh 12 (by decide) (aZ_12 Y) tZ_12 hn4 en4 (by decide) dX12_sizeOf_85 ?_
        refine lv_iload_n hx hb dX12_sizeOf_86 rfl (lv_at hl 2 rfl) ?_
        refine lv_icmp_gt (tgt := 114) hx hb dX12_sizeOf_87 (by decide) (fun c6 => ?_) (fun c6 => ?_)
        · have hq := hq.1 c6
          refine lv_iinc (v := (x4 + (1 : Int32))) (lv' := [(4, .int (x4 + (1 : Int32))), (0, .ref (Y.2.1 0)), (1, .int x1), (2, .int x2), (3, .int x3)]) hx hb dX12_sizeOf_114 hl (k := 4) rfl (sy_inc (by decide)) (by decide) rfl (fun ls hl => ?_)
          refine lv_goto (tgt := 59) hx hb dX12_sizeOf_117 (by decide) ?_
          exact ih M x1 x2 x3 (x4 + (1 : Int32)) _ _ _ hq hh (lv_sub hl [1, 2, 3, 4, 0] rfl)
        · have hq := hq.2 c6
          refine lv_iload_n hx hb dX12_sizeOf_90 rfl (lv_at hl 3 rfl) ?_
          refine lv_iconst (v := (-1 : Int32)) hx hb dX12_sizeOf_91 (by decide) ?_
          refine lv_icmp_eq (tgt := 111) hx hb dX12_sizeOf_92 (by decide) (fun c7 => ?_) (fun c7 => ?_)
          · have hq := hq.1 c7
            refine lv_iload hx hb dX12_sizeOf_111 (lv_at hl 4 rfl) ?_
            refine lv_istore_n (lv' := [(3, .int x4), (0, .ref (Y.2.1 0)), (1, .int x1), (2, .int x2), (4, .int x4)]) hx hb dX12_sizeOf_113 rfl hl (by decide) rfl (fun ls hl => ?_)
            refine lv_iinc (v := (x4 + (1 : Int32))) (lv' := [(4, .int (x4 + (1 : Int32))), (3, .int x4), (0, .ref (Y.2.1 0)), (1, .int x1), (2, .int x2)]) hx hb dX12_sizeOf_114 hl (k := 4) rfl (sy_inc (by decide)) (by decide) rfl (fun ls hl => ?_)
            refine lv_goto (tgt := 59) hx hb dX12_sizeOf_117 (by decide) ?_
            exact ih M x1 x2 x4 (x4 + (1 : Int32)) _ _ _ hq hh (lv_sub hl [2, 3, 4, 1, 0] rfl)
          · have hq := hq.2 c7
            refine lv_aload_n hx hb dX12_sizeOf_95 rfl (lv_at hl 0 rfl) ?_
            refine sy_get C hh (fun w h => mc (uZ_fX12 w h)) 0 (by decide) (oZ_0 Y) rfl 26 (by decide) (index := 58) (mc uZ_23) (v := .ref (Y.2.1 12)) rfl dX12_sizeOf_96 ?_
            refine lv_iload hx hb dX12_sizeOf_99 (lv_at hl 4 rfl) ?_
            refine sy_iald C hh 12 (by decide) (aZ_12 Y) tZ_12 hn4 en4 (by decide) dX12_sizeOf_101 ?_
            refine lv_aload_n hx hb dX12_sizeOf_102 rfl (lv_at hl 0 rfl) ?_
            refine sy_get C hh (fun w h => mc (uZ_fX12 w h)) 0 (by decide) (oZ_0 Y) rfl 26 (by decide) (index := 58) (mc uZ_23) (v := .ref (Y.2.1 12)) rfl dX12_sizeOf_103 ?_
            refine lv_iload_n hx hb dX12_sizeOf_106 rfl (lv_at hl 3 rfl) ?_
            obtain ⟨n8, hn8, en8, hq⟩ := hq
            refine sy_iald C hh 12 (by decide) (aZ_12 Y) tZ_12 hn8 en8 (by decide) dX12_sizeOf_107 ?_
            refine lv_icmp_lt (tgt := 114) hx hb dX12_sizeOf_108 (by decide) (fun c9 => ?_) (fun c9 => ?_)
            · have hq := hq.1 c9
              refine lv_iinc (v := (x4 + (1 : Int32))) (lv' := [(4, .int (x4 + (1 : Int32))), (0, .ref (Y.2.1 0)), (1, .int x1), (2, .int x2), (3, .int x3)]) hx hb dX12_sizeOf_114 hl (k := 4) rfl (sy_inc (by decide)) (by decide) rfl (fun ls hl => ?_)
              refine lv_goto (tgt := 59) hx hb dX12_sizeOf_117 (by decide) ?_
              exact ih M x1 x2 x3 (x4 + (1 : Int32)) _ _ _ hq hh (lv_sub hl [1, 2, 3, 4, 0] rfl)
            · have hq := hq.2 c9
              refine lv_iload hx hb dX12_sizeOf_111 (lv_at hl 4 rfl) ?_
              refine lv_istore_n (lv' := [(3, .int x4), (0, .ref (Y.2.1 0)), (1, .int x1), (2, .int x2), (4, .int x4)]) hx hb dX12_sizeOf_113 rfl hl (by decide) rfl (fun ls hl => ?_)
              refine lv_iinc (v := (x4 + (1 : Int32))) (lv' := [(4, .int (x4 + (1 : Int32))), (3, .int x4), (0, .ref (Y.2.1 0)), (1, .int x1), (2, .int x2)]) hx hb dX12_sizeOf_114 hl (k := 4) rfl (sy_inc (by decide)) (by decide) rfl (fun ls hl => ?_)
              refine lv_goto (tgt := 59) hx hb dX12_sizeOf_117 (by decide) ?_
              exact ih M x1 x2 x4 (x4 + (1 : Int32)) _ _ _ hq hh (lv_sub hl [2, 3, 4, 1, 0] rfl)

set_option maxHeartbeats 4000000 in
set_option maxRecDepth 100000 in
theorem kX12_sizeOf_16 (C : sy_C p m c cX12_sizeOf 5 s args vsX12_sizeOf RX12 meth (some .int) Y NZ tfZ) {rec : sy_M → Int32 → Int32 → (Int32 → sy_M → Prop) → Prop} {d : Nat} (hrec : ∀ (sz : Nat) (M : sy_M) (a1 : Int32) (a2 : Int32) (Q : Int32 → sy_M → Prop), rec M a1 a2 Q → Met l yX12_sizeOf vsX12_sizeOf ({ frames := 1 * d + 2, cells := 0, slots := 0, locals := 24 * d + 100 } : Room) (va_Pc [.ref (Y.2.1 0), .int a1, .int a2] (sy_pre Y NZ EZ tfZ sz M)) (sy_QI Y NZ EZ sz Q) 0 0 (sy_A NZ Y.2.1 sz)) {Q : Int32 → sy_M → Prop} :
    ∀ (n : Nat) (M : sy_M) (x1 : Int32) (x2 : Int32) (x3 : Int32) (x4 : Int32) (H : Heap) (locs : List Loc) (ls : Array Slot), wX12_sizeOf_16 rec Q n M x1 x2 x3 x4 → sy_H Y NZ EZ s H locs M → lv_has ls 5 [(0, .ref (Y.2.1 0)), (1, .int x1), (2, .int x2), (3, .int x3), (4, .int x4)] → W p l e ({ frames := 1 * (d + 1) + 2, cells := 0, slots := 0, locals := 24 * (d + 1) + 100 } : Room) s m args below meth c H locs 0 0 (sy_ZI below args s Y NZ EZ Q) (F0 m 16 ls []) := by
  have hx := C.1.1
  have hb := C.1.2.1
  intro n
  induction n with
  | zero =>
    intro M x1 x2 x3 x4 H locs ls hq hh hl
    unfold wX12_sizeOf_16 at hq
    exact hq.elim
  | succ n ih =>
    intro M x1 x2 x3 x4 H locs ls hq hh hl
    unfold wX12_sizeOf_16 at hq
    refine lv_iload hx hb dX12_sizeOf_16 (lv_at hl 4 rfl) ?_
    refine lv_aload_n hx hb dX12_sizeOf_18 rfl (lv_at hl 0 rfl) ?_
    refine sy_get C hh (fun w h => mc (uZ_fX12 w h)) 0 (by decide) (oZ_0 Y) rfl 13 (by decide) (index := 243) (mc uZ_175) (v := .int (M 0 13)) rfl dX12_sizeOf_19 ?_
    refine lv_icmp_ge (tgt := 52) hx hb dX12_sizeOf_22 (by decide) (fun c17 => ?_) (fun c17 => ?_)
    · have hq := hq.1 c17
      refine lv_iload_n hx hb dX12_sizeOf_52 rfl (lv_at hl 3 rfl) ?_
      exact sy_iret C hh dX12_sizeOf_53 hq
    · have hq := hq.2 c17
      refine lv_aload_n hx hb dX12_sizeOf_25 rfl (lv_at hl 0 rfl) ?_
      refine sy_get C hh (fun w h => mc (uZ_fX12 w h)) 0 (by decide) (oZ_0 Y) rfl 15 (by decide) (index := 26) (mc uZ_12) (v := .ref (Y.2.1 2)) rfl dX12_sizeOf_26 ?_
      refine lv_iload hx hb dX12_sizeOf_29 (lv_at hl 4 rfl) ?_
      obtain ⟨n18, hn18, en18, hq⟩ := hq
      refine sy_iald C hh 2 (by decide) (aZ_2 Y) tZ_2 hn18 en18 (by decide) dX12_sizeOf_31 ?_
      refine lv_iload_n hx hb dX12_sizeOf_32 rfl (lv_at hl 1 rfl) ?_
      refine lv_icmp_ne (tgt := 46) hx hb dX12_sizeOf_33 (by decide) (fun c19 => ?_) (fun c19 => ?_)
      · have hq := hq.1 c19
        refine lv_iinc (v := (x4 + (1 : Int32))) (lv' := [(4, .int (x4 + (1 : Int32))), (0, .ref (Y.2.1 0)), (1, .int x1), (2, .int x2), (3, .int x3)]) hx hb dX12_sizeOf_46 hl (k := 4) rfl (sy_inc (by decide)) (by decide) rfl (fun ls hl => ?_)
        refine lv_goto (tgt := 16) hx hb dX12_sizeOf_49 (by decide) ?_
        exact ih M x1 x2 x3 (x4 + (1 : Int32)) _ _ _ hq hh (lv_sub hl [1, 2, 3, 4, 0] rfl)
      · have hq := hq.2 c19
        refine lv_iload_n hx hb dX12_sizeOf_36 rfl (lv_at hl 3 rfl) ?_
        refine lv_aload_n hx hb dX12_sizeOf_37 rfl (lv_at hl 0 rfl) ?_
        refine lv_iload hx hb dX12_sizeOf_38 (lv_at hl 4 rfl) ?_
        refine lv_iload_n hx hb dX12_sizeOf_40 rfl (lv_at hl 2 rfl) ?_
        refine sy_cIV C hh (As := [.int x4, .int x2]) (rest := [.int x3]) 0 (by decide) (oZ_0 Y) rfl (hrec _ M x4 x2 _ hq) (cwV 2 C.1.2.2.2.2 (sy_goodV uZ_good uZ_187 uZ_188 uZ_189 uZ_55 uZ_186 _) rfl rfl rfl hdX12_sizeOf ⟨by dsimp only; omega, by dsimp only; omega⟩) rfl hl.1 rfl (Nat.le_of_ble_eq_true rfl) dX12_sizeOf_41 (fun r21 M20 H locs hq hh => ?_)
        refine lv_iadd hx hb dX12_sizeOf_44 ?_
        refine lv_istore_n (lv' := [(3, .int (x3 + r21)), (0, .ref (Y.2.1 0)), (1, .int x1), (2, .int x2), (4, .int x4)]) hx hb dX12_sizeOf_45 rfl hl (by decide) rfl (fun ls hl => ?_)
        refine lv_iinc (v := (x4 + (1 : Int32))) (lv' := [(4, .int (x4 + (1 : Int32))), (3, .int (x3 + r21)), (0, .ref (Y.2.1 0)), (1, .int x1), (2, .int x2)]) hx hb dX12_sizeOf_46 hl (k := 4) rfl (sy_inc (by decide)) (by decide) rfl (fun ls hl => ?_)
        refine lv_goto (tgt := 16) hx hb dX12_sizeOf_49 (by decide) ?_
        exact ih M20 x1 x2 (x3 + r21) (x4 + (1 : Int32)) _ _ _ hq hh (lv_sub hl [2, 3, 4, 1, 0] rfl)

end
set_option maxHeartbeats 4000000 in
set_option maxRecDepth 100000 in
theorem mX12_sizeOf_b {l : Launch} {Y : sy_Y} {rec : sy_M → Int32 → Int32 → (Int32 → sy_M → Prop) → Prop} {d : Nat} (hrec : ∀ (sz : Nat) (M : sy_M) (a1 : Int32) (a2 : Int32) (Q : Int32 → sy_M → Prop), rec M a1 a2 Q → Met l yX12_sizeOf vsX12_sizeOf ({ frames := 1 * d + 2, cells := 0, slots := 0, locals := 24 * d + 100 } : Room) (va_Pc [.ref (Y.2.1 0), .int a1, .int a2] (sy_pre Y NZ EZ tfZ sz M)) (sy_QI Y NZ EZ sz Q) 0 0 (sy_A NZ Y.2.1 sz)) (sz : Nat) (M : sy_M) (a1 : Int32) (a2 : Int32) (Q : Int32 → sy_M → Prop) (hq : wX12_sizeOf_b rec M a1 a2 Q) : Met l yX12_sizeOf vsX12_sizeOf ({ frames := 1 * (d + 1) + 2, cells := 0, slots := 0, locals := 24 * (d + 1) + 100 } : Room) (va_Pc [.ref (Y.2.1 0), .int a1, .int a2] (sy_pre Y NZ EZ tfZ sz M)) (sy_QI Y NZ EZ sz Q) 0 0 (sy_A NZ Y.2.1 sz) := by
  refine sy_metI (by decide) rfl (Nat.le_of_ble_eq_true rfl) ?_
  intro p e s m args below meth c C ls hl hh
  have hx := C.1.1
  have hb := C.1.2.1
  have hl : lv_has ls 5 [(0, .ref (Y.2.1 0)), (1, .int a1), (2, .int a2)] := hl
  unfold wX12_sizeOf_b at hq
  refine lv_aload_n hx hb dX12_sizeOf_0 rfl (lv_at hl 0 rfl) ?_
  refine sy_get C hh (fun w h => mc (uZ_fX12 w h)) 0 (by decide) (oZ_0 Y) rfl 16 (by decide) (index := 30) (mc uZ_14) (v := .ref (Y.2.1 3)) rfl dX12_sizeOf_1 ?_
  refine lv_iload_n hx hb dX12_sizeOf_4 rfl (lv_at hl 1 rfl) ?_
  obtain ⟨n1, hn1, en1, hq⟩ := hq
  refine sy_zald C hh 3 (by decide) (aZ_3 Y) tZ_3 hn1 en1 (by decide) dX12_sizeOf_5 ?_
  refine lv_if_eq (tgt := 54) hx hb dX12_sizeOf_6 (by decide) (fun c2 => ?_) (fun c2 => ?_)
  · have hq := hq.1 c2
    refine lv_iconst (v := (-1 : Int32)) hx hb dX12_sizeOf_54 (by decide) ?_
    refine lv_istore_n (lv' := [(3, .int (-1 : Int32)), (0, .ref (Y.2.1 0)), (1, .int a1), (2, .int a2)]) hx hb dX12_sizeOf_55 rfl hl (by decide) rfl (fun ls hl => ?_)
    refine lv_iconst (v := (0 : Int32)) hx hb dX12_sizeOf_56 (by decide) ?_
    refine lv_istore (lv' := [(4, .int (0 : Int32)), (3, .int (-1 : Int32)), (0, .ref (Y.2.1 0)), (1, .int a1), (2, .int a2)]) hx hb dX12_sizeOf_57 hl (by decide) rfl (fun ls hl => ?_)
    obtain ⟨n16, hq⟩ := hq
    refine kX12_sizeOf_59 C hrec (fun M10 x1_11 x3_12 H locs ls hq hh hl => ?_) n16 M a1 a2 (-1 : Int32) (0 : Int32) _ _ _ hq hh (lv_sub hl [2, 3, 4, 1, 0] rfl)
    · refine lv_iload_n hx hb dX12_sizeOf_120 rfl (lv_at hl 2 rfl) ?_
      refine lv_iconst (v := (-1 : Int32)) hx hb dX12_sizeOf_121 (by decide) ?_
      refine lv_icmp_ne (tgt := 134) hx hb dX12_sizeOf_122 (by decide) (fun c13 => ?_) (fun c13 => ?_)
      · have hq := hq.1 c13
        refine lv_aload_n hx hb dX12_sizeOf_134 rfl (lv_at hl 0 rfl) ?_
        refine sy_get C hh (fun w h => mc (uZ_fX12 w h)) 0 (by decide) (oZ_0 Y) rfl 27 (by decide) (index := 61) (mc uZ_24) (v := .ref (Y.2.1 13)) rfl dX12_sizeOf_135 ?_
        refine lv_iload_n hx hb dX12_sizeOf_138 rfl (lv_at hl 2 rfl) ?_
        obtain ⟨n14, hn14, en14, hq⟩ := hq
        refine sy_iald C hh 13 (by decide) (aZ_13 Y) tZ_13 hn14 en14 (by decide) dX12_sizeOf_139 ?_
        exact sy_iret C hh dX12_sizeOf_140 hq
      · have hq := hq.2 c13
        refine lv_aload_n hx hb dX12_sizeOf_125 rfl (lv_at hl 0 rfl) ?_
        refine sy_get C hh (fun w h => mc (uZ_fX12 w h)) 0 (by decide) (oZ_0 Y) rfl 21 (by decide) (index := 46) (mc uZ_19) (v := .ref (Y.2.1 8)) rfl dX12_sizeOf_126 ?_
        refine lv_iload_n hx hb dX12_sizeOf_129 rfl (lv_at hl 1 rfl) ?_
        obtain ⟨n15, hn15, en15, hq⟩ := hq
        refine sy_iald C hh 8 (by decide) (aZ_8 Y) tZ_8 hn15 en15 (by decide) dX12_sizeOf_130 ?_
        refine lv_goto (tgt := 140) hx hb dX12_sizeOf_131 (by decide) ?_
        exact sy_iret C hh dX12_sizeOf_140 hq
  · have hq := hq.2 c2
    refine lv_iconst (v := (0 : Int32)) hx hb dX12_sizeOf_9 (by decide) ?_
    refine lv_istore_n (lv' := [(3, .int (0 : Int32)), (0, .ref (Y.2.1 0)), (1, .int a1), (2, .int a2)]) hx hb dX12_sizeOf_10 rfl hl (by decide) rfl (fun ls hl => ?_)
    refine lv_iload_n hx hb dX12_sizeOf_11 rfl (lv_at hl 2 rfl) ?_
    refine lv_iconst (v := (1 : Int32)) hx hb dX12_sizeOf_12 (by decide) ?_
    refine lv_iadd hx hb dX12_sizeOf_13 ?_
    refine lv_istore (lv' := [(4, .int (a1 + (1 : Int32))), (3, .int (0 : Int32)), (0, .ref (Y.2.1 0)), (1, .int a1), (2, .int a2)]) hx hb dX12_sizeOf_14 hl (by decide) rfl (fun ls hl => ?_)
    obtain ⟨n22, hq⟩ := hq
    refine kX12_sizeOf_16 C hrec  n22 M a1 a2 (0 : Int32) (a1 + (1 : Int32)) _ _ _ hq hh (lv_sub hl [2, 3, 4, 1, 0] rfl)

set_option maxHeartbeats 4000000 in
theorem mX12_sizeOf (l : Launch) (Y : sy_Y) : ∀ (d : Nat) (sz : Nat) (M : sy_M) (a1 : Int32) (a2 : Int32) (Q : Int32 → sy_M → Prop), wX12_sizeOf d M a1 a2 Q → Met l yX12_sizeOf vsX12_sizeOf ({ frames := 1 * d + 2, cells := 0, slots := 0, locals := 24 * d + 100 } : Room) (va_Pc [.ref (Y.2.1 0), .int a1, .int a2] (sy_pre Y NZ EZ tfZ sz M)) (sy_QI Y NZ EZ sz Q) 0 0 (sy_A NZ Y.2.1 sz)
  | 0, _, _, _, _, _, hq => by unfold wX12_sizeOf at hq; exact hq.elim
  | d + 1, sz, M, a1, a2, Q, hq => by
    unfold wX12_sizeOf at hq
    exact mX12_sizeOf_b (d := d) (rec := wX12_sizeOf d) (fun sz M => mX12_sizeOf l Y d sz M) sz M a1 a2 Q hq
/-! AreaSetterModel.sizeIn(II)I -/
def wX12_sizeIn (M : sy_M) (a1 : Int32) (a2 : Int32) (Q : Int32 → sy_M → Prop) : Prop := wX12_isBox (mu M 0 0 (0 : Int32)) a1 (fun r2 M1 => ((r2 = 0 → Q (-1 : Int32) M1) ∧ (¬ r2 = 0 → wX12_within M1 a2 (0 : Int32) (nI 999) (fun r5 M4 => ((r5 = 0 → Q (-1 : Int32) M4) ∧ (¬ r5 = 0 → wX12_sizeOf 8 M4 a1 a2 (fun r8 M7 => Q r8 M7)))))))
section
variable {p : Program} {l : Launch} {e : Env} {s : State} {m : MethodId} {args : Array Value} {below : List Frame} {meth : Method} {c : Code} {Y : sy_Y}
end
set_option maxHeartbeats 4000000 in
set_option maxRecDepth 100000 in
theorem mX12_sizeIn (l : Launch) (Y : sy_Y) (sz : Nat) (M : sy_M) (a1 : Int32) (a2 : Int32) (Q : Int32 → sy_M → Prop) (hq : wX12_sizeIn M a1 a2 Q) : Met l yX12_sizeIn vsX12_sizeIn ({ frames := 11, cells := 0, slots := 0, locals := 316 } : Room) (va_Pc [.ref (Y.2.1 0), .int a1, .int a2] (sy_pre Y NZ EZ tfZ sz M)) (sy_QI Y NZ EZ sz Q) 0 0 (sy_A NZ Y.2.1 sz) := by
  refine sy_metI (by decide) rfl (Nat.le_of_ble_eq_true rfl) ?_
  intro p e s m args below meth c C ls hl hh
  have hx := C.1.1
  have hb := C.1.2.1
  have hl : lv_has ls 3 [(0, .ref (Y.2.1 0)), (1, .int a1), (2, .int a2)] := hl
  unfold wX12_sizeIn at hq
  refine lv_aload_n hx hb dX12_sizeIn_0 rfl (lv_at hl 0 rfl) ?_
  refine lv_iconst (v := (0 : Int32)) hx hb dX12_sizeIn_1 (by decide) ?_
  refine sy_put C hh (fun w h => mc (uZ_fX12 w h)) tyX12 tyX12_ok nmX12 0 (by decide) (oZ_0 Y) rfl 0 (by decide) (index := 1) (mc uZ_1) rfl 0 (0 : Int32) (ty := .int) (tyX12_ok 0 (by decide)) rfl rfl (Nat.le_of_ble_eq_true rfl) (pX12_0 Y _ _ _) dX12_sizeIn_2 (fun H locs hh => ?_)
  refine lv_aload_n hx hb dX12_sizeIn_5 rfl (lv_at hl 0 rfl) ?_
  refine lv_iload_n hx hb dX12_sizeIn_6 rfl (lv_at hl 1 rfl) ?_
  refine sy_cIV C hh (As := [.int a1]) (rest := []) 0 (by decide) (oZ_0 Y) rfl (mX12_isBox l Y _ (mu M 0 0 (0 : Int32)) a1 _ hq) (cwV 1 C.1.2.2.2.2 (sy_goodV uZ_good uZ_183 uZ_184 uZ_185 uZ_55 uZ_180 _) rfl rfl rfl hdX12_isBox ⟨Nat.le_of_ble_eq_true rfl, Nat.le_of_ble_eq_true rfl⟩) rfl hl.1 rfl (Nat.le_of_ble_eq_true rfl) dX12_sizeIn_7 (fun r2 M1 H locs hq hh => ?_)
  refine lv_if_eq (tgt := 33) hx hb dX12_sizeIn_10 (by decide) (fun c3 => ?_) (fun c3 => ?_)
  · have hq := hq.1 c3
    refine lv_iconst (v := (-1 : Int32)) hx hb dX12_sizeIn_33 (by decide) ?_
    exact sy_iret C hh dX12_sizeIn_34 hq
  · have hq := hq.2 c3
    refine lv_iload_n hx hb dX12_sizeIn_13 rfl (lv_at hl 2 rfl) ?_
    refine lv_iconst (v := (0 : Int32)) hx hb dX12_sizeIn_14 (by decide) ?_
    refine lv_sipush (v := (nI 999)) hx hb dX12_sizeIn_15 (by decide) ?_
    refine sy_cIS C hh (As := [.int a2, .int (0 : Int32), .int (nI 999)]) (rest := []) (mX12_within l Y _ M1 a2 (0 : Int32) (nI 999) _ hq) (va_cwS 3 C.1.2.2.2.2 (sy_goodS uZ_good uZ_53 uZ_54 uZ_55 uZ_2 _) rfl rfl rfl hdX12_within.2 ⟨Nat.le_of_ble_eq_true rfl, Nat.le_of_ble_eq_true rfl⟩) rfl hl.1 rfl (Nat.le_of_ble_eq_true rfl) dX12_sizeIn_18 (fun r5 M4 H locs hq hh => ?_)
    refine lv_if_eq (tgt := 33) hx hb dX12_sizeIn_21 (by decide) (fun c6 => ?_) (fun c6 => ?_)
    · have hq := hq.1 c6
      refine lv_iconst (v := (-1 : Int32)) hx hb dX12_sizeIn_33 (by decide) ?_
      exact sy_iret C hh dX12_sizeIn_34 hq
    · have hq := hq.2 c6
      refine lv_aload_n hx hb dX12_sizeIn_24 rfl (lv_at hl 0 rfl) ?_
      refine lv_iload_n hx hb dX12_sizeIn_25 rfl (lv_at hl 1 rfl) ?_
      refine lv_iload_n hx hb dX12_sizeIn_26 rfl (lv_at hl 2 rfl) ?_
      refine sy_cIV C hh (As := [.int a1, .int a2]) (rest := []) 0 (by decide) (oZ_0 Y) rfl (mX12_sizeOf l Y 8 _ M4 a1 a2 _ hq) (cwV 2 C.1.2.2.2.2 (sy_goodV uZ_good uZ_187 uZ_188 uZ_189 uZ_55 uZ_186 _) rfl rfl rfl hdX12_sizeOf ⟨Nat.le_of_ble_eq_true rfl, Nat.le_of_ble_eq_true rfl⟩) rfl hl.1 rfl (Nat.le_of_ble_eq_true rfl) dX12_sizeIn_27 (fun r8 M7 H locs hq hh => ?_)
      refine lv_goto (tgt := 34) hx hb dX12_sizeIn_30 (by decide) ?_
      exact sy_iret C hh dX12_sizeIn_34 hq

/-! AreaSetterModel.rest(IIZ)Z -/
def wX12_rest (M : sy_M) (a1 : Int32) (a2 : Int32) (a3 : Int32) (Q : Int32 → sy_M → Prop) : Prop := wX12_isBox (mu M 0 0 (0 : Int32)) a1 (fun r2 M1 => ((r2 = 0 → Q (0 : Int32) M1) ∧ (¬ r2 = 0 → ∃ n4 : Nat, n4 < 82 ∧ a1 = nI n4 ∧ (((M1 3 n4) = 0 → Q (0 : Int32) M1) ∧ (¬ (M1 3 n4) = 0 → wX12_within M1 a2 (0 : Int32) (nI 999) (fun r7 M6 => ((¬ r7 = 0 → n4 < 41 ∧ n4 < 41 ∧ Q (1 : Int32) (mu (mu M6 14 n4 a2) 15 n4 (vp_nar .boolean a3))) ∧ (r7 = 0 → Q (0 : Int32) M6))))))))
section
variable {p : Program} {l : Launch} {e : Env} {s : State} {m : MethodId} {args : Array Value} {below : List Frame} {meth : Method} {c : Code} {Y : sy_Y}
end
set_option maxHeartbeats 4000000 in
set_option maxRecDepth 100000 in
theorem mX12_rest (l : Launch) (Y : sy_Y) (sz : Nat) (M : sy_M) (a1 : Int32) (a2 : Int32) (a3 : Int32) (Q : Int32 → sy_M → Prop) (hq : wX12_rest M a1 a2 a3 Q) : Met l yX12_rest vsX12_rest ({ frames := 1, cells := 0, slots := 0, locals := 22 } : Room) (va_Pc [.ref (Y.2.1 0), .int a1, .int a2, .int a3] (sy_pre Y NZ EZ tfZ sz M)) (sy_QI Y NZ EZ sz Q) 0 0 (sy_A NZ Y.2.1 sz) := by
  refine sy_metI (by decide) rfl (Nat.le_of_ble_eq_true rfl) ?_
  intro p e s m args below meth c C ls hl hh
  have hx := C.1.1
  have hb := C.1.2.1
  have hl : lv_has ls 4 [(0, .ref (Y.2.1 0)), (1, .int a1), (2, .int a2), (3, .int a3)] := hl
  unfold wX12_rest at hq
  refine lv_aload_n hx hb dX12_rest_0 rfl (lv_at hl 0 rfl) ?_
  refine lv_iconst (v := (0 : Int32)) hx hb dX12_rest_1 (by decide) ?_
  refine sy_put C hh (fun w h => mc (uZ_fX12 w h)) tyX12 tyX12_ok nmX12 0 (by decide) (oZ_0 Y) rfl 0 (by decide) (index := 1) (mc uZ_1) rfl 0 (0 : Int32) (ty := .int) (tyX12_ok 0 (by decide)) rfl rfl (Nat.le_of_ble_eq_true rfl) (pX12_0 Y _ _ _) dX12_rest_2 (fun H locs hh => ?_)
  refine lv_aload_n hx hb dX12_rest_5 rfl (lv_at hl 0 rfl) ?_
  refine lv_iload_n hx hb dX12_rest_6 rfl (lv_at hl 1 rfl) ?_
  refine sy_cIV C hh (As := [.int a1]) (rest := []) 0 (by decide) (oZ_0 Y) rfl (mX12_isBox l Y _ (mu M 0 0 (0 : Int32)) a1 _ hq) (cwV 1 C.1.2.2.2.2 (sy_goodV uZ_good uZ_183 uZ_184 uZ_185 uZ_55 uZ_180 _) rfl rfl rfl hdX12_isBox ⟨Nat.le_of_ble_eq_true rfl, Nat.le_of_ble_eq_true rfl⟩) rfl hl.1 rfl (Nat.le_of_ble_eq_true rfl) dX12_rest_7 (fun r2 M1 H locs hq hh => ?_)
  refine lv_if_eq (tgt := 33) hx hb dX12_rest_10 (by decide) (fun c3 => ?_) (fun c3 => ?_)
  · have hq := hq.1 c3
    refine lv_iconst (v := (0 : Int32)) hx hb dX12_rest_33 (by decide) ?_
    exact sy_zret C hh dX12_rest_34 (by decide) hq
  · have hq := hq.2 c3
    refine lv_aload_n hx hb dX12_rest_13 rfl (lv_at hl 0 rfl) ?_
    refine sy_get C hh (fun w h => mc (uZ_fX12 w h)) 0 (by decide) (oZ_0 Y) rfl 16 (by decide) (index := 30) (mc uZ_14) (v := .ref (Y.2.1 3)) rfl dX12_rest_14 ?_
    refine lv_iload_n hx hb dX12_rest_17 rfl (lv_at hl 1 rfl) ?_
    obtain ⟨n4, hn4, en4, hq⟩ := hq
    refine sy_zald C hh 3 (by decide) (aZ_3 Y) tZ_3 hn4 en4 (by decide) dX12_rest_18 ?_
    refine lv_if_eq (tgt := 33) hx hb dX12_rest_19 (by decide) (fun c5 => ?_) (fun c5 => ?_)
    · have hq := hq.1 c5
      refine lv_iconst (v := (0 : Int32)) hx hb dX12_rest_33 (by decide) ?_
      exact sy_zret C hh dX12_rest_34 (by decide) hq
    · have hq := hq.2 c5
      refine lv_iload_n hx hb dX12_rest_22 rfl (lv_at hl 2 rfl) ?_
      refine lv_iconst (v := (0 : Int32)) hx hb dX12_rest_23 (by decide) ?_
      refine lv_sipush (v := (nI 999)) hx hb dX12_rest_24 (by decide) ?_
      refine sy_cIS C hh (As := [.int a2, .int (0 : Int32), .int (nI 999)]) (rest := []) (mX12_within l Y _ M1 a2 (0 : Int32) (nI 999) _ hq) (va_cwS 3 C.1.2.2.2.2 (sy_goodS uZ_good uZ_53 uZ_54 uZ_55 uZ_2 _) rfl rfl rfl hdX12_within.2 ⟨Nat.le_of_ble_eq_true rfl, Nat.le_of_ble_eq_true rfl⟩) rfl hl.1 rfl (Nat.le_of_ble_eq_true rfl) dX12_rest_27 (fun r7 M6 H locs hq hh => ?_)
      refine lv_if_ne (tgt := 35) hx hb dX12_rest_30 (by decide) (fun c8 => ?_) (fun c8 => ?_)
      · have hq := hq.1 c8
        refine lv_aload_n hx hb dX12_rest_35 rfl (lv_at hl 0 rfl) ?_
        refine sy_get C hh (fun w h => mc (uZ_fX12 w h)) 0 (by decide) (oZ_0 Y) rfl 28 (by decide) (index := 64) (mc uZ_25) (v := .ref (Y.2.1 14)) rfl dX12_rest_36 ?_
        refine lv_iload_n hx hb dX12_rest_39 rfl (lv_at hl 1 rfl) ?_
        refine lv_iload_n hx hb dX12_rest_40 rfl (lv_at hl 2 rfl) ?_
        obtain ⟨b9, hq⟩ := hq
        refine sy_iast C hh 14 (by decide) (aZ_14 Y) tZ_14 b9 en4 (by decide) dX12_rest_41 (fun H locs hh => ?_)
        refine lv_aload_n hx hb dX12_rest_42 rfl (lv_at hl 0 rfl) ?_
        refine sy_get C hh (fun w h => mc (uZ_fX12 w h)) 0 (by decide) (oZ_0 Y) rfl 29 (by decide) (index := 67) (mc uZ_26) (v := .ref (Y.2.1 15)) rfl dX12_rest_43 ?_
        refine lv_iload_n hx hb dX12_rest_46 rfl (lv_at hl 1 rfl) ?_
        refine lv_iload_n hx hb dX12_rest_47 rfl (lv_at hl 3 rfl) ?_
        obtain ⟨b10, hq⟩ := hq
        refine sy_zast C hh 15 (by decide) (aZ_15 Y) tZ_15 b10 en4 (by decide) dX12_rest_48 (fun H locs hh => ?_)
        refine lv_iconst (v := (1 : Int32)) hx hb dX12_rest_49 (by decide) ?_
        exact sy_zret C hh dX12_rest_50 (by decide) hq
      · have hq := hq.2 c8
        refine lv_iconst (v := (0 : Int32)) hx hb dX12_rest_33 (by decide) ?_
        exact sy_zret C hh dX12_rest_34 (by decide) hq

/-! AreaSetterModel.shape(III)I -/
def wX12_shape_28 (Q : Int32 → sy_M → Prop) (M : sy_M) (x1 : Int32) (x2 : Int32) (s0 : Int32) : Prop := ((x1 ≤ x2 → (¬ x1 = 0) ∧ Q ((s0 * (nI 1000)) / x1) M) ∧ (¬ x1 ≤ x2 → (¬ x2 = 0) ∧ Q ((s0 * (nI 1000)) / x2) M))
def wX12_shape (M : sy_M) (a1 : Int32) (a2 : Int32) (a3 : Int32) (Q : Int32 → sy_M → Prop) : Prop := ((¬ a1 = 0 → ((a2 = 0 → Q (nI 1000000) M) ∧ (¬ a2 = 0 → ((¬ a3 = 0 → ((a2 ≤ a3 → wX12_shape_28  Q M a2 a3 a3) ∧ (¬ a2 ≤ a3 → wX12_shape_28  Q M a2 a3 a2))) ∧ (a3 = 0 → Q (nI 1000000) M))))) ∧ (a1 = 0 → Q (0 : Int32) M))
section
variable {p : Program} {l : Launch} {e : Env} {s : State} {m : MethodId} {args : Array Value} {below : List Frame} {meth : Method} {c : Code} {Y : sy_Y}
set_option maxHeartbeats 4000000 in
set_option maxRecDepth 100000 in
theorem kX12_shape_28 (C : sy_C p m c cX12_shape 3 s args vsX12_shape RX12 meth (some .int) Y NZ tfZ) {Q : Int32 → sy_M → Prop} :
    ∀ (M : sy_M) (x1 : Int32) (x2 : Int32) (s0 : Int32) (H : Heap) (locs : List Loc) (ls : Array Slot), wX12_shape_28 Q M x1 x2 s0 → sy_H Y NZ EZ s H locs M → lv_has ls 3 [(1, .int x1), (2, .int x2)] → W p l e ({ frames := 0, cells := 0, slots := 0, locals := 0 } : Room) s m args below meth c H locs 0 0 (sy_ZI below args s Y NZ EZ Q) (F0 m 28 ls [.int s0]) := by
  have hx := C.1.1
  have hb := C.1.2.1
  intro M x1 x2 s0 H locs ls hq hh hl
  unfold wX12_shape_28 at hq
  refine lv_sipush (v := (nI 1000)) hx hb dX12_shape_28 (by decide) ?_
  refine lv_imul hx hb dX12_shape_31 ?_
  refine lv_iload_n hx hb dX12_shape_32 rfl (lv_at hl 0 rfl) ?_
  refine lv_iload_n hx hb dX12_shape_33 rfl (lv_at hl 1 rfl) ?_
  refine lv_icmp_le (tgt := 41) hx hb dX12_shape_34 (by decide) (fun c5 => ?_) (fun c5 => ?_)
  · have hq := hq.1 c5
    refine lv_iload_n hx hb dX12_shape_41 rfl (lv_at hl 0 rfl) ?_
    obtain ⟨e6, hq⟩ := hq
    refine lv_idiv hx hb dX12_shape_42 e6 ?_
    exact sy_iret C hh dX12_shape_43 hq
  · have hq := hq.2 c5
    refine lv_iload_n hx hb dX12_shape_37 rfl (lv_at hl 1 rfl) ?_
    refine lv_goto (tgt := 42) hx hb dX12_shape_38 (by decide) ?_
    obtain ⟨e7, hq⟩ := hq
    refine lv_idiv hx hb dX12_shape_42 e7 ?_
    exact sy_iret C hh dX12_shape_43 hq

end
set_option maxHeartbeats 4000000 in
set_option maxRecDepth 100000 in
theorem mX12_shape (l : Launch) (Y : sy_Y) (sz : Nat) (M : sy_M) (a1 : Int32) (a2 : Int32) (a3 : Int32) (Q : Int32 → sy_M → Prop) (hq : wX12_shape M a1 a2 a3 Q) : Met l yX12_shape vsX12_shape ({ frames := 0, cells := 0, slots := 0, locals := 0 } : Room) (va_Pc [.int a1, .int a2, .int a3] (sy_pre Y NZ EZ tfZ sz M)) (sy_QI Y NZ EZ sz Q) 0 0 (sy_A NZ Y.2.1 sz) := by
  refine sy_metI (by decide) rfl (Nat.le_of_ble_eq_true rfl) ?_
  intro p e s m args below meth c C ls hl hh
  have hx := C.1.1
  have hb := C.1.2.1
  have hl : lv_has ls 3 [(0, .int a1), (1, .int a2), (2, .int a3)] := hl
  unfold wX12_shape at hq
  refine lv_iload_n hx hb dX12_shape_0 rfl (lv_at hl 0 rfl) ?_
  refine lv_if_ne (tgt := 6) hx hb dX12_shape_1 (by decide) (fun c1 => ?_) (fun c1 => ?_)
  · have hq := hq.1 c1
    refine lv_iload_n hx hb dX12_shape_6 rfl (lv_at hl 1 rfl) ?_
    refine lv_if_eq (tgt := 14) hx hb dX12_shape_7 (by decide) (fun c2 => ?_) (fun c2 => ?_)
    · have hq := hq.1 c2
      refine lv_ldcw (v := (nI 1000000)) hx hb C.1.2.2.2.1 (C.1.2.2.2.2 (.constant RX12 260 (nI 1000000)) (mc uZ_193)) dX12_shape_14 ?_
      exact sy_iret C hh dX12_shape_17 hq
    · have hq := hq.2 c2
      refine lv_iload_n hx hb dX12_shape_10 rfl (lv_at hl 2 rfl) ?_
      refine lv_if_ne (tgt := 18) hx hb dX12_shape_11 (by decide) (fun c3 => ?_) (fun c3 => ?_)
      · have hq := hq.1 c3
        refine lv_iload_n hx hb dX12_shape_18 rfl (lv_at hl 1 rfl) ?_
        refine lv_iload_n hx hb dX12_shape_19 rfl (lv_at hl 2 rfl) ?_
        refine lv_icmp_le (tgt := 27) hx hb dX12_shape_20 (by decide) (fun c4 => ?_) (fun c4 => ?_)
        · have hq := hq.1 c4
          refine lv_iload_n hx hb dX12_shape_27 rfl (lv_at hl 2 rfl) ?_
          refine kX12_shape_28 C  M a2 a3 a3 _ _ _ hq hh (lv_sub hl [1, 2] rfl)
        · have hq := hq.2 c4
          refine lv_iload_n hx hb dX12_shape_23 rfl (lv_at hl 1 rfl) ?_
          refine lv_goto (tgt := 28) hx hb dX12_shape_24 (by decide) ?_
          refine kX12_shape_28 C  M a2 a3 a2 _ _ _ hq hh (lv_sub hl [1, 2] rfl)
      · have hq := hq.2 c3
        refine lv_ldcw (v := (nI 1000000)) hx hb C.1.2.2.2.1 (C.1.2.2.2.2 (.constant RX12 260 (nI 1000000)) (mc uZ_193)) dX12_shape_14 ?_
        exact sy_iret C hh dX12_shape_17 hq
  · have hq := hq.2 c1
    refine lv_iconst (v := (0 : Int32)) hx hb dX12_shape_4 (by decide) ?_
    exact sy_iret C hh dX12_shape_5 hq

/-! AreaSetterModel.worst()I -/
def wX12_worst_4 (Q : Int32 → sy_M → Prop) : Nat → sy_M → Int32 → Int32 → Prop
  | 0, _, _, _ => False
  | n + 1, M, x1, x2 => (((M 0 30) ≤ x2 → Q x1 M) ∧ (¬ (M 0 30) ≤ x2 → ∃ n2 : Nat, n2 < 9 ∧ x2 = nI n2 ∧ wX12_shape M (M 17 n2) (M 20 n2) (M 21 n2) (fun r4 M3 => wX12_worst_4 Q n M3 (imax x1 r4) (x2 + (1 : Int32)))))
def wX12_worst (M : sy_M)  (Q : Int32 → sy_M → Prop) : Prop := ∃ n5 : Nat, wX12_worst_4  Q n5 M (0 : Int32) (0 : Int32)
section
variable {p : Program} {l : Launch} {e : Env} {s : State} {m : MethodId} {args : Array Value} {below : List Frame} {meth : Method} {c : Code} {Y : sy_Y}
set_option maxHeartbeats 4000000 in
set_option maxRecDepth 100000 in
theorem kX12_worst_4 (C : sy_C p m c cX12_worst 3 s args vsX12_worst RX12 meth (some .int) Y NZ tfZ) {Q : Int32 → sy_M → Prop} :
    ∀ (n : Nat) (M : sy_M) (x1 : Int32) (x2 : Int32) (H : Heap) (locs : List Loc) (ls : Array Slot), wX12_worst_4 Q n M x1 x2 → sy_H Y NZ EZ s H locs M → lv_has ls 3 [(0, .ref (Y.2.1 0)), (1, .int x1), (2, .int x2)] → W p l e ({ frames := 1, cells := 0, slots := 0, locals := 22 } : Room) s m args below meth c H locs 0 0 (sy_ZI below args s Y NZ EZ Q) (F0 m 4 ls []) := by
  have hx := C.1.1
  have hb := C.1.2.1
  intro n
  induction n with
  | zero =>
    intro M x1 x2 H locs ls hq hh hl
    unfold wX12_worst_4 at hq
    exact hq.elim
  | succ n ih =>
    intro M x1 x2 H locs ls hq hh hl
    unfold wX12_worst_4 at hq
    refine lv_iload_n hx hb dX12_worst_4 rfl (lv_at hl 2 rfl) ?_
    refine lv_aload_n hx hb dX12_worst_5 rfl (lv_at hl 0 rfl) ?_
    refine sy_get C hh (fun w h => mc (uZ_fX12 w h)) 0 (by decide) (oZ_0 Y) rfl 30 (by decide) (index := 261) (mc uZ_195) (v := .int (M 0 30)) rfl dX12_worst_6 ?_
    refine lv_icmp_ge (tgt := 44) hx hb dX12_worst_9 (by decide) (fun c1 => ?_) (fun c1 => ?_)
    · have hq := hq.1 c1
      refine lv_iload_n hx hb dX12_worst_44 rfl (lv_at hl 1 rfl) ?_
      exact sy_iret C hh dX12_worst_45 hq
    · have hq := hq.2 c1
      refine lv_iload_n hx hb dX12_worst_12 rfl (lv_at hl 1 rfl) ?_
      refine lv_aload_n hx hb dX12_worst_13 rfl (lv_at hl 0 rfl) ?_
      refine sy_get C hh (fun w h => mc (uZ_fX12 w h)) 0 (by decide) (oZ_0 Y) rfl 32 (by decide) (index := 73) (mc uZ_28) (v := .ref (Y.2.1 17)) rfl dX12_worst_14 ?_
      refine lv_iload_n hx hb dX12_worst_17 rfl (lv_at hl 2 rfl) ?_
      obtain ⟨n2, hn2, en2, hq⟩ := hq
      refine sy_iald C hh 17 (by decide) (aZ_17 Y) tZ_17 hn2 en2 (by decide) dX12_worst_18 ?_
      refine lv_aload_n hx hb dX12_worst_19 rfl (lv_at hl 0 rfl) ?_
      refine sy_get C hh (fun w h => mc (uZ_fX12 w h)) 0 (by decide) (oZ_0 Y) rfl 35 (by decide) (index := 82) (mc uZ_31) (v := .ref (Y.2.1 20)) rfl dX12_worst_20 ?_
      refine lv_iload_n hx hb dX12_worst_23 rfl (lv_at hl 2 rfl) ?_
      refine sy_iald C hh 20 (by decide) (aZ_20 Y) tZ_20 hn2 en2 (by decide) dX12_worst_24 ?_
      refine lv_aload_n hx hb dX12_worst_25 rfl (lv_at hl 0 rfl) ?_
      refine sy_get C hh (fun w h => mc (uZ_fX12 w h)) 0 (by decide) (oZ_0 Y) rfl 36 (by decide) (index := 85) (mc uZ_32) (v := .ref (Y.2.1 21)) rfl dX12_worst_26 ?_
      refine lv_iload_n hx hb dX12_worst_29 rfl (lv_at hl 2 rfl) ?_
      refine sy_iald C hh 21 (by decide) (aZ_21 Y) tZ_21 hn2 en2 (by decide) dX12_worst_30 ?_
      refine sy_cIS C hh (As := [.int (M 17 n2), .int (M 20 n2), .int (M 21 n2)]) (rest := [.int x1]) (mX12_shape l Y _ M (M 17 n2) (M 20 n2) (M 21 n2) _ hq) (va_cwS 3 C.1.2.2.2.2 (sy_goodS uZ_good uZ_200 uZ_201 uZ_55 uZ_192 _) rfl rfl rfl hdX12_shape.2 ⟨Nat.le_of_ble_eq_true rfl, Nat.le_of_ble_eq_true rfl⟩) rfl hl.1 rfl (Nat.le_of_ble_eq_true rfl) dX12_worst_31 (fun r4 M3 H locs hq hh => ?_)
      refine sy_mmax C hl (index := 268) (mc uZ_196) (mc uZ_197) (mc uZ_198) (mc uZ_199) (by decide) (Nat.le_of_ble_eq_true rfl) dX12_worst_34 ?_
      refine lv_istore_n (lv' := [(1, .int (imax x1 r4)), (0, .ref (Y.2.1 0)), (2, .int x2)]) hx hb dX12_worst_37 rfl hl (by decide) rfl (fun ls hl => ?_)
      refine lv_iinc (v := (x2 + (1 : Int32))) (lv' := [(2, .int (x2 + (1 : Int32))), (1, .int (imax x1 r4)), (0, .ref (Y.2.1 0))]) hx hb dX12_worst_38 hl (k := 2) rfl (sy_inc (by decide)) (by decide) rfl (fun ls hl => ?_)
      refine lv_goto (tgt := 4) hx hb dX12_worst_41 (by decide) ?_
      exact ih M3 (imax x1 r4) (x2 + (1 : Int32)) _ _ _ hq hh (lv_sub hl [2, 1, 0] rfl)

end
set_option maxHeartbeats 4000000 in
set_option maxRecDepth 100000 in
theorem mX12_worst (l : Launch) (Y : sy_Y) (sz : Nat) (M : sy_M) (Q : Int32 → sy_M → Prop) (hq : wX12_worst M  Q) : Met l yX12_worst vsX12_worst ({ frames := 1, cells := 0, slots := 0, locals := 22 } : Room) (va_Pc [.ref (Y.2.1 0)] (sy_pre Y NZ EZ tfZ sz M)) (sy_QI Y NZ EZ sz Q) 0 0 (sy_A NZ Y.2.1 sz) := by
  refine sy_metI (by decide) rfl (Nat.le_of_ble_eq_true rfl) ?_
  intro p e s m args below meth c C ls hl hh
  have hx := C.1.1
  have hb := C.1.2.1
  have hl : lv_has ls 3 [(0, .ref (Y.2.1 0))] := hl
  unfold wX12_worst at hq
  refine lv_iconst (v := (0 : Int32)) hx hb dX12_worst_0 (by decide) ?_
  refine lv_istore_n (lv' := [(1, .int (0 : Int32)), (0, .ref (Y.2.1 0))]) hx hb dX12_worst_1 rfl hl (by decide) rfl (fun ls hl => ?_)
  refine lv_iconst (v := (0 : Int32)) hx hb dX12_worst_2 (by decide) ?_
  refine lv_istore_n (lv' := [(2, .int (0 : Int32)), (1, .int (0 : Int32)), (0, .ref (Y.2.1 0))]) hx hb dX12_worst_3 rfl hl (by decide) rfl (fun ls hl => ?_)
  obtain ⟨n5, hq⟩ := hq
  refine kX12_worst_4 C  n5 M (0 : Int32) (0 : Int32) _ _ _ hq hh (lv_sub hl [2, 1, 0] rfl)

/-! AreaSetterModel.sum(II)I -/
def wX12_sum (M : sy_M) (a1 : Int32) (a2 : Int32) (Q : Int32 → sy_M → Prop) : Prop := ∃ n1 : Nat, n1 < 10 ∧ a2 = nI n1 ∧ ∃ n2 : Nat, n2 < 10 ∧ a1 = nI n2 ∧ Q ((M 23 n1) - (M 23 n2)) M
section
variable {p : Program} {l : Launch} {e : Env} {s : State} {m : MethodId} {args : Array Value} {below : List Frame} {meth : Method} {c : Code} {Y : sy_Y}
end
set_option maxHeartbeats 4000000 in
set_option maxRecDepth 100000 in
theorem mX12_sum (l : Launch) (Y : sy_Y) (sz : Nat) (M : sy_M) (a1 : Int32) (a2 : Int32) (Q : Int32 → sy_M → Prop) (hq : wX12_sum M a1 a2 Q) : Met l yX12_sum vsX12_sum ({ frames := 0, cells := 0, slots := 0, locals := 0 } : Room) (va_Pc [.ref (Y.2.1 0), .int a1, .int a2] (sy_pre Y NZ EZ tfZ sz M)) (sy_QI Y NZ EZ sz Q) 0 0 (sy_A NZ Y.2.1 sz) := by
  refine sy_metI (by decide) rfl (Nat.le_of_ble_eq_true rfl) ?_
  intro p e s m args below meth c C ls hl hh
  have hx := C.1.1
  have hb := C.1.2.1
  have hl : lv_has ls 3 [(0, .ref (Y.2.1 0)), (1, .int a1), (2, .int a2)] := hl
  unfold wX12_sum at hq
  refine lv_aload_n hx hb dX12_sum_0 rfl (lv_at hl 0 rfl) ?_
  refine sy_get C hh (fun w h => mc (uZ_fX12 w h)) 0 (by decide) (oZ_0 Y) rfl 38 (by decide) (index := 91) (mc uZ_34) (v := .ref (Y.2.1 23)) rfl dX12_sum_1 ?_
  refine lv_iload_n hx hb dX12_sum_4 rfl (lv_at hl 2 rfl) ?_
  obtain ⟨n1, hn1, en1, hq⟩ := hq
  refine sy_iald C hh 23 (by decide) (aZ_23 Y) tZ_23 hn1 en1 (by decide) dX12_sum_5 ?_
  refine lv_aload_n hx hb dX12_sum_6 rfl (lv_at hl 0 rfl) ?_
  refine sy_get C hh (fun w h => mc (uZ_fX12 w h)) 0 (by decide) (oZ_0 Y) rfl 38 (by decide) (index := 91) (mc uZ_34) (v := .ref (Y.2.1 23)) rfl dX12_sum_7 ?_
  refine lv_iload_n hx hb dX12_sum_10 rfl (lv_at hl 1 rfl) ?_
  obtain ⟨n2, hn2, en2, hq⟩ := hq
  refine sy_iald C hh 23 (by decide) (aZ_23 Y) tZ_23 hn2 en2 (by decide) dX12_sum_11 ?_
  refine lv_isub hx hb dX12_sum_12 ?_
  exact sy_iret C hh dX12_sum_13 hq

/-! AreaSetterModel.parts(III)V -/
def wX12_parts_11 (Q : sy_M → Prop) : Nat → sy_M → Int32 → Int32 → Int32 → Int32 → Int32 → Prop
  | 0, _, _, _, _, _, _ => False
  | n + 1, M, x1, x2, x3, x4, x5 => ((x3 ≤ x5 → Q M) ∧ (¬ x3 ≤ x5 → ((¬ x4 = 0 → wX12_sum M x2 x5 (fun r6 M5 => (¬ (x4.toInt64) = 0) ∧ ∃ n8 : Nat, n8 < 9 ∧ x5 = nI n8 ∧ wX12_parts_11 Q n (mu M5 22 n8 ((((x1.toInt64) * (r6.toInt64)) / (x4.toInt64)).toInt32)) x1 x2 x3 x4 (x5 + (1 : Int32)))) ∧ (x4 = 0 → ∃ n9 : Nat, n9 < 9 ∧ x5 = nI n9 ∧ wX12_parts_11 Q n (mu M 22 n9 (0 : Int32)) x1 x2 x3 x4 (x5 + (1 : Int32))))))
def wX12_parts (M : sy_M) (a1 : Int32) (a2 : Int32) (a3 : Int32) (Q : sy_M → Prop) : Prop := wX12_sum M a2 a3 (fun r2 M1 => ∃ n10 : Nat, wX12_parts_11  Q n10 M1 a1 a2 a3 r2 a2)
section
variable {p : Program} {l : Launch} {e : Env} {s : State} {m : MethodId} {args : Array Value} {below : List Frame} {meth : Method} {c : Code} {Y : sy_Y}
set_option maxHeartbeats 4000000 in
set_option maxRecDepth 100000 in
theorem kX12_parts_11 (C : sy_C p m c cX12_parts 6 s args vsX12_parts RX12 meth none Y NZ tfZ) {Q : sy_M → Prop} :
    ∀ (n : Nat) (M : sy_M) (x1 : Int32) (x2 : Int32) (x3 : Int32) (x4 : Int32) (x5 : Int32) (H : Heap) (locs : List Loc) (ls : Array Slot), wX12_parts_11 Q n M x1 x2 x3 x4 x5 → sy_H Y NZ EZ s H locs M → lv_has ls 6 [(0, .ref (Y.2.1 0)), (1, .int x1), (2, .int x2), (3, .int x3), (4, .int x4), (5, .int x5)] → W p l e ({ frames := 1, cells := 0, slots := 0, locals := 22 } : Room) s m args below meth c H locs 0 0 (sy_ZV below args s Y NZ EZ Q) (F0 m 11 ls []) := by
  have hx := C.1.1
  have hb := C.1.2.1
  intro n
  induction n with
  | zero =>
    intro M x1 x2 x3 x4 x5 H locs ls hq hh hl
    unfold wX12_parts_11 at hq
    exact hq.elim
  | succ n ih =>
    intro M x1 x2 x3 x4 x5 H locs ls hq hh hl
    unfold wX12_parts_11 at hq
    refine lv_iload hx hb dX12_parts_11 (lv_at hl 5 rfl) ?_
    refine lv_iload_n hx hb dX12_parts_13 rfl (lv_at hl 3 rfl) ?_
    refine lv_icmp_ge (tgt := 55) hx hb dX12_parts_14 (by decide) (fun c3 => ?_) (fun c3 => ?_)
    · have hq := hq.1 c3
      exact sy_vret C hh dX12_parts_55 hq
    · have hq := hq.2 c3
      refine lv_aload_n hx hb dX12_parts_17 rfl (lv_at hl 0 rfl) ?_
      refine sy_get C hh (fun w h => mc (uZ_fX12 w h)) 0 (by decide) (oZ_0 Y) rfl 37 (by decide) (index := 88) (mc uZ_33) (v := .ref (Y.2.1 22)) rfl dX12_parts_18 ?_
      refine lv_iload hx hb dX12_parts_21 (lv_at hl 5 rfl) ?_
      refine lv_iload hx hb dX12_parts_23 (lv_at hl 4 rfl) ?_
      refine lv_if_ne (tgt := 32) hx hb dX12_parts_25 (by decide) (fun c4 => ?_) (fun c4 => ?_)
      · have hq := hq.1 c4
        refine lv_iload_n hx hb dX12_parts_32 rfl (lv_at hl 1 rfl) ?_
        refine lv_i2l (v := (x1.toInt64)) hx hb dX12_parts_33 rfl ?_
        refine lv_aload_n hx hb dX12_parts_34 rfl (lv_at hl 0 rfl) ?_
        refine lv_iload_n hx hb dX12_parts_35 rfl (lv_at hl 2 rfl) ?_
        refine lv_iload hx hb dX12_parts_36 (lv_at hl 5 rfl) ?_
        refine sy_cIV C hh (As := [.int x2, .int x5]) (rest := [.long (x1.toInt64), .int x5, .ref (Y.2.1 22)]) 0 (by decide) (oZ_0 Y) rfl (mX12_sum l Y _ M x2 x5 _ hq) (cwV 2 C.1.2.2.2.2 (sy_goodV uZ_good uZ_204 uZ_205 uZ_206 uZ_55 uZ_202 _) rfl rfl rfl hdX12_sum ⟨Nat.le_of_ble_eq_true rfl, Nat.le_of_ble_eq_true rfl⟩) rfl hl.1 rfl (Nat.le_of_ble_eq_true rfl) dX12_parts_38 (fun r6 M5 H locs hq hh => ?_)
        refine lv_i2l (v := (r6.toInt64)) hx hb dX12_parts_41 rfl ?_
        refine lv_lmul hx hb dX12_parts_42 ?_
        refine lv_iload hx hb dX12_parts_43 (lv_at hl 4 rfl) ?_
        refine lv_i2l (v := (x4.toInt64)) hx hb dX12_parts_45 rfl ?_
        obtain ⟨e7, hq⟩ := hq
        refine lv_ldiv hx hb dX12_parts_46 e7 ?_
        refine lv_l2i (v := ((((x1.toInt64) * (r6.toInt64)) / (x4.toInt64)).toInt32)) hx hb dX12_parts_47 rfl ?_
        obtain ⟨n8, hn8, en8, hq⟩ := hq
        refine sy_iast C hh 22 (by decide) (aZ_22 Y) tZ_22 hn8 en8 (by decide) dX12_parts_48 (fun H locs hh => ?_)
        refine lv_iinc (v := (x5 + (1 : Int32))) (lv' := [(5, .int (x5 + (1 : Int32))), (0, .ref (Y.2.1 0)), (1, .int x1), (2, .int x2), (3, .int x3), (4, .int x4)]) hx hb dX12_parts_49 hl (k := 5) rfl (sy_inc (by decide)) (by decide) rfl (fun ls hl => ?_)
        refine lv_goto (tgt := 11) hx hb dX12_parts_52 (by decide) ?_
        exact ih (mu M5 22 n8 ((((x1.toInt64) * (r6.toInt64)) / (x4.toInt64)).toInt32)) x1 x2 x3 x4 (x5 + (1 : Int32)) _ _ _ hq hh (lv_sub hl [1, 2, 3, 4, 5, 0] rfl)
      · have hq := hq.2 c4
        refine lv_iconst (v := (0 : Int32)) hx hb dX12_parts_28 (by decide) ?_
        refine lv_goto (tgt := 48) hx hb dX12_parts_29 (by decide) ?_
        obtain ⟨n9, hn9, en9, hq⟩ := hq
        refine sy_iast C hh 22 (by decide) (aZ_22 Y) tZ_22 hn9 en9 (by decide) dX12_parts_48 (fun H locs hh => ?_)
        refine lv_iinc (v := (x5 + (1 : Int32))) (lv' := [(5, .int (x5 + (1 : Int32))), (0, .ref (Y.2.1 0)), (1, .int x1), (2, .int x2), (3, .int x3), (4, .int x4)]) hx hb dX12_parts_49 hl (k := 5) rfl (sy_inc (by decide)) (by decide) rfl (fun ls hl => ?_)
        refine lv_goto (tgt := 11) hx hb dX12_parts_52 (by decide) ?_
        exact ih (mu M 22 n9 (0 : Int32)) x1 x2 x3 x4 (x5 + (1 : Int32)) _ _ _ hq hh (lv_sub hl [1, 2, 3, 4, 5, 0] rfl)

end
set_option maxHeartbeats 4000000 in
set_option maxRecDepth 100000 in
theorem mX12_parts (l : Launch) (Y : sy_Y) (sz : Nat) (M : sy_M) (a1 : Int32) (a2 : Int32) (a3 : Int32) (Q : sy_M → Prop) (hq : wX12_parts M a1 a2 a3 Q) : Met l yX12_parts vsX12_parts ({ frames := 1, cells := 0, slots := 0, locals := 22 } : Room) (va_Pc [.ref (Y.2.1 0), .int a1, .int a2, .int a3] (sy_pre Y NZ EZ tfZ sz M)) (sy_QV Y NZ EZ sz Q) 0 0 (sy_A NZ Y.2.1 sz) := by
  refine sy_metV (by decide) rfl (Nat.le_of_ble_eq_true rfl) ?_
  intro p e s m args below meth c C ls hl hh
  have hx := C.1.1
  have hb := C.1.2.1
  have hl : lv_has ls 6 [(0, .ref (Y.2.1 0)), (1, .int a1), (2, .int a2), (3, .int a3)] := hl
  unfold wX12_parts at hq
  refine lv_aload_n hx hb dX12_parts_0 rfl (lv_at hl 0 rfl) ?_
  refine lv_iload_n hx hb dX12_parts_1 rfl (lv_at hl 2 rfl) ?_
  refine lv_iload_n hx hb dX12_parts_2 rfl (lv_at hl 3 rfl) ?_
  refine sy_cIV C hh (As := [.int a2, .int a3]) (rest := []) 0 (by decide) (oZ_0 Y) rfl (mX12_sum l Y _ M a2 a3 _ hq) (cwV 2 C.1.2.2.2.2 (sy_goodV uZ_good uZ_204 uZ_205 uZ_206 uZ_55 uZ_202 _) rfl rfl rfl hdX12_sum ⟨Nat.le_of_ble_eq_true rfl, Nat.le_of_ble_eq_true rfl⟩) rfl hl.1 rfl (Nat.le_of_ble_eq_true rfl) dX12_parts_3 (fun r2 M1 H locs hq hh => ?_)
  refine lv_istore (lv' := [(4, .int r2), (0, .ref (Y.2.1 0)), (1, .int a1), (2, .int a2), (3, .int a3)]) hx hb dX12_parts_6 hl (by decide) rfl (fun ls hl => ?_)
  refine lv_iload_n hx hb dX12_parts_8 rfl (lv_at hl 3 rfl) ?_
  refine lv_istore (lv' := [(5, .int a2), (4, .int r2), (0, .ref (Y.2.1 0)), (1, .int a1), (2, .int a2), (3, .int a3)]) hx hb dX12_parts_9 hl (by decide) rfl (fun ls hl => ?_)
  obtain ⟨n10, hq⟩ := hq
  refine kX12_parts_11 C  n10 M1 a1 a2 a3 r2 a2 _ _ _ hq hh (lv_sub hl [2, 3, 4, 5, 1, 0] rfl)

