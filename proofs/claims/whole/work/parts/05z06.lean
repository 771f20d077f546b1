/-! AreaSetterModel.lays(IIIII)V -/
def wX12_lays (M : sy_M) (a1 : Int32) (a2 : Int32) (a3 : Int32) (a4 : Int32) (a5 : Int32) (Q : sy_M → Prop) : Prop := wX12_sum M (0 : Int32) (M 0 30) (fun r2 M1 => ((¬ r2 = 0 → ((¬ a1 = 0 → ((¬ a1 = (1 : Int32) → wX12_laysCuts 9 M1 (0 : Int32) (M1 0 30) a2 a3 a4 a5 (fun M6 => Q M6)) ∧ (a1 = (1 : Int32) → wX12_breaks M1 a2 a3 a4 a5 (fun r8 M7 => wX12_laysRows M7 r8 a2 a3 a4 a5 (fun M9 => Q M9))))) ∧ (a1 = 0 → wX12_laysSlice M1 a2 a3 a4 a5 (fun M10 => Q M10)))) ∧ (r2 = 0 → wX12_laysNothing M1 a2 a3 (fun M11 => Q M11))))
section
variable {p : Program} {l : Launch} {e : Env} {s : State} {m : MethodId} {args : Array Value} {below : List Frame} {meth : Method} {c : Code} {Y : sy_Y}
end
set_option maxHeartbeats 4000000 in
set_option maxRecDepth 100000 in
theorem mX12_lays (l : Launch) (Y : sy_Y) (sz : Nat) (M : sy_M) (a1 : Int32) (a2 : Int32) (a3 : Int32) (a4 : Int32) (a5 : Int32) (Q : sy_M → Prop) (hq : wX12_lays M a1 a2 a3 a4 a5 Q) : Met l yX12_lays vsX12_lays ({ frames := 39, cells := 0, slots := 0, locals := 1193 } : Room) (va_Pc [.ref (Y.2.1 0), .int a1, .int a2, .int a3, .int a4, .int a5] (sy_pre Y NZ EZ tfZ sz M)) (sy_QV Y NZ EZ sz Q) 0 0 (sy_A NZ Y.2.1 sz) := by
  refine sy_metV (by decide) rfl (Nat.le_of_ble_eq_true rfl) ?_
  intro p e s m args below meth c C ls hl hh
  have hx := C.1.1
  have hb := C.1.2.1
  have hl : lv_has ls 6 [(0, .ref (Y.2.1 0)), (1, .int a1), (2, .int a2), (3, .int a3), (4, .int a4), (5, .int a5)] := hl
  unfold wX12_lays at hq
  refine lv_aload_n hx hb dX12_lays_0 rfl (lv_at hl 0 rfl) ?_
  refine lv_iconst (v := (0 : Int32)) hx hb dX12_lays_1 (by decide) ?_
  refine lv_aload_n hx hb dX12_lays_2 rfl (lv_at hl 0 rfl) ?_
  refine sy_get C hh (fun w h => mc (uZ_fX12 w h)) 0 (by decide) (oZ_0 Y) rfl 30 (by decide) (index := 261) (mc uZ_195) (v := .int (M 0 30)) rfl dX12_lays_3 ?_
  refine sy_cIV C hh (As := [.int (0 : Int32), .int (M 0 30)]) (rest := []) 0 (by decide) (oZ_0 Y) rfl (mX12_sum l Y _ M (0 : Int32) (M 0 30) _ hq) (cwV 2 C.1.2.2.2.2 (sy_goodV uZ_good uZ_204 uZ_205 uZ_206 uZ_55 uZ_202 _) rfl rfl rfl hdX12_sum ⟨Nat.le_of_ble_eq_true rfl, Nat.le_of_ble_eq_true rfl⟩) rfl hl.1 rfl (Nat.le_of_ble_eq_true rfl) dX12_lays_6 (fun r2 M1 H locs hq hh => ?_)
  refine lv_if_ne (tgt := 21) hx hb dX12_lays_9 (by decide) (fun c3 => ?_) (fun c3 => ?_)
  · have hq := hq.1 c3
    refine lv_iload_n hx hb dX12_lays_21 rfl (lv_at hl 1 rfl) ?_
    refine lv_if_ne (tgt := 38) hx hb dX12_lays_22 (by decide) (fun c4 => ?_) (fun c4 => ?_)
    · have hq := hq.1 c4
      refine lv_iload_n hx hb dX12_lays_38 rfl (lv_at hl 1 rfl) ?_
      refine lv_iconst (v := (1 : Int32)) hx hb dX12_lays_39 (by decide) ?_
      refine lv_icmp_ne (tgt := 66) hx hb dX12_lays_40 (by decide) (fun c5 => ?_) (fun c5 => ?_)
      · have hq := hq.1 c5
        refine lv_aload_n hx hb dX12_lays_66 rfl (lv_at hl 0 rfl) ?_
        refine lv_iconst (v := (0 : Int32)) hx hb dX12_lays_67 (by decide) ?_
        refine lv_aload_n hx hb dX12_lays_68 rfl (lv_at hl 0 rfl) ?_
        refine sy_get C hh (fun w h => mc (uZ_fX12 w h)) 0 (by decide) (oZ_0 Y) rfl 30 (by decide) (index := 261) (mc uZ_195) (v := .int (M1 0 30)) rfl dX12_lays_69 ?_
        refine lv_iload_n hx hb dX12_lays_72 rfl (lv_at hl 2 rfl) ?_
        refine lv_iload_n hx hb dX12_lays_73 rfl (lv_at hl 3 rfl) ?_
        refine lv_iload hx hb dX12_lays_74 (lv_at hl 4 rfl) ?_
        refine lv_iload hx hb dX12_lays_76 (lv_at hl 5 rfl) ?_
        refine sy_cVV C hh (As := [.int (0 : Int32), .int (M1 0 30), .int a2, .int a3, .int a4, .int a5]) (rest := []) 0 (by decide) (oZ_0 Y) rfl (mX12_laysCuts l Y 9 _ M1 (0 : Int32) (M1 0 30) a2 a3 a4 a5 _ hq) (cwV 6 C.1.2.2.2.2 (sy_goodV uZ_good uZ_251 uZ_252 uZ_253 uZ_55 uZ_254 _) rfl rfl rfl hdX12_laysCuts ⟨Nat.le_of_ble_eq_true rfl, Nat.le_of_ble_eq_true rfl⟩) rfl hl.1 rfl (Nat.le_of_ble_eq_true rfl) dX12_lays_78 (fun M6 H locs hq hh => ?_)
        exact sy_vret C hh dX12_lays_81 hq
      · have hq := hq.2 c5
        refine lv_aload_n hx hb dX12_lays_43 rfl (lv_at hl 0 rfl) ?_
        refine lv_aload_n hx hb dX12_lays_44 rfl (lv_at hl 0 rfl) ?_
        refine lv_iload_n hx hb dX12_lays_45 rfl (lv_at hl 2 rfl) ?_
        refine lv_iload_n hx hb dX12_lays_46 rfl (lv_at hl 3 rfl) ?_
        refine lv_iload hx hb dX12_lays_47 (lv_at hl 4 rfl) ?_
        refine lv_iload hx hb dX12_lays_49 (lv_at hl 5 rfl) ?_
        refine sy_cIV C hh (As := [.int a2, .int a3, .int a4, .int a5]) (rest := [.ref (Y.2.1 0)]) 0 (by decide) (oZ_0 Y) rfl (mX12_breaks l Y _ M1 a2 a3 a4 a5 _ hq) (cwV 4 C.1.2.2.2.2 (sy_goodV uZ_good uZ_261 uZ_262 uZ_263 uZ_55 uZ_234 _) rfl rfl rfl hdX12_breaks ⟨Nat.le_of_ble_eq_true rfl, Nat.le_of_ble_eq_true rfl⟩) rfl hl.1 rfl (Nat.le_of_ble_eq_true rfl) dX12_lays_51 (fun r8 M7 H locs hq hh => ?_)
        refine lv_iload_n hx hb dX12_lays_54 rfl (lv_at hl 2 rfl) ?_
        refine lv_iload_n hx hb dX12_lays_55 rfl (lv_at hl 3 rfl) ?_
        refine lv_iload hx hb dX12_lays_56 (lv_at hl 4 rfl) ?_
        refine lv_iload hx hb dX12_lays_58 (lv_at hl 5 rfl) ?_
        refine sy_cVV C hh (As := [.int r8, .int a2, .int a3, .int a4, .int a5]) (rest := []) 0 (by decide) (oZ_0 Y) rfl (mX12_laysRows l Y _ M7 r8 a2 a3 a4 a5 _ hq) (cwV 5 C.1.2.2.2.2 (sy_goodV uZ_good uZ_225 uZ_226 uZ_227 uZ_55 uZ_216 _) rfl rfl rfl hdX12_laysRows ⟨Nat.le_of_ble_eq_true rfl, Nat.le_of_ble_eq_true rfl⟩) rfl hl.1 rfl (Nat.le_of_ble_eq_true rfl) dX12_lays_60 (fun M9 H locs hq hh => ?_)
        refine lv_goto (tgt := 81) hx hb dX12_lays_63 (by decide) ?_
        exact sy_vret C hh dX12_lays_81 hq
    · have hq := hq.2 c4
      refine lv_aload_n hx hb dX12_lays_25 rfl (lv_at hl 0 rfl) ?_
      refine lv_iload_n hx hb dX12_lays_26 rfl (lv_at hl 2 rfl) ?_
      refine lv_iload_n hx hb dX12_lays_27 rfl (lv_at hl 3 rfl) ?_
      refine lv_iload hx hb dX12_lays_28 (lv_at hl 4 rfl) ?_
      refine lv_iload hx hb dX12_lays_30 (lv_at hl 5 rfl) ?_
      refine sy_cVV C hh (As := [.int a2, .int a3, .int a4, .int a5]) (rest := []) 0 (by decide) (oZ_0 Y) rfl (mX12_laysSlice l Y _ M1 a2 a3 a4 a5 _ hq) (cwV 4 C.1.2.2.2.2 (sy_goodV uZ_good uZ_258 uZ_259 uZ_260 uZ_55 uZ_209 _) rfl rfl rfl hdX12_laysSlice ⟨Nat.le_of_ble_eq_true rfl, Nat.le_of_ble_eq_true rfl⟩) rfl hl.1 rfl (Nat.le_of_ble_eq_true rfl) dX12_lays_32 (fun M10 H locs hq hh => ?_)
      refine lv_goto (tgt := 81) hx hb dX12_lays_35 (by decide) ?_
      exact sy_vret C hh dX12_lays_81 hq
  · have hq := hq.2 c3
    refine lv_aload_n hx hb dX12_lays_12 rfl (lv_at hl 0 rfl) ?_
    refine lv_iload_n hx hb dX12_lays_13 rfl (lv_at hl 2 rfl) ?_
    refine lv_iload_n hx hb dX12_lays_14 rfl (lv_at hl 3 rfl) ?_
    refine sy_cVV C hh (As := [.int a2, .int a3]) (rest := []) 0 (by decide) (oZ_0 Y) rfl (mX12_laysNothing l Y _ M1 a2 a3 _ hq) (cwV 2 C.1.2.2.2.2 (sy_goodV uZ_good uZ_255 uZ_256 uZ_257 uZ_55 uZ_208 _) rfl rfl rfl hdX12_laysNothing ⟨Nat.le_of_ble_eq_true rfl, Nat.le_of_ble_eq_true rfl⟩) rfl hl.1 rfl (Nat.le_of_ble_eq_true rfl) dX12_lays_15 (fun M11 H locs hq hh => ?_)
    refine lv_goto (tgt := 81) hx hb dX12_lays_18 (by decide) ?_
    exact sy_vret C hh dX12_lays_81 hq

/-! AreaSetterModel.rowOf(I)I -/
def wX12_rowOf (M : sy_M) (a1 : Int32) (Q : Int32 → sy_M → Prop) : Prop := Q ((nI 41) * (a1 - a1 / (nI 51) * (nI 51))) M
section
variable {p : Program} {l : Launch} {e : Env} {s : State} {m : MethodId} {args : Array Value} {below : List Frame} {meth : Method} {c : Code} {Y : sy_Y}
end
set_option maxHeartbeats 4000000 in
set_option maxRecDepth 100000 in
theorem mX12_rowOf (l : Launch) (Y : sy_Y) (sz : Nat) (M : sy_M) (a1 : Int32) (Q : Int32 → sy_M → Prop) (hq : wX12_rowOf M a1 Q) : Met l yX12_rowOf vsX12_rowOf ({ frames := 0, cells := 0, slots := 0, locals := 0 } : Room) (va_Pc [.int a1] (sy_pre Y NZ EZ tfZ sz M)) (sy_QI Y NZ EZ sz Q) 0 0 (sy_A NZ Y.2.1 sz) := by
  refine sy_metI (by decide) rfl (Nat.le_of_ble_eq_true rfl) ?_
  intro p e s m args below meth c C ls hl hh
  have hx := C.1.1
  have hb := C.1.2.1
  have hl : lv_has ls 1 [(0, .int a1)] := hl
  unfold wX12_rowOf at hq
  refine lv_bipush (v := (nI 41)) hx hb dX12_rowOf_0 (by decide) ?_
  refine lv_iload_n hx hb dX12_rowOf_2 rfl (lv_at hl 0 rfl) ?_
  refine lv_bipush (v := (nI 51)) hx hb dX12_rowOf_3 (by decide) ?_
  refine lv_irem hx hb dX12_rowOf_5 (by decide) ?_
  refine lv_imul hx hb dX12_rowOf_6 ?_
  exact sy_iret C hh dX12_rowOf_7 hq

/-! AreaSetterModel.size(I)I -/
def wX12_size_ (M : sy_M) (a1 : Int32) (Q : Int32 → sy_M → Prop) : Prop := ((0 ≤ a1 → Q a1 M) ∧ (¬ 0 ≤ a1 → Q (-a1) M))
section
variable {p : Program} {l : Launch} {e : Env} {s : State} {m : MethodId} {args : Array Value} {below : List Frame} {meth : Method} {c : Code} {Y : sy_Y}
end
set_option maxHeartbeats 4000000 in
set_option maxRecDepth 100000 in
theorem mX12_size_ (l : Launch) (Y : sy_Y) (sz : Nat) (M : sy_M) (a1 : Int32) (Q : Int32 → sy_M → Prop) (hq : wX12_size_ M a1 Q) : Met l yX12_size_ vsX12_size_ ({ frames := 0, cells := 0, slots := 0, locals := 0 } : Room) (va_Pc [.int a1] (sy_pre Y NZ EZ tfZ sz M)) (sy_QI Y NZ EZ sz Q) 0 0 (sy_A NZ Y.2.1 sz) := by
  refine sy_metI (by decide) rfl (Nat.le_of_ble_eq_true rfl) ?_
  intro p e s m args below meth c C ls hl hh
  have hx := C.1.1
  have hb := C.1.2.1
  have hl : lv_has ls 1 [(0, .int a1)] := hl
  unfold wX12_size_ at hq
  refine lv_iload_n hx hb dX12_size__0 rfl (lv_at hl 0 rfl) ?_
  refine lv_if_ge (tgt := 9) hx hb dX12_size__1 (by decide) (fun c1 => ?_) (fun c1 => ?_)
  · have hq := hq.1 c1
    refine lv_iload_n hx hb dX12_size__9 rfl (lv_at hl 0 rfl) ?_
    exact sy_iret C hh dX12_size__10 hq
  · have hq := hq.2 c1
    refine lv_iload_n hx hb dX12_size__4 rfl (lv_at hl 0 rfl) ?_
    refine lv_ineg hx hb dX12_size__5 ?_
    refine lv_goto (tgt := 10) hx hb dX12_size__6 (by decide) ?_
    exact sy_iret C hh dX12_size__10 hq

/-! AreaSetterModel.far(IIIIII)I -/
def wX12_far (M : sy_M) (a1 : Int32) (a2 : Int32) (a3 : Int32) (a4 : Int32) (a5 : Int32) (a6 : Int32) (Q : Int32 → sy_M → Prop) : Prop := ∃ n1 : Nat, n1 < 2091 ∧ (a1 + a2) = nI n1 ∧ wX12_size_ M (a3 - (M 27 n1)) (fun r3 M2 => wX12_size_ M2 (a4 - (M2 28 n1)) (fun r5 M4 => wX12_size_ M4 (((a3 + a5) - (M4 27 n1)) - (M4 29 n1)) (fun r7 M6 => wX12_size_ M6 (((a4 + a6) - (M6 28 n1)) - (M6 30 n1)) (fun r9 M8 => Q (((r3 + r5) + r7) + r9) M8))))
section
variable {p : Program} {l : Launch} {e : Env} {s : State} {m : MethodId} {args : Array Value} {below : List Frame} {meth : Method} {c : Code} {Y : sy_Y}
end
set_option maxHeartbeats 4000000 in
set_option maxRecDepth 100000 in
theorem mX12_far (l : Launch) (Y : sy_Y) (sz : Nat) (M : sy_M) (a1 : Int32) (a2 : Int32) (a3 : Int32) (a4 : Int32) (a5 : Int32) (a6 : Int32) (Q : Int32 → sy_M → Prop) (hq : wX12_far M a1 a2 a3 a4 a5 a6 Q) : Met l yX12_far vsX12_far ({ frames := 1, cells := 0, slots := 0, locals := 20 } : Room) (va_Pc [.ref (Y.2.1 0), .int a1, .int a2, .int a3, .int a4, .int a5, .int a6] (sy_pre Y NZ EZ tfZ sz M)) (sy_QI Y NZ EZ sz Q) 0 0 (sy_A NZ Y.2.1 sz) := by
  refine sy_metI (by decide) rfl (Nat.le_of_ble_eq_true rfl) ?_
  intro p e s m args below meth c C ls hl hh
  have hx := C.1.1
  have hb := C.1.2.1
  have hl : lv_has ls 8 [(0, .ref (Y.2.1 0)), (1, .int a1), (2, .int a2), (3, .int a3), (4, .int a4), (5, .int a5), (6, .int a6)] := hl
  unfold wX12_far at hq
  refine lv_iload_n hx hb dX12_far_0 rfl (lv_at hl 1 rfl) ?_
  refine lv_iload_n hx hb dX12_far_1 rfl (lv_at hl 2 rfl) ?_
  refine lv_iadd hx hb dX12_far_2 ?_
  refine lv_istore (lv' := [(7, .int (a1 + a2)), (0, .ref (Y.2.1 0)), (1, .int a1), (2, .int a2), (3, .int a3), (4, .int a4), (5, .int a5), (6, .int a6)]) hx hb dX12_far_3 hl (by decide) rfl (fun ls hl => ?_)
  refine lv_iload_n hx hb dX12_far_5 rfl (lv_at hl 4 rfl) ?_
  refine lv_aload_n hx hb dX12_far_6 rfl (lv_at hl 1 rfl) ?_
  refine sy_get C hh (fun w h => mc (uZ_fX12 w h)) 0 (by decide) (oZ_0 Y) rfl 43 (by decide) (index := 103) (mc uZ_38) (v := .ref (Y.2.1 27)) rfl dX12_far_7 ?_
  refine lv_iload hx hb dX12_far_10 (lv_at hl 0 rfl) ?_
  obtain ⟨n1, hn1, en1, hq⟩ := hq
  refine sy_iald C hh 27 (by decide) (aZ_27 Y) tZ_27 hn1 en1 (by decide) dX12_far_12 ?_
  refine lv_isub hx hb dX12_far_13 ?_
  refine sy_cIS C hh (As := [.int (a3 - (M 27 n1))]) (rest := []) (mX12_size_ l Y _ M (a3 - (M 27 n1)) _ hq) (va_cwS 1 C.1.2.2.2.2 (sy_goodS uZ_good uZ_268 uZ_269 uZ_55 uZ_266 _) rfl rfl rfl hdX12_size_.2 ⟨Nat.le_of_ble_eq_true rfl, Nat.le_of_ble_eq_true rfl⟩) rfl hl.1 rfl (Nat.le_of_ble_eq_true rfl) dX12_far_14 (fun r3 M2 H locs hq hh => ?_)
  refine lv_iload hx hb dX12_far_17 (lv_at hl 5 rfl) ?_
  refine lv_aload_n hx hb dX12_far_19 rfl (lv_at hl 1 rfl) ?_
  refine sy_get C hh (fun w h => mc (uZ_fX12 w h)) 0 (by decide) (oZ_0 Y) rfl 44 (by decide) (index := 106) (mc uZ_39) (v := .ref (Y.2.1 28)) rfl dX12_far_20 ?_
  refine lv_iload hx hb dX12_far_23 (lv_at hl 0 rfl) ?_
  refine sy_iald C hh 28 (by decide) (aZ_28 Y) tZ_28 hn1 en1 (by decide) dX12_far_25 ?_
  refine lv_isub hx hb dX12_far_26 ?_
  refine sy_cIS C hh (As := [.int (a4 - (M2 28 n1))]) (rest := [.int r3]) (mX12_size_ l Y _ M2 (a4 - (M2 28 n1)) _ hq) (va_cwS 1 C.1.2.2.2.2 (sy_goodS uZ_good uZ_268 uZ_269 uZ_55 uZ_266 _) rfl rfl rfl hdX12_size_.2 ⟨Nat.le_of_ble_eq_true rfl, Nat.le_of_ble_eq_true rfl⟩) rfl hl.1 rfl (Nat.le_of_ble_eq_true rfl) dX12_far_27 (fun r5 M4 H locs hq hh => ?_)
  refine lv_iadd hx hb dX12_far_30 ?_
  refine lv_iload_n hx hb dX12_far_31 rfl (lv_at hl 4 rfl) ?_
  refine lv_iload hx hb dX12_far_32 (lv_at hl 6 rfl) ?_
  refine lv_iadd hx hb dX12_far_34 ?_
  refine lv_aload_n hx hb dX12_far_35 rfl (lv_at hl 1 rfl) ?_
  refine sy_get C hh (fun w h => mc (uZ_fX12 w h)) 0 (by decide) (oZ_0 Y) rfl 43 (by decide) (index := 103) (mc uZ_38) (v := .ref (Y.2.1 27)) rfl dX12_far_36 ?_
  refine lv_iload hx hb dX12_far_39 (lv_at hl 0 rfl) ?_
  refine sy_iald C hh 27 (by decide) (aZ_27 Y) tZ_27 hn1 en1 (by decide) dX12_far_41 ?_
  refine lv_isub hx hb dX12_far_42 ?_
  refine lv_aload_n hx hb dX12_far_43 rfl (lv_at hl 1 rfl) ?_
  refine sy_get C hh (fun w h => mc (uZ_fX12 w h)) 0 (by decide) (oZ_0 Y) rfl 45 (by decide) (index := 109) (mc uZ_40) (v := .ref (Y.2.1 29)) rfl dX12_far_44 ?_
  refine lv_iload hx hb dX12_far_47 (lv_at hl 0 rfl) ?_
  refine sy_iald C hh 29 (by decide) (aZ_29 Y) tZ_29 hn1 en1 (by decide) dX12_far_49 ?_
  refine lv_isub hx hb dX12_far_50 ?_
  refine sy_cIS C hh (As := [.int (((a3 + a5) - (M4 27 n1)) - (M4 29 n1))]) (rest := [.int (r3 + r5)]) (mX12_size_ l Y _ M4 (((a3 + a5) - (M4 27 n1)) - (M4 29 n1)) _ hq) (va_cwS 1 C.1.2.2.2.2 (sy_goodS uZ_good uZ_268 uZ_269 uZ_55 uZ_266 _) rfl rfl rfl hdX12_size_.2 ⟨Nat.le_of_ble_eq_true rfl, Nat.le_of_ble_eq_true rfl⟩) rfl hl.1 rfl (Nat.le_of_ble_eq_true rfl) dX12_far_51 (fun r7 M6 H locs hq hh => ?_)
  refine lv_iadd hx hb dX12_far_54 ?_
  refine lv_iload hx hb dX12_far_55 (lv_at hl 5 rfl) ?_
  refine lv_iload hx hb dX12_far_57 (lv_at hl 7 rfl) ?_
  refine lv_iadd hx hb dX12_far_59 ?_
  refine lv_aload_n hx hb dX12_far_60 rfl (lv_at hl 1 rfl) ?_
  refine sy_get C hh (fun w h => mc (uZ_fX12 w h)) 0 (by decide) (oZ_0 Y) rfl 44 (by decide) (index := 106) (mc uZ_39) (v := .ref (Y.2.1 28)) rfl dX12_far_61 ?_
  refine lv_iload hx hb dX12_far_64 (lv_at hl 0 rfl) ?_
  refine sy_iald C hh 28 (by decide) (aZ_28 Y) tZ_28 hn1 en1 (by decide) dX12_far_66 ?_
  refine lv_isub hx hb dX12_far_67 ?_
  refine lv_aload_n hx hb dX12_far_68 rfl (lv_at hl 1 rfl) ?_
  refine sy_get C hh (fun w h => mc (uZ_fX12 w h)) 0 (by decide) (oZ_0 Y) rfl 46 (by decide) (index := 112) (mc uZ_41) (v := .ref (Y.2.1 30)) rfl dX12_far_69 ?_
  refine lv_iload hx hb dX12_far_72 (lv_at hl 0 rfl) ?_
  refine sy_iald C hh 30 (by decide) (aZ_30 Y) tZ_30 hn1 en1 (by decide) dX12_far_74 ?_
  refine lv_isub hx hb dX12_far_75 ?_
  refine sy_cIS C hh (As := [.int (((a4 + a6) - (M6 28 n1)) - (M6 30 n1))]) (rest := [.int ((r3 + r5) + r7)]) (mX12_size_ l Y _ M6 (((a4 + a6) - (M6 28 n1)) - (M6 30 n1)) _ hq) (va_cwS 1 C.1.2.2.2.2 (sy_goodS uZ_good uZ_268 uZ_269 uZ_55 uZ_266 _) rfl rfl rfl hdX12_size_.2 ⟨Nat.le_of_ble_eq_true rfl, Nat.le_of_ble_eq_true rfl⟩) rfl hl.1 rfl (Nat.le_of_ble_eq_true rfl) dX12_far_76 (fun r9 M8 H locs hq hh => ?_)
  refine lv_iadd hx hb dX12_far_79 ?_
  exact sy_iret C hh dX12_far_80 hq

/-! AreaSetterModel.moves()I -/
def wX12_moves_4 (Q : Int32 → sy_M → Prop) : Nat → sy_M → Int32 → Int32 → Prop
  | 0, _, _, _ => False
  | n + 1, M, x1, x2 => (((M 0 30) ≤ x2 → Q x1 M) ∧ (¬ (M 0 30) ≤ x2 → (((M 0 40) ≤ 0 → Q x1 M) ∧ (¬ (M 0 40) ≤ 0 → wX12_rowOf M ((M 0 40) - (1 : Int32)) (fun r4 M3 => ∃ n5 : Nat, n5 < 9 ∧ x2 = nI n5 ∧ (((M3 16 n5) = (-1 : Int32) → wX12_moves_4 Q n M3 x1 (x2 + (1 : Int32))) ∧ (¬ (M3 16 n5) = (-1 : Int32) → ∃ n7 : Nat, n7 < 2091 ∧ (r4 + (M3 16 n5)) = nI n7 ∧ (((M3 26 n7) = 0 → wX12_moves_4 Q n M3 x1 (x2 + (1 : Int32))) ∧ (¬ (M3 26 n7) = 0 → wX12_far M3 r4 (M3 16 n5) (M3 18 n5) (M3 19 n5) (M3 20 n5) (M3 21 n5) (fun r10 M9 => wX12_moves_4 Q n M9 (x1 + r10) (x2 + (1 : Int32))))))))))))
def wX12_moves (M : sy_M)  (Q : Int32 → sy_M → Prop) : Prop := ∃ n11 : Nat, wX12_moves_4  Q n11 M (0 : Int32) (0 : Int32)
section
variable {p : Program} {l : Launch} {e : Env} {s : State} {m : MethodId} {args : Array Value} {below : List Frame} {meth : Method} {c : Code} {Y : sy_Y}
set_option maxHeartbeats 4000000 in
set_option maxRecDepth 100000 in
theorem kX12_moves_4 (C : sy_C p m c cX12_moves 4 s args vsX12_moves RX12 meth (some .int) Y NZ tfZ) {Q : Int32 → sy_M → Prop} :
    ∀ (n : Nat) (M : sy_M) (x1 : Int32) (x2 : Int32) (H : Heap) (locs : List Loc) (ls : Array Slot), wX12_moves_4 Q n M x1 x2 → sy_H Y NZ EZ s H locs M → lv_has ls 4 [(0, .ref (Y.2.1 0)), (1, .int x1), (2, .int x2)] → W p l e ({ frames := 2, cells := 0, slots := 0, locals := 47 } : Room) s m args below meth c H locs 0 0 (sy_ZI below args s Y NZ EZ Q) (F0 m 4 ls []) := by
  have hx := C.1.1
  have hb := C.1.2.1
  intro n
  induction n with
  | zero =>
    intro M x1 x2 H locs ls hq hh hl
    unfold wX12_moves_4 at hq
    exact hq.elim
  | succ n ih =>
    intro M x1 x2 H locs ls hq hh hl
    unfold wX12_moves_4 at hq
    refine lv_iload_n hx hb dX12_moves_4 rfl (lv_at hl 2 rfl) ?_
    refine lv_aload_n hx hb dX12_moves_5 rfl (lv_at hl 0 rfl) ?_
    refine sy_get C hh (fun w h => mc (uZ_fX12 w h)) 0 (by decide) (oZ_0 Y) rfl 30 (by decide) (index := 261) (mc uZ_195) (v := .int (M 0 30)) rfl dX12_moves_6 ?_
    refine lv_icmp_ge (tgt := 99) hx hb dX12_moves_9 (by decide) (fun c1 => ?_) (fun c1 => ?_)
    · have hq := hq.1 c1
      refine lv_iload_n hx hb dX12_moves_99 rfl (lv_at hl 1 rfl) ?_
      exact sy_iret C hh dX12_moves_100 hq
    · have hq := hq.2 c1
      refine lv_aload_n hx hb dX12_moves_12 rfl (lv_at hl 0 rfl) ?_
      refine sy_get C hh (fun w h => mc (uZ_fX12 w h)) 0 (by decide) (oZ_0 Y) rfl 40 (by decide) (index := 249) (mc uZ_177) (v := .int (M 0 40)) rfl dX12_moves_13 ?_
      refine lv_if_le (tgt := 99) hx hb dX12_moves_16 (by decide) (fun c2 => ?_) (fun c2 => ?_)
      · have hq := hq.1 c2
        refine lv_iload_n hx hb dX12_moves_99 rfl (lv_at hl 1 rfl) ?_
        exact sy_iret C hh dX12_moves_100 hq
      · have hq := hq.2 c2
        refine lv_aload_n hx hb dX12_moves_19 rfl (lv_at hl 0 rfl) ?_
        refine sy_get C hh (fun w h => mc (uZ_fX12 w h)) 0 (by decide) (oZ_0 Y) rfl 40 (by decide) (index := 249) (mc uZ_177) (v := .int (M 0 40)) rfl dX12_moves_20 ?_
        refine lv_iconst (v := (1 : Int32)) hx hb dX12_moves_23 (by decide) ?_
        refine lv_isub hx hb dX12_moves_24 ?_
        refine sy_cIS C hh (As := [.int ((M 0 40) - (1 : Int32))]) (rest := []) (mX12_rowOf l Y _ M ((M 0 40) - (1 : Int32)) _ hq) (va_cwS 1 C.1.2.2.2.2 (sy_goodS uZ_good uZ_271 uZ_272 uZ_55 uZ_265 _) rfl rfl rfl hdX12_rowOf.2 ⟨Nat.le_of_ble_eq_true rfl, Nat.le_of_ble_eq_true rfl⟩) rfl hl.1 rfl (Nat.le_of_ble_eq_true rfl) dX12_moves_25 (fun r4 M3 H locs hq hh => ?_)
        refine lv_istore_n (lv' := [(3, .int r4), (0, .ref (Y.2.1 0)), (1, .int x1), (2, .int x2)]) hx hb dX12_moves_28 rfl hl (by decide) rfl (fun ls hl => ?_)
        refine lv_aload_n hx hb dX12_moves_29 rfl (lv_at hl 1 rfl) ?_
        refine sy_get C hh (fun w h => mc (uZ_fX12 w h)) 0 (by decide) (oZ_0 Y) rfl 31 (by decide) (index := 70) (mc uZ_27) (v := .ref (Y.2.1 16)) rfl dX12_moves_30 ?_
        refine lv_iload_n hx hb dX12_moves_33 rfl (lv_at hl 3 rfl) ?_
        obtain ⟨n5, hn5, en5, hq⟩ := hq
        refine sy_iald C hh 16 (by decide) (aZ_16 Y) tZ_16 hn5 en5 (by decide) dX12_moves_34 ?_
        refine lv_iconst (v := (-1 : Int32)) hx hb dX12_moves_35 (by decide) ?_
        refine lv_icmp_eq (tgt := 93) hx hb dX12_moves_36 (by decide) (fun c6 => ?_) (fun c6 => ?_)
        · have hq := hq.1 c6
          refine lv_iinc (v := (x2 + (1 : Int32))) (lv' := [(2, .int (x2 + (1 : Int32))), (3, .int r4), (0, .ref (Y.2.1 0)), (1, .int x1)]) hx hb dX12_moves_93 hl (k := 3) rfl (sy_inc (by decide)) (by decide) rfl (fun ls hl => ?_)
          refine lv_goto (tgt := 4) hx hb dX12_moves_96 (by decide) ?_
          exact ih M3 x1 (x2 + (1 : Int32)) _ _ _ hq hh (lv_sub hl [2, 3, 0] rfl)
        · have hq := hq.2 c6
          refine lv_aload_n hx hb dX12_moves_39 rfl (lv_at hl 1 rfl) ?_
          refine sy_get C hh (fun w h => mc (uZ_fX12 w h)) 0 (by decide) (oZ_0 Y) rfl 42 (by decide) (index := 100) (mc uZ_37) (v := .ref (Y.2.1 26)) rfl dX12_moves_40 ?_
          refine lv_iload_n hx hb dX12_moves_43 rfl (lv_at hl 0 rfl) ?_
          refine lv_aload_n hx hb dX12_moves_44 rfl (lv_at hl 1 rfl) ?_
          refine sy_get C hh (fun w h => mc (uZ_fX12 w h)) 0 (by decide) (oZ_0 Y) rfl 31 (by decide) (index := 70) (mc uZ_27) (v := .ref (Y.2.1 16)) rfl dX12_moves_45 ?_
          refine lv_iload_n hx hb dX12_moves_48 rfl (lv_at hl 3 rfl) ?_
          refine sy_iald C hh 16 (by decide) (aZ_16 Y) tZ_16 hn5 en5 (by decide) dX12_moves_49 ?_
          refine lv_iadd hx hb dX12_moves_50 ?_
          obtain ⟨n7, hn7, en7, hq⟩ := hq
          refine sy_zald C hh 26 (by decide) (aZ_26 Y) tZ_26 hn7 en7 (by decide) dX12_moves_51 ?_
          refine lv_if_eq (tgt := 93) hx hb dX12_moves_52 (by decide) (fun c8 => ?_) (fun c8 => ?_)
          · have hq := hq.1 c8
            refine lv_iinc (v := (x2 + (1 : Int32))) (lv' := [(2, .int (x2 + (1 : Int32))), (3, .int r4), (0, .ref (Y.2.1 0)), (1, .int x1)]) hx hb dX12_moves_93 hl (k := 3) rfl (sy_inc (by decide)) (by decide) rfl (fun ls hl => ?_)
            refine lv_goto (tgt := 4) hx hb dX12_moves_96 (by decide) ?_
            exact ih M3 x1 (x2 + (1 : Int32)) _ _ _ hq hh (lv_sub hl [2, 3, 0] rfl)
          · have hq := hq.2 c8
            refine lv_iload_n hx hb dX12_moves_55 rfl (lv_at hl 2 rfl) ?_
            refine lv_aload_n hx hb dX12_moves_56 rfl (lv_at hl 1 rfl) ?_
            refine lv_iload_n hx hb dX12_moves_57 rfl (lv_at hl 0 rfl) ?_
            refine lv_aload_n hx hb dX12_moves_58 rfl (lv_at hl 1 rfl) ?_
            refine sy_get C hh (fun w h => mc (uZ_fX12 w h)) 0 (by decide) (oZ_0 Y) rfl 31 (by decide) (index := 70) (mc uZ_27) (v := .ref (Y.2.1 16)) rfl dX12_moves_59 ?_
            refine lv_iload_n hx hb dX12_moves_62 rfl (lv_at hl 3 rfl) ?_
            refine sy_iald C hh 16 (by decide) (aZ_16 Y) tZ_16 hn5 en5 (by decide) dX12_moves_63 ?_
            refine lv_aload_n hx hb dX12_moves_64 rfl (lv_at hl 1 rfl) ?_
            refine sy_get C hh (fun w h => mc (uZ_fX12 w h)) 0 (by decide) (oZ_0 Y) rfl 33 (by decide) (index := 76) (mc uZ_29) (v := .ref (Y.2.1 18)) rfl dX12_moves_65 ?_
            refine lv_iload_n hx hb dX12_moves_68 rfl (lv_at hl 3 rfl) ?_
            refine sy_iald C hh 18 (by decide) (aZ_18 Y) tZ_18 hn5 en5 (by decide) dX12_moves_69 ?_
            refine lv_aload_n hx hb dX12_moves_70 rfl (lv_at hl 1 rfl) ?_
            refine sy_get C hh (fun w h => mc (uZ_fX12 w h)) 0 (by decide) (oZ_0 Y) rfl 34 (by decide) (index := 79) (mc uZ_30) (v := .ref (Y.2.1 19)) rfl dX12_moves_71 ?_
            refine lv_iload_n hx hb dX12_moves_74 rfl (lv_at hl 3 rfl) ?_
            refine sy_iald C hh 19 (by decide) (aZ_19 Y) tZ_19 hn5 en5 (by decide) dX12_moves_75 ?_
            refine lv_aload_n hx hb dX12_moves_76 rfl (lv_at hl 1 rfl) ?_
            refine sy_get C hh (fun w h => mc (uZ_fX12 w h)) 0 (by decide) (oZ_0 Y) rfl 35 (by decide) (index := 82) (mc uZ_31) (v := .ref (Y.2.1 20)) rfl dX12_moves_77 ?_
            refine lv_iload_n hx hb dX12_moves_80 rfl (lv_at hl 3 rfl) ?_
            refine sy_iald C hh 20 (by decide) (aZ_20 Y) tZ_20 hn5 en5 (by decide) dX12_moves_81 ?_
            refine lv_aload_n hx hb dX12_moves_82 rfl (lv_at hl 1 rfl) ?_
            refine sy_get C hh (fun w h => mc (uZ_fX12 w h)) 0 (by decide) (oZ_0 Y) rfl 36 (by decide) (index := 85) (mc uZ_32) (v := .ref (Y.2.1 21)) rfl dX12_moves_83 ?_
            refine lv_iload_n hx hb dX12_moves_86 rfl (lv_at hl 3 rfl) ?_
            refine sy_iald C hh 21 (by decide) (aZ_21 Y) tZ_21 hn5 en5 (by decide) dX12_moves_87 ?_
            refine sy_cIV C hh (As := [.int r4, .int (M3 16 n5), .int (M3 18 n5), .int (M3 19 n5), .int (M3 20 n5), .int (M3 21 n5)]) (rest := [.int x1]) 0 (by decide) (oZ_0 Y) rfl (mX12_far l Y _ M3 r4 (M3 16 n5) (M3 18 n5) (M3 19 n5) (M3 20 n5) (M3 21 n5) _ hq) (cwV 6 C.1.2.2.2.2 (sy_goodV uZ_good uZ_273 uZ_274 uZ_275 uZ_55 uZ_267 _) rfl rfl rfl hdX12_far ⟨Nat.le_of_ble_eq_true rfl, Nat.le_of_ble_eq_true rfl⟩) rfl hl.1 rfl (Nat.le_of_ble_eq_true rfl) dX12_moves_88 (fun r10 M9 H locs hq hh => ?_)
            refine lv_iadd hx hb dX12_moves_91 ?_
            refine lv_istore_n (lv' := [(1, .int (x1 + r10)), (3, .int r4), (0, .ref (Y.2.1 0)), (2, .int x2)]) hx hb dX12_moves_92 rfl hl (by decide) rfl (fun ls hl => ?_)
            refine lv_iinc (v := (x2 + (1 : Int32))) (lv' := [(2, .int (x2 + (1 : Int32))), (1, .int (x1 + r10)), (3, .int r4), (0, .ref (Y.2.1 0))]) hx hb dX12_moves_93 hl (k := 3) rfl (sy_inc (by decide)) (by decide) rfl (fun ls hl => ?_)
            refine lv_goto (tgt := 4) hx hb dX12_moves_96 (by decide) ?_
            exact ih M9 (x1 + r10) (x2 + (1 : Int32)) _ _ _ hq hh (lv_sub hl [3, 1, 0] rfl)

end
set_option maxHeartbeats 4000000 in
set_option maxRecDepth 100000 in
theorem mX12_moves (l : Launch) (Y : sy_Y) (sz : Nat) (M : sy_M) (Q : Int32 → sy_M → Prop) (hq : wX12_moves M  Q) : Met l yX12_moves vsX12_moves ({ frames := 2, cells := 0, slots := 0, locals := 47 } : Room) (va_Pc [.ref (Y.2.1 0)] (sy_pre Y NZ EZ tfZ sz M)) (sy_QI Y NZ EZ sz Q) 0 0 (sy_A NZ Y.2.1 sz) := by
  refine sy_metI (by decide) rfl (Nat.le_of_ble_eq_true rfl) ?_
  intro p e s m args below meth c C ls hl hh
  have hx := C.1.1
  have hb := C.1.2.1
  have hl : lv_has ls 4 [(0, .ref (Y.2.1 0))] := hl
  unfold wX12_moves at hq
  refine lv_iconst (v := (0 : Int32)) hx hb dX12_moves_0 (by decide) ?_
  refine lv_istore_n (lv' := [(1, .int (0 : Int32)), (0, .ref (Y.2.1 0))]) hx hb dX12_moves_1 rfl hl (by decide) rfl (fun ls hl => ?_)
  refine lv_iconst (v := (0 : Int32)) hx hb dX12_moves_2 (by decide) ?_
  refine lv_istore_n (lv' := [(2, .int (0 : Int32)), (1, .int (0 : Int32)), (0, .ref (Y.2.1 0))]) hx hb dX12_moves_3 rfl hl (by decide) rfl (fun ls hl => ?_)
  obtain ⟨n11, hq⟩ := hq
  refine kX12_moves_4 C  n11 M (0 : Int32) (0 : Int32) _ _ _ hq hh (lv_sub hl [2, 1, 0] rfl)

/-! AreaSetterModel.isSmallOne(III)Z -/
def wX12_isSmallOne (M : sy_M) (a1 : Int32) (a2 : Int32) (a3 : Int32) (Q : Int32 → sy_M → Prop) : Prop := ∃ n1 : Nat, n1 < 82 ∧ a1 = nI n1 ∧ ((¬ (M 3 n1) = 0 → Q (0 : Int32) M) ∧ ((M 3 n1) = 0 → wX12_sizeOf 8 M a1 a3 (fun r4 M3 => ∃ n5 : Nat, n5 < 41 ∧ a2 = nI n5 ∧ wX12_sizeOf 8 M3 a2 a3 (fun r7 M6 => ((0 ≤ (lg_cmp ((1000 : Int64) * (r4.toInt64)) (((M3 14 n5).toInt64) * (r7.toInt64))) → Q (0 : Int32) M6) ∧ (¬ 0 ≤ (lg_cmp ((1000 : Int64) * (r4.toInt64)) (((M3 14 n5).toInt64) * (r7.toInt64))) → Q (1 : Int32) M6))))))
section
variable {p : Program} {l : Launch} {e : Env} {s : State} {m : MethodId} {args : Array Value} {below : List Frame} {meth : Method} {c : Code} {Y : sy_Y}
end
set_option maxHeartbeats 4000000 in
set_option maxRecDepth 100000 in
theorem mX12_isSmallOne (l : Launch) (Y : sy_Y) (sz : Nat) (M : sy_M) (a1 : Int32) (a2 : Int32) (a3 : Int32) (Q : Int32 → sy_M → Prop) (hq : wX12_isSmallOne M a1 a2 a3 Q) : Met l yX12_isSmallOne vsX12_isSmallOne ({ frames := 11, cells := 0, slots := 0, locals := 316 } : Room) (va_Pc [.ref (Y.2.1 0), .int a1, .int a2, .int a3] (sy_pre Y NZ EZ tfZ sz M)) (sy_QI Y NZ EZ sz Q) 0 0 (sy_A NZ Y.2.1 sz) := by
  refine sy_metI (by decide) rfl (Nat.le_of_ble_eq_true rfl) ?_
  intro p e s m args below meth c C ls hl hh
  have hx := C.1.1
  have hb := C.1.2.1
  have hl : lv_has ls 4 [(0, .ref (Y.2.1 0)), (1, .int a1), (2, .int a2), (3, .int a3)] := hl
  unfold wX12_isSmallOne at hq
  refine lv_aload_n hx hb dX12_isSmallOne_0 rfl (lv_at hl 0 rfl) ?_
  refine sy_get C hh (fun w h => mc (uZ_fX12 w h)) 0 (by decide) (oZ_0 Y) rfl 16 (by decide) (index := 30) (mc uZ_14) (v := .ref (Y.2.1 3)) rfl dX12_isSmallOne_1 ?_
  refine lv_iload_n hx hb dX12_isSmallOne_4 rfl (lv_at hl 1 rfl) ?_
  obtain ⟨n1, hn1, en1, hq⟩ := hq
  refine sy_zald C hh 3 (by decide) (aZ_3 Y) tZ_3 hn1 en1 (by decide) dX12_isSmallOne_5 ?_
  refine lv_if_ne (tgt := 43) hx hb dX12_isSmallOne_6 (by decide) (fun c2 => ?_) (fun c2 => ?_)
  · have hq := hq.1 c2
    refine lv_iconst (v := (0 : Int32)) hx hb dX12_isSmallOne_43 (by decide) ?_
    exact sy_zret C hh dX12_isSmallOne_44 (by decide) hq
  · have hq := hq.2 c2
    refine lv_ldc2 (v := 1000) hx hb C.1.2.2.2.1 (C.1.2.2.2.2 (.constantLong RX12 338 1000) (mc uZ_277)) dX12_isSmallOne_9 ?_
    refine lv_aload_n hx hb dX12_isSmallOne_12 rfl (lv_at hl 0 rfl) ?_
    refine lv_iload_n hx hb dX12_isSmallOne_13 rfl (lv_at hl 1 rfl) ?_
    refine lv_iload_n hx hb dX12_isSmallOne_14 rfl (lv_at hl 3 rfl) ?_
    refine sy_cIV C hh (As := [.int a1, .int a3]) (rest := [.long (1000 : Int64)]) 0 (by decide) (oZ_0 Y) rfl (mX12_sizeOf l Y 8 _ M a1 a3 _ hq) (cwV 2 C.1.2.2.2.2 (sy_goodV uZ_good uZ_187 uZ_188 uZ_189 uZ_55 uZ_186 _) rfl rfl rfl hdX12_sizeOf ⟨Nat.le_of_ble_eq_true rfl, Nat.le_of_ble_eq_true rfl⟩) rfl hl.1 rfl (Nat.le_of_ble_eq_true rfl) dX12_isSmallOne_15 (fun r4 M3 H locs hq hh => ?_)
    refine lv_i2l (v := (r4.toInt64)) hx hb dX12_isSmallOne_18 rfl ?_
    refine lv_lmul hx hb dX12_isSmallOne_19 ?_
    refine lv_aload_n hx hb dX12_isSmallOne_20 rfl (lv_at hl 0 rfl) ?_
    refine sy_get C hh (fun w h => mc (uZ_fX12 w h)) 0 (by decide) (oZ_0 Y) rfl 28 (by decide) (index := 64) (mc uZ_25) (v := .ref (Y.2.1 14)) rfl dX12_isSmallOne_21 ?_
    refine lv_iload_n hx hb dX12_isSmallOne_24 rfl (lv_at hl 2 rfl) ?_
    obtain ⟨n5, hn5, en5, hq⟩ := hq
    refine sy_iald C hh 14 (by decide) (aZ_14 Y) tZ_14 hn5 en5 (by decide) dX12_isSmallOne_25 ?_
    refine lv_i2l (v := ((M3 14 n5).toInt64)) hx hb dX12_isSmallOne_26 rfl ?_
    refine lv_aload_n hx hb dX12_isSmallOne_27 rfl (lv_at hl 0 rfl) ?_
    refine lv_iload_n hx hb dX12_isSmallOne_28 rfl (lv_at hl 2 rfl) ?_
    refine lv_iload_n hx hb dX12_isSmallOne_29 rfl (lv_at hl 3 rfl) ?_
    refine sy_cIV C hh (As := [.int a2, .int a3]) (rest := [.long ((M3 14 n5).toInt64), .long ((1000 : Int64) * (r4.toInt64))]) 0 (by decide) (oZ_0 Y) rfl (mX12_sizeOf l Y 8 _ M3 a2 a3 _ hq) (cwV 2 C.1.2.2.2.2 (sy_goodV uZ_good uZ_187 uZ_188 uZ_189 uZ_55 uZ_186 _) rfl rfl rfl hdX12_sizeOf ⟨Nat.le_of_ble_eq_true rfl, Nat.le_of_ble_eq_true rfl⟩) rfl hl.1 rfl (Nat.le_of_ble_eq_true rfl) dX12_isSmallOne_30 (fun r7 M6 H locs hq hh => ?_)
    refine lv_i2l (v := (r7.toInt64)) hx hb dX12_isSmallOne_33 rfl ?_
    refine lv_lmul hx hb dX12_isSmallOne_34 ?_
    refine W.lcmp hx hb dX12_isSmallOne_35 ?_
    refine lv_if_ge (tgt := 43) hx hb dX12_isSmallOne_36 (by decide) (fun c8 => ?_) (fun c8 => ?_)
    · have hq := hq.1 c8
      refine lv_iconst (v := (0 : Int32)) hx hb dX12_isSmallOne_43 (by decide) ?_
      exact sy_zret C hh dX12_isSmallOne_44 (by decide) hq
    · have hq := hq.2 c8
      refine lv_iconst (v := (1 : Int32)) hx hb dX12_isSmallOne_39 (by decide) ?_
      refine lv_goto (tgt := 44) hx hb dX12_isSmallOne_40 (by decide) ?_
      exact sy_zret C hh dX12_isSmallOne_44 (by decide) hq

/-! AreaSetterModel.findItems(II)V -/
def wX12_findItems_7 (K_47 : sy_M → Int32 → Int32 → Int32 → Prop) (Q : sy_M → Prop) : Nat → sy_M → Int32 → Int32 → Int32 → Int32 → Prop
  | 0, _, _, _, _, _ => False
  | n + 1, M, x1, x2, x3, x4 => (((M 0 13) ≤ x4 → K_47 M x1 x2 x3) ∧ (¬ (M 0 13) ≤ x4 → ∃ n2 : Nat, n2 < 82 ∧ x4 = nI n2 ∧ ((¬ (M 2 n2) = x1 → wX12_findItems_7 K_47 Q n M x1 x2 x3 (x4 + (1 : Int32))) ∧ ((M 2 n2) = x1 → wX12_isSmallOne M x4 x1 x2 (fun r5 M4 => ((r5 = 0 → wX12_findItems_7 K_47 Q n M4 x1 x2 x3 (x4 + (1 : Int32))) ∧ (¬ r5 = 0 → wX12_findItems_7 K_47 Q n M4 x1 x2 (x3 + (1 : Int32)) (x4 + (1 : Int32)))))))))
def wX12_findItems_169 (K_235 : sy_M → Int32 → Int32 → Int32 → Int32 → Int32 → Int32 → Prop) (Q : sy_M → Prop) : Nat → sy_M → Int32 → Int32 → Int32 → Int32 → Int32 → Int32 → Prop
  | 0, _, _, _, _, _, _, _ => False
  | n + 1, M, x1, x2, x4, x5, x6, x7 => ((x7 ≤ 0 → K_235 M x1 x2 x4 x5 x6 x7) ∧ (¬ x7 ≤ 0 → ∃ n23 : Nat, n23 < 82 ∧ x1 = nI n23 ∧ (((M 7 n23) = 0 → K_235 M x1 x2 x4 x5 x6 x7) ∧ (¬ (M 7 n23) = 0 → ∃ n25 : Nat, n25 < 9 ∧ (x7 - (1 : Int32)) = nI n25 ∧ ((x6 ≤ (M 17 n25) → K_235 M x1 x2 x4 x5 x6 x7) ∧ (¬ x6 ≤ (M 17 n25) → ∃ n27 : Nat, n27 < 9 ∧ x7 = nI n27 ∧ wX12_findItems_169 K_235 Q n (mu (mu M 16 n27 (M 16 n25)) 17 n27 (M 17 n25)) x1 x2 x4 x5 x6 (x7 + (-1 : Int32))))))))
def wX12_findItems_235 (K_101 : sy_M → Int32 → Int32 → Int32 → Int32 → Prop) (Q : sy_M → Prop) (M : sy_M) (x1 : Int32) (x2 : Int32) (x4 : Int32) (x5 : Int32) (x6 : Int32) (x7 : Int32) : Prop := ∃ n35 : Nat, n35 < 9 ∧ x7 = nI n35 ∧ K_101 (mu (mu (mu M 16 n35 x5) 17 n35 x6) 0 30 ((M 0 30) + (1 : Int32))) x1 x2 x4 (x5 + (1 : Int32))
def wX12_findItems_101 (K_269 : sy_M → Int32 → Int32 → Prop) (Q : sy_M → Prop) : Nat → sy_M → Int32 → Int32 → Int32 → Int32 → Prop
  | 0, _, _, _, _, _ => False
  | n + 1, M, x1, x2, x4, x5 => (((M 0 13) ≤ x5 → K_269 M x1 x4) ∧ (¬ (M 0 13) ≤ x5 → ∃ n17 : Nat, n17 < 82 ∧ x5 = nI n17 ∧ (((M 2 n17) = x1 → wX12_sizeOf 8 M x5 x2 (fun r20 M19 => ((x4 = 0 → ∃ n41 : Nat, wX12_findItems_169 (fun (M28 : sy_M) (x1_29 : Int32) (x2_30 : Int32) (x4_31 : Int32) (x5_32 : Int32) (x6_33 : Int32) (x7_34 : Int32) => wX12_findItems_235 (fun (M36 : sy_M) (x1_37 : Int32) (x2_38 : Int32) (x4_39 : Int32) (x5_40 : Int32) => wX12_findItems_101 K_269 Q n M36 x1_37 x2_38 x4_39 x5_40) Q M28 x1_29 x2_30 x4_31 x5_32 x6_33 x7_34) Q n41 M19 x1 x2 x4 x5 r20 (M19 0 30)) ∧ (¬ x4 = 0 → wX12_isSmallOne M19 x5 x1 x2 (fun r43 M42 => ((r43 = 0 → ∃ n57 : Nat, wX12_findItems_169 (fun (M45 : sy_M) (x1_46 : Int32) (x2_47 : Int32) (x4_48 : Int32) (x5_49 : Int32) (x6_50 : Int32) (x7_51 : Int32) => wX12_findItems_235 (fun (M52 : sy_M) (x1_53 : Int32) (x2_54 : Int32) (x4_55 : Int32) (x5_56 : Int32) => wX12_findItems_101 K_269 Q n M52 x1_53 x2_54 x4_55 x5_56) Q M45 x1_46 x2_47 x4_48 x5_49 x6_50 x7_51) Q n57 M42 x1 x2 x4 x5 r20 (M42 0 30)) ∧ (¬ r43 = 0 → ∃ n58 : Nat, n58 < 41 ∧ x1 = nI n58 ∧ wX12_findItems_101 K_269 Q n (mu M42 35 n58 ((M42 35 n58) + r20)) x1 x2 x4 (x5 + (1 : Int32))))))))) ∧ (¬ (M 2 n17) = x1 → wX12_findItems_101 K_269 Q n M x1 x2 x4 (x5 + (1 : Int32))))))
def wX12_findItems_319 (Q : sy_M → Prop) : Nat → sy_M → Int32 → Prop
  | 0, _, _ => False
  | n + 1, M, x5 => (((M 0 30) ≤ x5 → Q M) ∧ (¬ (M 0 30) ≤ x5 → ∃ n65 : Nat, n65 < 10 ∧ x5 = nI n65 ∧ n65 < 9 ∧ ∃ n67 : Nat, n67 < 10 ∧ (x5 + (1 : Int32)) = nI n67 ∧ wX12_findItems_319 Q n (mu M 23 n67 ((M 23 n65) + (M 17 n65))) (x5 + (1 : Int32))))
def wX12_findItems_309 (Q : sy_M → Prop) (M : sy_M) : Prop := ∃ n63 : Nat, n63 < 10 ∧ (0 : Int32) = nI n63 ∧ ∃ n68 : Nat, wX12_findItems_319  Q n68 (mu M 23 n63 (0 : Int32)) (0 : Int32)
def wX12_findItems_88 (Q : sy_M → Prop) (M : sy_M) (x1 : Int32) (x2 : Int32) (x4 : Int32) (s1 : Int32) (s2 : Int32) : Prop := ∃ n14 : Nat, n14 < 41 ∧ s1 = nI n14 ∧ ∃ n15 : Nat, n15 < 41 ∧ x1 = nI n15 ∧ ∃ n71 : Nat, wX12_findItems_101 (fun (M59 : sy_M) (x1_60 : Int32) (x4_61 : Int32) => ((x4_61 = 0 → wX12_findItems_309  Q M59) ∧ (¬ x4_61 = 0 → ∃ n69 : Nat, n69 < 9 ∧ (M59 0 30) = nI n69 ∧ ∃ n70 : Nat, n70 < 41 ∧ x1_60 = nI n70 ∧ wX12_findItems_309  Q (mu (mu (mu M59 16 n69 (-1 : Int32)) 17 n69 (M59 35 n70)) 0 30 ((M59 0 30) + (1 : Int32)))))) Q n71 (mu (mu M 34 n14 s2) 35 n15 (0 : Int32)) x1 x2 x4 (x1 + (1 : Int32))
def wX12_findItems_66 (Q : sy_M → Prop) (M : sy_M) (x1 : Int32) (x2 : Int32) (x3 : Int32) (s0 : Int32) : Prop := ((s0 = 0 → wX12_findItems_88  Q (mu M 0 30 (0 : Int32)) x1 x2 s0 x1 (0 : Int32)) ∧ (¬ s0 = 0 → wX12_findItems_88  Q (mu M 0 30 (0 : Int32)) x1 x2 s0 x1 x3))
def wX12_findItems_65 (Q : sy_M → Prop) (M : sy_M) (x1 : Int32) (x2 : Int32) (x3 : Int32) : Prop := wX12_findItems_66  Q M x1 x2 x3 (0 : Int32)
def wX12_findItems (M : sy_M) (a1 : Int32) (a2 : Int32) (Q : sy_M → Prop) : Prop := ∃ n73 : Nat, wX12_findItems_7 (fun (M7 : sy_M) (x1_8 : Int32) (x2_9 : Int32) (x3_10 : Int32) => ∃ n11 : Nat, n11 < 41 ∧ x1_8 = nI n11 ∧ ((¬ (M7 15 n11) = 0 → wX12_findItems_65  Q M7 x1_8 x2_9 x3_10) ∧ ((M7 15 n11) = 0 → ((x3_10 < (nI 2) → wX12_findItems_65  Q M7 x1_8 x2_9 x3_10) ∧ (¬ x3_10 < (nI 2) → wX12_findItems_66  Q M7 x1_8 x2_9 x3_10 (1 : Int32)))))) Q n73 M a1 a2 (0 : Int32) (a1 + (1 : Int32))
section
variable {p : Program} {l : Launch} {e : Env} {s : State} {m : MethodId} {args : Array Value} {below : List Frame} {meth : Method} {c : Code} {Y : sy_Y}
set_option maxHeartbeats 4000000 in
set_option maxRecDepth 100000 in
theorem kX12_findItems_7 (C : sy_C p m c cX12_findItems 8 s args vsX12_findItems RX12 meth none Y NZ tfZ) {Q : sy_M → Prop} {K_47 : sy_M → Int32 → Int32 → Int32 → Prop} (hK_47 : ∀ (M : sy_M) (x1 : Int32) (x2 : Int32) (x3 : Int32) (H : Heap) (locs : List Loc) (ls : Array Slot), K_47 M x1 x2 x3 → sy_H Y NZ EZ s H locs M → lv_has ls 8 [(0, .ref (Y.2.1 0)), (1, .int x1), (2, .int x2), (3, .int x3)] → W p l e ({ frames := 12, cells := 0, slots := 0, locals := 339 } : Room) s m args below meth c H locs 0 0 (sy_ZV below args s Y NZ EZ Q) (F0 m 47 ls [])) :
    ∀ (n : Nat) (M : sy_M) (x1 : Int32) (x2 : Int32) (x3 : Int32) (x4 : Int32) (H : Heap) (locs : List Loc) (ls : Array Slot), wX12_findItems_7 K_47 Q n M x1 x2 x3 x4 → sy_H Y NZ EZ s H locs M → lv_has ls 8 [(0, .ref (Y.2.1 0)), (1, .int x1), (2, .int x2), (3, .int x3), (4, .int x4)] → W p l e ({ frames := 12, cells := 0, slots := 0, locals := 339 } : Room) s m args below meth c H locs 0 0 (sy_ZV below args s Y NZ EZ Q) (F0 m 7 ls []) := by
  have hx := C.1.1
  have hb := C.1.2.1
  intro n
  induction n with
  | zero =>
    intro M x1 x2 x3 x4 H locs ls hq hh hl
    unfold wX12_findItems_7 at hq
    exact hq.elim
  | succ n ih =>
    intro M x1 x2 x3 x4 H locs ls hq hh hl
    unfold wX12_findItems_7 at hq
    refine lv_iload hx hb dX12_findItems_7 (lv_at hl 4 rfl) ?_
    refine lv_aload_n hx hb dX12_findItems_9 rfl (lv_at hl 0 rfl) ?_
    refine sy_get C hh (fun w h => mc (uZ_fX12 w h)) 0 (by decide) (oZ_0 Y) rfl 13 (by decide) (index := 243) (mc uZ_175) (v := .int (M 0 13)) rfl dX12_findItems_10 ?_
    refine lv_icmp_ge (tgt := 47) hx hb dX12_findItems_13 (by decide) (fun c1 => ?_) (fun c1 => ?_)
    · have hq := hq.1 c1
      exact hK_47 M x1 x2 x3 _ _ _ hq hh (lv_sub hl [0, 1, 2, 3] rfl)
    · have hq := hq.2 c1
      refine lv_aload_n hx hb dX12_findItems_16 rfl (lv_at hl 0 rfl) ?_
      refine sy_get C hh (fun w h => mc (uZ_fX12 w h)) 0 (by decide) (oZ_0 Y) rfl 15 (by decide) (index := 26) (mc uZ_12) (v := .ref (Y.2.1 2)) rfl dX12_findItems_17 ?_
      refine lv_iload hx hb dX12_findItems_20 (lv_at hl 4 rfl) ?_
      obtain ⟨n2, hn2, en2, hq⟩ := hq
      refine sy_iald C hh 2 (by decide) (aZ_2 Y) tZ_2 hn2 en2 (by decide) dX12_findItems_22 ?_
      refine lv_iload_n hx hb dX12_findItems_23 rfl (lv_at hl 1 rfl) ?_
      refine lv_icmp_ne (tgt := 41) hx hb dX12_findItems_24 (by decide) (fun c3 => ?_) (fun c3 => ?_)
      · have hq := hq.1 c3
        refine lv_iinc (v := (x4 + (1 : Int32))) (lv' := [(4, .int (x4 + (1 : Int32))), (0, .ref (Y.2.1 0)), (1, .int x1), (2, .int x2), (3, .int x3)]) hx hb dX12_findItems_41 hl (k := 4) rfl (sy_inc (by decide)) (by decide) rfl (fun ls hl => ?_)
        refine lv_goto (tgt := 7) hx hb dX12_findItems_44 (by decide) ?_
        exact ih M x1 x2 x3 (x4 + (1 : Int32)) _ _ _ hq hh (lv_sub hl [1, 2, 3, 4, 0] rfl)
      · have hq := hq.2 c3
        refine lv_aload_n hx hb dX12_findItems_27 rfl (lv_at hl 0 rfl) ?_
        refine lv_iload hx hb dX12_findItems_28 (lv_at hl 4 rfl) ?_
        refine lv_iload_n hx hb dX12_findItems_30 rfl (lv_at hl 1 rfl) ?_
        refine lv_iload_n hx hb dX12_findItems_31 rfl (lv_at hl 2 rfl) ?_
        refine sy_cIV C hh (As := [.int x4, .int x1, .int x2]) (rest := []) 0 (by decide) (oZ_0 Y) rfl (mX12_isSmallOne l Y _ M x4 x1 x2 _ hq) (cwV 3 C.1.2.2.2.2 (sy_goodV uZ_good uZ_278 uZ_279 uZ_280 uZ_55 uZ_276 _) rfl rfl rfl hdX12_isSmallOne ⟨Nat.le_of_ble_eq_true rfl, Nat.le_of_ble_eq_true rfl⟩) rfl hl.1 rfl (Nat.le_of_ble_eq_true rfl) dX12_findItems_32 (fun r5 M4 H locs hq hh => ?_)
        refine lv_if_eq (tgt := 41) hx hb dX12_findItems_35 (by decide) (fun c6 => ?_) (fun c6 => ?_)
        · have hq := hq.1 c6
          refine lv_iinc (v := (x4 + (1 : Int32))) (lv' := [(4, .int (x4 + (1 : Int32))), (0, .ref (Y.2.1 0)), (1, .int x1), (2, .int x2), (3, .int x3)]) hx hb dX12_findItems_41 hl (k := 4) rfl (sy_inc (by decide)) (by decide) rfl (fun ls hl => ?_)
          refine lv_goto (tgt := 7) hx hb dX12_findItems_44 (by decide) ?_
          exact ih M4 x1 x2 x3 (x4 + (1 : Int32)) _ _ _ hq hh (lv_sub hl [1, 2, 3, 4, 0] rfl)
        · have hq := hq.2 c6
          refine lv_iinc (v := (x3 + (1 : Int32))) (lv' := [(3, .int (x3 + (1 : Int32))), (0, .ref (Y.2.1 0)), (1, .int x1), (2, .int x2), (4, .int x4)]) hx hb dX12_findItems_38 hl (k := 3) rfl (sy_inc (by decide)) (by decide) rfl (fun ls hl => ?_)
          refine lv_iinc (v := (x4 + (1 : Int32))) (lv' := [(4, .int (x4 + (1 : Int32))), (3, .int (x3 + (1 : Int32))), (0, .ref (Y.2.1 0)), (1, .int x1), (2, .int x2)]) hx hb dX12_findItems_41 hl (k := 4) rfl (sy_inc (by decide)) (by decide) rfl (fun ls hl => ?_)
          refine lv_goto (tgt := 7) hx hb dX12_findItems_44 (by decide) ?_
          exact ih M4 x1 x2 (x3 + (1 : Int32)) (x4 + (1 : Int32)) _ _ _ hq hh (lv_sub hl [2, 3, 4, 1, 0] rfl)

set_option maxHeartbeats 4000000 in
set_option maxRecDepth 100000 in
theorem kX12_findItems_169 (C : sy_C p m c cX12_findItems 8 s args vsX12_findItems RX12 meth none Y NZ tfZ) {Q : sy_M → Prop} {K_235 : sy_M → Int32 → Int32 → Int32 → Int32 → Int32 → Int32 → Prop} (hK_235 : ∀ (M : sy_M) (x1 : Int32) (x2 : Int32) (x4 : Int32) (x5 : Int32) (x6 : Int32) (x7 : Int32) (H : Heap) (locs : List Loc) (ls : Array Slot), K_235 M x1 x2 x4 x5 x6 x7 → sy_H Y NZ EZ s H locs M → lv_has ls 8 [(0, .ref (Y.2.1 0)), (1, .int x1), (2, .int x2), (4, .int x4), (5, .int x5), (6, .int x6), (7, .int x7)] → W p l e ({ frames := 12, cells := 0, slots := 0, locals := 339 } : Room) s m args below meth c H locs 0 0 (sy_ZV below args s Y NZ EZ Q) (F0 m 235 ls [])) :
    ∀ (n : Nat) (M : sy_M) (x1 : Int32) (x2 : Int32) (x4 : Int32) (x5 : Int32) (x6 : Int32) (x7 : Int32) (H : Heap) (locs : List Loc) (ls : Array Slot), wX12_findItems_169 K_235 Q n M x1 x2 x4 x5 x6 x7 → sy_H Y NZ EZ s H locs M → lv_has ls 8 [(0, .ref (Y.2.1 0)), (1, .int x1), (2, .int x2), (4, .int x4), (5, .int x5), (6, .int x6), (7, .int x7)] → W p l e ({ frames := 12, cells := 0, slots := 0, locals := 339 } : Room) s m args below meth c H locs 0 0 (sy_ZV below args s Y NZ EZ Q) (F0 m 169 ls []) := by
  have hx := C.1.1
  have hb := C.1.2.1
  intro n
  induction n with
  | zero =>
    intro M x1 x2 x4 x5 x6 x7 H locs ls hq hh hl
    unfold wX12_findItems_169 at hq
    exact hq.elim
  | succ n ih =>
    intro M x1 x2 x4 x5 x6 x7 H locs ls hq hh hl
    unfold wX12_findItems_169 at hq
    refine lv_iload hx hb dX12_findItems_169 (lv_at hl 6 rfl) ?_
    refine lv_if_le (tgt := 235) hx hb dX12_findItems_171 (by decide) (fun c22 => ?_) (fun c22 => ?_)
    · have hq := hq.1 c22
      exact hK_235 M x1 x2 x4 x5 x6 x7 _ _ _ hq hh (lv_sub hl [0, 1, 2, 3, 4, 5, 6] rfl)
    · have hq := hq.2 c22
      refine lv_aload_n hx hb dX12_findItems_174 rfl (lv_at hl 0 rfl) ?_
      refine sy_get C hh (fun w h => mc (uZ_fX12 w h)) 0 (by decide) (oZ_0 Y) rfl 20 (by decide) (index := 43) (mc uZ_18) (v := .ref (Y.2.1 7)) rfl dX12_findItems_175 ?_
      refine lv_iload_n hx hb dX12_findItems_178 rfl (lv_at hl 1 rfl) ?_
      obtain ⟨n23, hn23, en23, hq⟩ := hq
      refine sy_zald C hh 7 (by decide) (aZ_7 Y) tZ_7 hn23 en23 (by decide) dX12_findItems_179 ?_
      refine lv_if_eq (tgt := 235) hx hb dX12_findItems_180 (by decide) (fun c24 => ?_) (fun c24 => ?_)
      · have hq := hq.1 c24
        exact hK_235 M x1 x2 x4 x5 x6 x7 _ _ _ hq hh (lv_sub hl [0, 1, 2, 3, 4, 5, 6] rfl)
      · have hq := hq.2 c24
        refine lv_aload_n hx hb dX12_findItems_183 rfl (lv_at hl 0 rfl) ?_
        refine sy_get C hh (fun w h => mc (uZ_fX12 w h)) 0 (by decide) (oZ_0 Y) rfl 32 (by decide) (index := 73) (mc uZ_28) (v := .ref (Y.2.1 17)) rfl dX12_findItems_184 ?_
        refine lv_iload hx hb dX12_findItems_187 (lv_at hl 6 rfl) ?_
        refine lv_iconst (v := (1 : Int32)) hx hb dX12_findItems_189 (by decide) ?_
        refine lv_isub hx hb dX12_findItems_190 ?_
        obtain ⟨n25, hn25, en25, hq⟩ := hq
        refine sy_iald C hh 17 (by decide) (aZ_17 Y) tZ_17 hn25 en25 (by decide) dX12_findItems_191 ?_
        refine lv_iload hx hb dX12_findItems_192 (lv_at hl 5 rfl) ?_
        refine lv_icmp_ge (tgt := 235) hx hb dX12_findItems_194 (by decide) (fun c26 => ?_) (fun c26 => ?_)
        · have hq := hq.1 c26
          exact hK_235 M x1 x2 x4 x5 x6 x7 _ _ _ hq hh (lv_sub hl [0, 1, 2, 3, 4, 5, 6] rfl)
        · have hq := hq.2 c26
          refine lv_aload_n hx hb dX12_findItems_197 rfl (lv_at hl 0 rfl) ?_
          refine sy_get C hh (fun w h => mc (uZ_fX12 w h)) 0 (by decide) (oZ_0 Y) rfl 31 (by decide) (index := 70) (mc uZ_27) (v := .ref (Y.2.1 16)) rfl dX12_findItems_198 ?_
          refine lv_iload hx hb dX12_findItems_201 (lv_at hl 6 rfl) ?_
          refine lv_aload_n hx hb dX12_findItems_203 rfl (lv_at hl 0 rfl) ?_
          refine sy_get C hh (fun w h => mc (uZ_fX12 w h)) 0 (by decide) (oZ_0 Y) rfl 31 (by decide) (index := 70) (mc uZ_27) (v := .ref (Y.2.1 16)) rfl dX12_findItems_204 ?_
          refine lv_iload hx hb dX12_findItems_207 (lv_at hl 6 rfl) ?_
          refine lv_iconst (v := (1 : Int32)) hx hb dX12_findItems_209 (by decide) ?_
          refine lv_isub hx hb dX12_findItems_210 ?_
          refine sy_iald C hh 16 (by decide) (aZ_16 Y) tZ_16 hn25 en25 (by decide) dX12_findItems_211 ?_
          obtain ⟨n27, hn27, en27, hq⟩ := hq
          refine sy_iast C hh 16 (by decide) (aZ_16 Y) tZ_16 hn27 en27 (by decide) dX12_findItems_212 (fun H locs hh => ?_)
          refine lv_aload_n hx hb dX12_findItems_213 rfl (lv_at hl 0 rfl) ?_
          refine sy_get C hh (fun w h => mc (uZ_fX12 w h)) 0 (by decide) (oZ_0 Y) rfl 32 (by decide) (index := 73) (mc uZ_28) (v := .ref (Y.2.1 17)) rfl dX12_findItems_214 ?_
          refine lv_iload hx hb dX12_findItems_217 (lv_at hl 6 rfl) ?_
          refine lv_aload_n hx hb dX12_findItems_219 rfl (lv_at hl 0 rfl) ?_
          refine sy_get C hh (fun w h => mc (uZ_fX12 w h)) 0 (by decide) (oZ_0 Y) rfl 32 (by decide) (index := 73) (mc uZ_28) (v := .ref (Y.2.1 17)) rfl dX12_findItems_220 ?_
          refine lv_iload hx hb dX12_findItems_223 (lv_at hl 6 rfl) ?_
          refine lv_iconst (v := (1 : Int32)) hx hb dX12_findItems_225 (by decide) ?_
          refine lv_isub hx hb dX12_findItems_226 ?_
          refine sy_iald C hh 17 (by decide) (aZ_17 Y) tZ_17 hn25 en25 (by decide) dX12_findItems_227 ?_
          refine sy_iast C hh 17 (by decide) (aZ_17 Y) tZ_17 hn27 en27 (by decide) dX12_findItems_228 (fun H locs hh => ?_)
          refine lv_iinc (v := (x7 + (-1 : Int32))) (lv' := [(7, .int (x7 + (-1 : Int32))), (0, .ref (Y.2.1 0)), (1, .int x1), (2, .int x2), (4, .int x4), (5, .int x5), (6, .int x6)]) hx hb dX12_findItems_229 hl (k := 6) rfl (sy_inc (by decide)) (by decide) rfl (fun ls hl => ?_)
          refine lv_goto (tgt := 169) hx hb dX12_findItems_232 (by decide) ?_
          exact ih (mu (mu M 16 n27 (M 16 n25)) 17 n27 (M 17 n25)) x1 x2 x4 x5 x6 (x7 + (-1 : Int32)) _ _ _ hq hh (lv_sub hl [1, 2, 3, 4, 5, 6, 0] rfl)

set_option maxHeartbeats 4000000 in
set_option maxRecDepth 100000 in
theorem kX12_findItems_235 (C : sy_C p m c cX12_findItems 8 s args vsX12_findItems RX12 meth none Y NZ tfZ) {Q : sy_M → Prop} {K_101 : sy_M → Int32 → Int32 → Int32 → Int32 → Prop} (hK_101 : ∀ (M : sy_M) (x1 : Int32) (x2 : Int32) (x4 : Int32) (x5 : Int32) (H : Heap) (locs : List Loc) (ls : Array Slot), K_101 M x1 x2 x4 x5 → sy_H Y NZ EZ s H locs M → lv_has ls 8 [(0, .ref (Y.2.1 0)), (1, .int x1), (2, .int x2), (4, .int x4), (5, .int x5)] → W p l e ({ frames := 12, cells := 0, slots := 0, locals := 339 } : Room) s m args below meth c H locs 0 0 (sy_ZV below args s Y NZ EZ Q) (F0 m 101 ls [])) :
    ∀ (M : sy_M) (x1 : Int32) (x2 : Int32) (x4 : Int32) (x5 : Int32) (x6 : Int32) (x7 : Int32) (H : Heap) (locs : List Loc) (ls : Array Slot), wX12_findItems_235 K_101 Q M x1 x2 x4 x5 x6 x7 → sy_H Y NZ EZ s H locs M → lv_has ls 8 [(0, .ref (Y.2.1 0)), (1, .int x1), (2, .int x2), (4, .int x4), (5, .int x5), (6, .int x6), (7, .int x7)] → W p l e ({ frames := 12, cells := 0, slots := 0, locals := 339 } : Room) s m args below meth c H locs 0 0 (sy_ZV below args s Y NZ EZ Q) (F0 m 235 ls []) := by
  have hx := C.1.1
  have hb := C.1.2.1
  intro M x1 x2 x4 x5 x6 x7 H locs ls hq hh hl
  unfold wX12_findItems_235 at hq
  refine lv_aload_n hx hb dX12_findItems_235 rfl (lv_at hl 0 rfl) ?_
  refine sy_get C hh (fun w h => mc (uZ_fX12 w h)) 0 (by decide) (oZ_0 Y) rfl 31 (by decide) (index := 70) (mc uZ_27) (v := .ref (Y.2.1 16)) rfl dX12_findItems_236 ?_
  refine lv_iload hx hb dX12_findItems_239 (lv_at hl 6 rfl) ?_
  refine lv_iload hx hb dX12_findItems_241 (lv_at hl 4 rfl) ?_
  obtain ⟨n35, hn35, en35, hq⟩ := hq
  refine sy_iast C hh 16 (by decide) (aZ_16 Y) tZ_16 hn35 en35 (by decide) dX12_findItems_243 (fun H locs hh => ?_)
  refine lv_aload_n hx hb dX12_findItems_244 rfl (lv_at hl 0 rfl) ?_
  refine sy_get C hh (fun w h => mc (uZ_fX12 w h)) 0 (by decide) (oZ_0 Y) rfl 32 (by decide) (index := 73) (mc uZ_28) (v := .ref (Y.2.1 17)) rfl dX12_findItems_245 ?_
  refine lv_iload hx hb dX12_findItems_248 (lv_at hl 6 rfl) ?_
  refine lv_iload hx hb dX12_findItems_250 (lv_at hl 5 rfl) ?_
  refine sy_iast C hh 17 (by decide) (aZ_17 Y) tZ_17 hn35 en35 (by decide) dX12_findItems_252 (fun H locs hh => ?_)
  refine lv_aload_n hx hb dX12_findItems_253 rfl (lv_at hl 0 rfl) ?_
  refine lv_dup hx hb dX12_findItems_254 rfl ?_
  refine sy_get C hh (fun w h => mc (uZ_fX12 w h)) 0 (by decide) (oZ_0 Y) rfl 30 (by decide) (index := 261) (mc uZ_195) (v := .int (M 0 30)) rfl dX12_findItems_255 ?_
  refine lv_iconst (v := (1 : Int32)) hx hb dX12_findItems_258 (by decide) ?_
  refine lv_iadd hx hb dX12_findItems_259 ?_
  refine sy_put C hh (fun w h => mc (uZ_fX12 w h)) tyX12 tyX12_ok nmX12 0 (by decide) (oZ_0 Y) rfl 30 (by decide) (index := 261) (mc uZ_195) rfl 30 ((M 0 30) + (1 : Int32)) (ty := .int) (tyX12_ok 30 (by decide)) rfl rfl (Nat.le_of_ble_eq_true rfl) (pX12_30 Y _ _ _) dX12_findItems_260 (fun H locs hh => ?_)
  refine lv_iinc (v := (x5 + (1 : Int32))) (lv' := [(5, .int (x5 + (1 : Int32))), (0, .ref (Y.2.1 0)), (1, .int x1), (2, .int x2), (4, .int x4), (6, .int x6), (7, .int x7)]) hx hb dX12_findItems_263 hl (k := 4) rfl (sy_inc (by decide)) (by decide) rfl (fun ls hl => ?_)
  refine lv_goto (tgt := 101) hx hb dX12_findItems_266 (by decide) ?_
  exact hK_101 (mu (mu (mu M 16 n35 x5) 17 n35 x6) 0 30 ((M 0 30) + (1 : Int32))) x1 x2 x4 (x5 + (1 : Int32)) _ _ _ hq hh (lv_sub hl [1, 2, 3, 4, 0] rfl)

set_option maxHeartbeats 4000000 in
set_option maxRecDepth 100000 in
theorem kX12_findItems_101 (C : sy_C p m c cX12_findItems 8 s args vsX12_findItems RX12 meth none Y NZ tfZ) {Q : sy_M → Prop} {K_269 : sy_M → Int32 → Int32 → Prop} (hK_269 : ∀ (M : sy_M) (x1 : Int32) (x4 : Int32) (H : Heap) (locs : List Loc) (ls : Array Slot), K_269 M x1 x4 → sy_H Y NZ EZ s H locs M → lv_has ls 8 [(0, .ref (Y.2.1 0)), (1, .int x1), (4, .int x4)] → W p l e ({ frames := 12, cells := 0, slots := 0, locals := 339 } : Room) s m args below meth c H locs 0 0 (sy_ZV below args s Y NZ EZ Q) (F0 m 269 ls [])) :
    ∀ (n : Nat) (M : sy_M) (x1 : Int32) (x2 : Int32) (x4 : Int32) (x5 : Int32) (H : Heap) (locs : List Loc) (ls : Array Slot), wX12_findItems_101 K_269 Q n M x1 x2 x4 x5 → sy_H Y NZ EZ s H locs M → lv_has ls 8 [(0, .ref (Y.2.1 0)), (1, .int x1), (2, .int x2), (4, .int x4), (5, .int x5)] → W p l e ({ frames := 12, cells := 0, slots := 0, locals := 339 } : Room) s m args below meth c H locs 0 0 (sy_ZV below args s Y NZ EZ Q) (F0 m 101 ls []) := by
  have hx := C.1.1
  have hb := C.1.2.1
  intro n
  induction n with
  | zero =>
    intro M x1 x2 x4 x5 H locs ls hq hh hl
    unfold wX12_findItems_101 at hq
    exact hq.elim
  | succ n ih =>
    intro M x1 x2 x4 x5 H locs ls hq hh hl
    unfold wX12_findItems_101 at hq
    refine lv_iload hx hb dX12_findItems_101 (lv_at hl 4 rfl) ?_
    refine lv_aload_n hx hb dX12_findItems_103 rfl (lv_at hl 0 rfl) ?_
    refine sy_get C hh (fun w h => mc (uZ_fX12 w h)) 0 (by decide) (oZ_0 Y) rfl 13 (by decide) (index := 243) (mc uZ_175) (v := .int (M 0 13)) rfl dX12_findItems_104 ?_
    refine lv_icmp_ge (tgt := 269) hx hb dX12_findItems_107 (by decide) (fun c16 => ?_) (fun c16 => ?_)
    · have hq := hq.1 c16
      exact hK_269 M x1 x4 _ _ _ hq hh (lv_sub hl [0, 1, 3] rfl)
    · have hq := hq.2 c16
      refine lv_aload_n hx hb dX12_findItems_110 rfl (lv_at hl 0 rfl) ?_
      refine sy_get C hh (fun w h => mc (uZ_fX12 w h)) 0 (by decide) (oZ_0 Y) rfl 15 (by decide) (index := 26) (mc uZ_12) (v := .ref (Y.2.1 2)) rfl dX12_findItems_111 ?_
      refine lv_iload hx hb dX12_findItems_114 (lv_at hl 4 rfl) ?_
      obtain ⟨n17, hn17, en17, hq⟩ := hq
      refine sy_iald C hh 2 (by decide) (aZ_2 Y) tZ_2 hn17 en17 (by decide) dX12_findItems_116 ?_
      refine lv_iload_n hx hb dX12_findItems_117 rfl (lv_at hl 1 rfl) ?_
      refine lv_icmp_eq (tgt := 124) hx hb dX12_findItems_118 (by decide) (fun c18 => ?_) (fun c18 => ?_)
      · have hq := hq.1 c18
        refine lv_aload_n hx hb dX12_findItems_124 rfl (lv_at hl 0 rfl) ?_
        refine lv_iload hx hb dX12_findItems_125 (lv_at hl 4 rfl) ?_
        refine lv_iload_n hx hb dX12_findItems_127 rfl (lv_at hl 2 rfl) ?_
        refine sy_cIV C hh (As := [.int x5, .int x2]) (rest := []) 0 (by decide) (oZ_0 Y) rfl (mX12_sizeOf l Y 8 _ M x5 x2 _ hq) (cwV 2 C.1.2.2.2.2 (sy_goodV uZ_good uZ_187 uZ_188 uZ_189 uZ_55 uZ_186 _) rfl rfl rfl hdX12_sizeOf ⟨Nat.le_of_ble_eq_true rfl, Nat.le_of_ble_eq_true rfl⟩) rfl hl.1 rfl (Nat.le_of_ble_eq_true rfl) dX12_findItems_128 (fun r20 M19 H locs hq hh => ?_)
        refine lv_istore (lv' := [(6, .int r20), (0, .ref (Y.2.1 0)), (1, .int x1), (2, .int x2), (4, .int x4), (5, .int x5)]) hx hb dX12_findItems_131 hl (by decide) rfl (fun ls hl => ?_)
        refine lv_iload hx hb dX12_findItems_133 (lv_at hl 4 rfl) ?_
        refine lv_if_eq (tgt := 163) hx hb dX12_findItems_135 (by decide) (fun c21 => ?_) (fun c21 => ?_)
        · have hq := hq.1 c21
          refine lv_aload_n hx hb dX12_findItems_163 rfl (lv_at hl 1 rfl) ?_
          refine sy_get C hh (fun w h => mc (uZ_fX12 w h)) 0 (by decide) (oZ_0 Y) rfl 30 (by decide) (index := 261) (mc uZ_195) (v := .int (M19 0 30)) rfl dX12_findItems_164 ?_
          refine lv_istore (lv' := [(7, .int (M19 0 30)), (6, .int r20), (0, .ref (Y.2.1 0)), (1, .int x1), (2, .int x2), (4, .int x4), (5, .int x5)]) hx hb dX12_findItems_167 hl (by decide) rfl (fun ls hl => ?_)
          obtain ⟨n41, hq⟩ := hq
          refine kX12_findItems_169 C (fun M28 x1_29 x2_30 x4_31 x5_32 x6_33 x7_34 H locs ls hq hh hl => ?_) n41 M19 x1 x2 x4 x5 r20 (M19 0 30) _ _ _ hq hh (lv_sub hl [2, 3, 4, 5, 6, 1, 0] rfl)
          · refine kX12_findItems_235 C (fun M36 x1_37 x2_38 x4_39 x5_40 H locs ls hq hh hl => ?_) M28 x1_29 x2_30 x4_31 x5_32 x6_33 x7_34 _ _ _ hq hh (lv_sub hl [0, 1, 2, 3, 4, 5, 6] rfl)
            · exact ih M36 x1_37 x2_38 x4_39 x5_40 _ _ _ hq hh (lv_sub hl [0, 1, 2, 3, 4] rfl)
        · have hq := hq.2 c21
          refine lv_aload_n hx hb dX12_findItems_138 rfl (lv_at hl 1 rfl) ?_
          refine lv_iload hx hb dX12_findItems_139 (lv_at hl 5 rfl) ?_
          refine lv_iload_n hx hb dX12_findItems_141 rfl (lv_at hl 2 rfl) ?_
          refine lv_iload_n hx hb dX12_findItems_142 rfl (lv_at hl 3 rfl) ?_
          refine sy_cIV C hh (As := [.int x5, .int x1, .int x2]) (rest := []) 0 (by decide) (oZ_0 Y) rfl (mX12_isSmallOne l Y _ M19 x5 x1 x2 _ hq) (cwV 3 C.1.2.2.2.2 (sy_goodV uZ_good uZ_278 uZ_279 uZ_280 uZ_55 uZ_276 _) rfl rfl rfl hdX12_isSmallOne ⟨Nat.le_of_ble_eq_true rfl, Nat.le_of_ble_eq_true rfl⟩) rfl hl.1 rfl (Nat.le_of_ble_eq_true rfl) dX12_findItems_143 (fun r43 M42 H locs hq hh => ?_)
          refine lv_if_eq (tgt := 163) hx hb dX12_findItems_146 (by decide) (fun c44 => ?_) (fun c44 => ?_)
          · have hq := hq.1 c44
            refine lv_aload_n hx hb dX12_findItems_163 rfl (lv_at hl 1 rfl) ?_
            refine sy_get C hh (fun w h => mc (uZ_fX12 w h)) 0 (by decide) (oZ_0 Y) rfl 30 (by decide) (index := 261) (mc uZ_195) (v := .int (M42 0 30)) rfl dX12_findItems_164 ?_
            refine lv_istore (lv' := [(7, .int (M42 0 30)), (6, .int r20), (0, .ref (Y.2.1 0)), (1, .int x1), (2, .int x2), (4, .int x4), (5, .int x5)]) hx hb dX12_findItems_167 hl (by decide) rfl (fun ls hl => ?_)
            obtain ⟨n57, hq⟩ := hq
            refine kX12_findItems_169 C (fun M45 x1_46 x2_47 x4_48 x5_49 x6_50 x7_51 H locs ls hq hh hl => ?_) n57 M42 x1 x2 x4 x5 r20 (M42 0 30) _ _ _ hq hh (lv_sub hl [2, 3, 4, 5, 6, 1, 0] rfl)
            · refine kX12_findItems_235 C (fun M52 x1_53 x2_54 x4_55 x5_56 H locs ls hq hh hl => ?_) M45 x1_46 x2_47 x4_48 x5_49 x6_50 x7_51 _ _ _ hq hh (lv_sub hl [0, 1, 2, 3, 4, 5, 6] rfl)
              · exact ih M52 x1_53 x2_54 x4_55 x5_56 _ _ _ hq hh (lv_sub hl [0, 1, 2, 3, 4] rfl)
          · have hq := hq.2 c44
            refine lv_aload_n hx hb dX12_findItems_149 rfl (lv_at hl 1 rfl) ?_
            refine sy_get C hh (fun w h => mc (uZ_fX12 w h)) 0 (by decide) (oZ_0 Y) rfl 51 (by decide) (index := 127) (mc uZ_46) (v := .ref (Y.2.1 35)) rfl dX12_findItems_150 ?_
            refine lv_iload_n hx hb dX12_findItems_153 rfl (lv_at hl 2 rfl) ?_
            refine lv_dup2_11 hx hb dX12_findItems_154 rfl rfl ?_
            obtain ⟨n58, hn58, en58, hq⟩ := hq
            refine sy_iald C hh 35 (by decide) (aZ_35 Y) tZ_35 hn58 en58 (by decide) dX12_findItems_155 ?_
            refine lv_iload hx hb dX12_findItems_156 (lv_at hl 0 rfl) ?_
            refine lv_iadd hx hb dX12_findItems_158 ?_
            refine sy_iast C hh 35 (by decide) (aZ_35 Y) tZ_35 hn58 en58 (by decide) dX12_findItems_159 (fun H locs hh => ?_)
            refine lv_goto (tgt := 263) hx hb dX12_findItems_160 (by decide) ?_
            refine lv_iinc (v := (x5 + (1 : Int32))) (lv' := [(5, .int (x5 + (1 : Int32))), (6, .int r20), (0, .ref (Y.2.1 0)), (1, .int x1), (2, .int x2), (4, .int x4)]) hx hb dX12_findItems_263 hl (k := 5) rfl (sy_inc (by decide)) (by decide) rfl (fun ls hl => ?_)
            refine lv_goto (tgt := 101) hx hb dX12_findItems_266 (by decide) ?_
            exact ih (mu M42 35 n58 ((M42 35 n58) + r20)) x1 x2 x4 (x5 + (1 : Int32)) _ _ _ hq hh (lv_sub hl [2, 3, 4, 5, 0] rfl)
      · have hq := hq.2 c18
        refine lv_goto (tgt := 263) hx hb dX12_findItems_121 (by decide) ?_
        refine lv_iinc (v := (x5 + (1 : Int32))) (lv' := [(5, .int (x5 + (1 : Int32))), (0, .ref (Y.2.1 0)), (1, .int x1), (2, .int x2), (4, .int x4)]) hx hb dX12_findItems_263 hl (k := 4) rfl (sy_inc (by decide)) (by decide) rfl (fun ls hl => ?_)
        refine lv_goto (tgt := 101) hx hb dX12_findItems_266 (by decide) ?_
        exact ih M x1 x2 x4 (x5 + (1 : Int32)) _ _ _ hq hh (lv_sub hl [1, 2, 3, 4, 0] rfl)

set_option maxHeartbeats 4000000 in
set_option maxRecDepth 100000 in
theorem kX12_findItems_319 (C : sy_C p m c cX12_findItems 8 s args vsX12_findItems RX12 meth none Y NZ tfZ) {Q : sy_M → Prop} :
    ∀ (n : Nat) (M : sy_M) (x5 : Int32) (H : Heap) (locs : List Loc) (ls : Array Slot), wX12_findItems_319 Q n M x5 → sy_H Y NZ EZ s H locs M → lv_has ls 8 [(0, .ref (Y.2.1 0)), (5, .int x5)] → W p l e ({ frames := 12, cells := 0, slots := 0, locals := 339 } : Room) s m args below meth c H locs 0 0 (sy_ZV below args s Y NZ EZ Q) (F0 m 319 ls []) := by
  have hx := C.1.1
  have hb := C.1.2.1
  intro n
  induction n with
  | zero =>
    intro M x5 H locs ls hq hh hl
    unfold wX12_findItems_319 at hq
    exact hq.elim
  | succ n ih =>
    intro M x5 H locs ls hq hh hl
    unfold wX12_findItems_319 at hq
    refine lv_iload hx hb dX12_findItems_319 (lv_at hl 1 rfl) ?_
    refine lv_aload_n hx hb dX12_findItems_321 rfl (lv_at hl 0 rfl) ?_
    refine sy_get C hh (fun w h => mc (uZ_fX12 w h)) 0 (by decide) (oZ_0 Y) rfl 30 (by decide) (index := 261) (mc uZ_195) (v := .int (M 0 30)) rfl dX12_findItems_322 ?_
    refine lv_icmp_ge (tgt := 358) hx hb dX12_findItems_325 (by decide) (fun c64 => ?_) (fun c64 => ?_)
    · have hq := hq.1 c64
      exact sy_vret C hh dX12_findItems_358 hq
    · have hq := hq.2 c64
      refine lv_aload_n hx hb dX12_findItems_328 rfl (lv_at hl 0 rfl) ?_
      refine sy_get C hh (fun w h => mc (uZ_fX12 w h)) 0 (by decide) (oZ_0 Y) rfl 38 (by decide) (index := 91) (mc uZ_34) (v := .ref (Y.2.1 23)) rfl dX12_findItems_329 ?_
      refine lv_iload hx hb dX12_findItems_332 (lv_at hl 1 rfl) ?_
      refine lv_iconst (v := (1 : Int32)) hx hb dX12_findItems_334 (by decide) ?_
      refine lv_iadd hx hb dX12_findItems_335 ?_
      refine lv_aload_n hx hb dX12_findItems_336 rfl (lv_at hl 0 rfl) ?_
      refine sy_get C hh (fun w h => mc (uZ_fX12 w h)) 0 (by decide) (oZ_0 Y) rfl 38 (by decide) (index := 91) (mc uZ_34) (v := .ref (Y.2.1 23)) rfl dX12_findItems_337 ?_
      refine lv_iload hx hb dX12_findItems_340 (lv_at hl 1 rfl) ?_
      obtain ⟨n65, hn65, en65, hq⟩ := hq
      refine sy_iald C hh 23 (by decide) (aZ_23 Y) tZ_23 hn65 en65 (by decide) dX12_findItems_342 ?_
      refine lv_aload_n hx hb dX12_findItems_343 rfl (lv_at hl 0 rfl) ?_
      refine sy_get C hh (fun w h => mc (uZ_fX12 w h)) 0 (by decide) (oZ_0 Y) rfl 32 (by decide) (index := 73) (mc uZ_28) (v := .ref (Y.2.1 17)) rfl dX12_findItems_344 ?_
      refine lv_iload hx hb dX12_findItems_347 (lv_at hl 1 rfl) ?_
      obtain ⟨b66, hq⟩ := hq
      refine sy_iald C hh 17 (by decide) (aZ_17 Y) tZ_17 b66 en65 (by decide) dX12_findItems_349 ?_
      refine lv_iadd hx hb dX12_findItems_350 ?_
      obtain ⟨n67, hn67, en67, hq⟩ := hq
      refine sy_iast C hh 23 (by decide) (aZ_23 Y) tZ_23 hn67 en67 (by decide) dX12_findItems_351 (fun H locs hh => ?_)
      refine lv_iinc (v := (x5 + (1 : Int32))) (lv' := [(5, .int (x5 + (1 : Int32))), (0, .ref (Y.2.1 0))]) hx hb dX12_findItems_352 hl (k := 1) rfl (sy_inc (by decide)) (by decide) rfl (fun ls hl => ?_)
      refine lv_goto (tgt := 319) hx hb dX12_findItems_355 (by decide) ?_
      exact ih (mu M 23 n67 ((M 23 n65) + (M 17 n65))) (x5 + (1 : Int32)) _ _ _ hq hh (lv_sub hl [1, 0] rfl)

set_option maxHeartbeats 4000000 in
set_option maxRecDepth 100000 in
theorem kX12_findItems_309 (C : sy_C p m c cX12_findItems 8 s args vsX12_findItems RX12 meth none Y NZ tfZ) {Q : sy_M → Prop} :
    ∀ (M : sy_M) (H : Heap) (locs : List Loc) (ls : Array Slot), wX12_findItems_309 Q M → sy_H Y NZ EZ s H locs M → lv_has ls 8 [(0, .ref (Y.2.1 0))] → W p l e ({ frames := 12, cells := 0, slots := 0, locals := 339 } : Room) s m args below meth c H locs 0 0 (sy_ZV below args s Y NZ EZ Q) (F0 m 309 ls []) := by
  have hx := C.1.1
  have hb := C.1.2.1
  intro M H locs ls hq hh hl
  unfold wX12_findItems_309 at hq
  refine lv_aload_n hx hb dX12_findItems_309 rfl (lv_at hl 0 rfl) ?_
  refine sy_get C hh (fun w h => mc (uZ_fX12 w h)) 0 (by decide) (oZ_0 Y) rfl 38 (by decide) (index := 91) (mc uZ_34) (v := .ref (Y.2.1 23)) rfl dX12_findItems_310 ?_
  refine lv_iconst (v := (0 : Int32)) hx hb dX12_findItems_313 (by decide) ?_
  refine lv_iconst (v := (0 : Int32)) hx hb dX12_findItems_314 (by decide) ?_
  obtain ⟨n63, hn63, en63, hq⟩ := hq
  refine sy_iast C hh 23 (by decide) (aZ_23 Y) tZ_23 hn63 en63 (by decide) dX12_findItems_315 (fun H locs hh => ?_)
  refine lv_iconst (v := (0 : Int32)) hx hb dX12_findItems_316 (by decide) ?_
  refine lv_istore (lv' := [(5, .int (0 : Int32)), (0, .ref (Y.2.1 0))]) hx hb dX12_findItems_317 hl (by decide) rfl (fun ls hl => ?_)
  obtain ⟨n68, hq⟩ := hq
  refine kX12_findItems_319 C  n68 (mu M 23 n63 (0 : Int32)) (0 : Int32) _ _ _ hq hh (lv_sub hl [1, 0] rfl)

set_option maxHeartbeats 4000000 in
set_option maxRecDepth 100000 in
theorem kX12_findItems_88 (C : sy_C p m c cX12_findItems 8 s args vsX12_findItems RX12 meth none Y NZ tfZ) {Q : sy_M → Prop} :
    ∀ (M : sy_M) (x1 : Int32) (x2 : Int32) (x4 : Int32) (s1 : Int32) (s2 : Int32) (H : Heap) (locs : List Loc) (ls : Array Slot), wX12_findItems_88 Q M x1 x2 x4 s1 s2 → sy_H Y NZ EZ s H locs M → lv_has ls 8 [(0, .ref (Y.2.1 0)), (1, .int x1), (2, .int x2), (4, .int x4)] → W p l e ({ frames := 12, cells := 0, slots := 0, locals := 339 } : Room) s m args below meth c H locs 0 0 (sy_ZV below args s Y NZ EZ Q) (F0 m 88 ls [.int s2, .int s1, .ref (Y.2.1 34)]) := by
  have hx := C.1.1
  have hb := C.1.2.1
  intro M x1 x2 x4 s1 s2 H locs ls hq hh hl
  unfold wX12_findItems_88 at hq
  obtain ⟨n14, hn14, en14, hq⟩ := hq
  refine sy_iast C hh 34 (by decide) (aZ_34 Y) tZ_34 hn14 en14 (by decide) dX12_findItems_88 (fun H locs hh => ?_)
  refine lv_aload_n hx hb dX12_findItems_89 rfl (lv_at hl 0 rfl) ?_
  refine sy_get C hh (fun w h => mc (uZ_fX12 w h)) 0 (by decide) (oZ_0 Y) rfl 51 (by decide) (index := 127) (mc uZ_46) (v := .ref (Y.2.1 35)) rfl dX12_findItems_90 ?_
  refine lv_iload_n hx hb dX12_findItems_93 rfl (lv_at hl 1 rfl) ?_
  refine lv_iconst (v := (0 : Int32)) hx hb dX12_findItems_94 (by decide) ?_
  obtain ⟨n15, hn15, en15, hq⟩ := hq
  refine sy_iast C hh 35 (by decide) (aZ_35 Y) tZ_35 hn15 en15 (by decide) dX12_findItems_95 (fun H locs hh => ?_)
  refine lv_iload_n hx hb dX12_findItems_96 rfl (lv_at hl 1 rfl) ?_
  refine lv_iconst (v := (1 : Int32)) hx hb dX12_findItems_97 (by decide) ?_
  refine lv_iadd hx hb dX12_findItems_98 ?_
  refine lv_istore (lv' := [(5, .int (x1 + (1 : Int32))), (0, .ref (Y.2.1 0)), (1, .int x1), (2, .int x2), (4, .int x4)]) hx hb dX12_findItems_99 hl (by decide) rfl (fun ls hl => ?_)
  obtain ⟨n71, hq⟩ := hq
  refine kX12_findItems_101 C (fun M59 x1_60 x4_61 H locs ls hq hh hl => ?_) n71 (mu (mu M 34 n14 s2) 35 n15 (0 : Int32)) x1 x2 x4 (x1 + (1 : Int32)) _ _ _ hq hh (lv_sub hl [1, 2, 3, 4, 0] rfl)
  · refine lv_iload hx hb dX12_findItems_269 (lv_at hl 2 rfl) ?_
    refine lv_if_eq (tgt := 309) hx hb dX12_findItems_271 (by decide) (fun c62 => ?_) (fun c62 => ?_)
    · have hq := hq.1 c62
      refine kX12_findItems_309 C  M59  _ _ _ hq hh (lv_sub hl [0] rfl)
    · have hq := hq.2 c62
      refine lv_aload_n hx hb dX12_findItems_274 rfl (lv_at hl 0 rfl) ?_
      refine sy_get C hh (fun w h => mc (uZ_fX12 w h)) 0 (by decide) (oZ_0 Y) rfl 31 (by decide) (index := 70) (mc uZ_27) (v := .ref (Y.2.1 16)) rfl dX12_findItems_275 ?_
      refine lv_aload_n hx hb dX12_findItems_278 rfl (lv_at hl 0 rfl) ?_
      refine sy_get C hh (fun w h => mc (uZ_fX12 w h)) 0 (by decide) (oZ_0 Y) rfl 30 (by decide) (index := 261) (mc uZ_195) (v := .int (M59 0 30)) rfl dX12_findItems_279 ?_
      refine lv_iconst (v := (-1 : Int32)) hx hb dX12_findItems_282 (by decide) ?_
      obtain ⟨n69, hn69, en69, hq⟩ := hq
      refine sy_iast C hh 16 (by decide) (aZ_16 Y) tZ_16 hn69 en69 (by decide) dX12_findItems_283 (fun H locs hh => ?_)
      refine lv_aload_n hx hb dX12_findItems_284 rfl (lv_at hl 0 rfl) ?_
      refine sy_get C hh (fun w h => mc (uZ_fX12 w h)) 0 (by decide) (oZ_0 Y) rfl 32 (by decide) (index := 73) (mc uZ_28) (v := .ref (Y.2.1 17)) rfl dX12_findItems_285 ?_
      refine lv_aload_n hx hb dX12_findItems_288 rfl (lv_at hl 0 rfl) ?_
      refine sy_get C hh (fun w h => mc (uZ_fX12 w h)) 0 (by decide) (oZ_0 Y) rfl 30 (by decide) (index := 261) (mc uZ_195) (v := .int (M59 0 30)) rfl dX12_findItems_289 ?_
      refine lv_aload_n hx hb dX12_findItems_292 rfl (lv_at hl 0 rfl) ?_
      refine sy_get C hh (fun w h => mc (uZ_fX12 w h)) 0 (by decide) (oZ_0 Y) rfl 51 (by decide) (index := 127) (mc uZ_46) (v := .ref (Y.2.1 35)) rfl dX12_findItems_293 ?_
      refine lv_iload_n hx hb dX12_findItems_296 rfl (lv_at hl 1 rfl) ?_
      obtain ⟨n70, hn70, en70, hq⟩ := hq
      refine sy_iald C hh 35 (by decide) (aZ_35 Y) tZ_35 hn70 en70 (by decide) dX12_findItems_297 ?_
      refine sy_iast C hh 17 (by decide) (aZ_17 Y) tZ_17 hn69 en69 (by decide) dX12_findItems_298 (fun H locs hh => ?_)
      refine lv_aload_n hx hb dX12_findItems_299 rfl (lv_at hl 0 rfl) ?_
      refine lv_dup hx hb dX12_findItems_300 rfl ?_
      refine sy_get C hh (fun w h => mc (uZ_fX12 w h)) 0 (by decide) (oZ_0 Y) rfl 30 (by decide) (index := 261) (mc uZ_195) (v := .int (M59 0 30)) rfl dX12_findItems_301 ?_
      refine lv_iconst (v := (1 : Int32)) hx hb dX12_findItems_304 (by decide) ?_
      refine lv_iadd hx hb dX12_findItems_305 ?_
      refine sy_put C hh (fun w h => mc (uZ_fX12 w h)) tyX12 tyX12_ok nmX12 0 (by decide) (oZ_0 Y) rfl 30 (by decide) (index := 261) (mc uZ_195) rfl 30 ((M59 0 30) + (1 : Int32)) (ty := .int) (tyX12_ok 30 (by decide)) rfl rfl (Nat.le_of_ble_eq_true rfl) (pX12_30 Y _ _ _) dX12_findItems_306 (fun H locs hh => ?_)
      refine kX12_findItems_309 C  (mu (mu (mu M59 16 n69 (-1 : Int32)) 17 n69 (M59 35 n70)) 0 30 ((M59 0 30) + (1 : Int32)))  _ _ _ hq hh (lv_sub hl [0] rfl)

set_option maxHeartbeats 4000000 in
set_option maxRecDepth 100000 in
theorem kX12_findItems_66 (C : sy_C p m c cX12_findItems 8 s args vsX12_findItems RX12 meth none Y NZ tfZ) {Q : sy_M → Prop} :
    ∀ (M : sy_M) (x1 : Int32) (x2 : Int32) (x3 : Int32) (s0 : Int32) (H : Heap) (locs : List Loc) (ls : Array Slot), wX12_findItems_66 Q M x1 x2 x3 s0 → sy_H Y NZ EZ s H locs M → lv_has ls 8 [(0, .ref (Y.2.1 0)), (1, .int x1), (2, .int x2), (3, .int x3)] → W p l e ({ frames := 12, cells := 0, slots := 0, locals := 339 } : Room) s m args below meth c H locs 0 0 (sy_ZV below args s Y NZ EZ Q) (F0 m 66 ls [.int s0]) := by
  have hx := C.1.1
  have hb := C.1.2.1
  intro M x1 x2 x3 s0 H locs ls hq hh hl
  unfold wX12_findItems_66 at hq
  refine lv_istore (lv' := [(4, .int s0), (0, .ref (Y.2.1 0)), (1, .int x1), (2, .int x2), (3, .int x3)]) hx hb dX12_findItems_66 hl (by decide) rfl (fun ls hl => ?_)
  refine lv_aload_n hx hb dX12_findItems_68 rfl (lv_at hl 1 rfl) ?_
  refine lv_iconst (v := (0 : Int32)) hx hb dX12_findItems_69 (by decide) ?_
  refine sy_put C hh (fun w h => mc (uZ_fX12 w h)) tyX12 tyX12_ok nmX12 0 (by decide) (oZ_0 Y) rfl 30 (by decide) (index := 261) (mc uZ_195) rfl 30 (0 : Int32) (ty := .int) (tyX12_ok 30 (by decide)) rfl rfl (Nat.le_of_ble_eq_true rfl) (pX12_30 Y _ _ _) dX12_findItems_70 (fun H locs hh => ?_)
  refine lv_aload_n hx hb dX12_findItems_73 rfl (lv_at hl 1 rfl) ?_
  refine sy_get C hh (fun w h => mc (uZ_fX12 w h)) 0 (by decide) (oZ_0 Y) rfl 50 (by decide) (index := 124) (mc uZ_45) (v := .ref (Y.2.1 34)) rfl dX12_findItems_74 ?_
  refine lv_iload_n hx hb dX12_findItems_77 rfl (lv_at hl 2 rfl) ?_
  refine lv_iload hx hb dX12_findItems_78 (lv_at hl 0 rfl) ?_
  refine lv_if_eq (tgt := 87) hx hb dX12_findItems_80 (by decide) (fun c13 => ?_) (fun c13 => ?_)
  · have hq := hq.1 c13
    refine lv_iconst (v := (0 : Int32)) hx hb dX12_findItems_87 (by decide) ?_
    refine kX12_findItems_88 C  (mu M 0 30 (0 : Int32)) x1 x2 s0 x1 (0 : Int32) _ _ _ hq hh (lv_sub hl [1, 2, 3, 0] rfl)
  · have hq := hq.2 c13
    refine lv_iload_n hx hb dX12_findItems_83 rfl (lv_at hl 4 rfl) ?_
    refine lv_goto (tgt := 88) hx hb dX12_findItems_84 (by decide) ?_
    refine kX12_findItems_88 C  (mu M 0 30 (0 : Int32)) x1 x2 s0 x1 x3 _ _ _ hq hh (lv_sub hl [1, 2, 3, 0] rfl)

set_option maxHeartbeats 4000000 in
set_option maxRecDepth 100000 in
theorem kX12_findItems_65 (C : sy_C p m c cX12_findItems 8 s args vsX12_findItems RX12 meth none Y NZ tfZ) {Q : sy_M → Prop} :
    ∀ (M : sy_M) (x1 : Int32) (x2 : Int32) (x3 : Int32) (H : Heap) (locs : List Loc) (ls : Array Slot), wX12_findItems_65 Q M x1 x2 x3 → sy_H Y NZ EZ s H locs M → lv_has ls 8 [(0, .ref (Y.2.1 0)), (1, .int x1), (2, .int x2), (3, .int x3)] → W p l e ({ frames := 12, cells := 0, slots := 0, locals := 339 } : Room) s m args below meth c H locs 0 0 (sy_ZV below args s Y NZ EZ Q) (F0 m 65 ls []) := by
  have hx := C.1.1
  have hb := C.1.2.1
  intro M x1 x2 x3 H locs ls hq hh hl
  unfold wX12_findItems_65 at hq
  refine lv_iconst (v := (0 : Int32)) hx hb dX12_findItems_65 (by decide) ?_
  refine kX12_findItems_66 C  M x1 x2 x3 (0 : Int32) _ _ _ hq hh (lv_sub hl [0, 1, 2, 3] rfl)

end
set_option maxHeartbeats 4000000 in
set_option maxRecDepth 100000 in
theorem mX12_findItems (l : Launch) (Y : sy_Y) (sz : Nat) (M : sy_M) (a1 : Int32) (a2 : Int32) (Q : sy_M → Prop) (hq : wX12_findItems M a1 a2 Q) : Met l yX12_findItems vsX12_findItems ({ frames := 12, cells := 0, slots := 0, locals := 339 } : Room) (va_Pc [.ref (Y.2.1 0), .int a1, .int a2] (sy_pre Y NZ EZ tfZ sz M)) (sy_QV Y NZ EZ sz Q) 0 0 (sy_A NZ Y.2.1 sz) := by
  refine sy_metV (by decide) rfl (Nat.le_of_ble_eq_true rfl) ?_
  intro p e s m args below meth c C ls hl hh
  have hx := C.1.1
  have hb := C.1.2.1
  have hl : lv_has ls 8 [(0, .ref (Y.2.1 0)), (1, .int a1), (2, .int a2)] := hl
  unfold wX12_findItems at hq
  refine lv_iconst (v := (0 : Int32)) hx hb dX12_findItems_0 (by decide) ?_
  refine lv_istore_n (lv' := [(3, .int (0 : Int32)), (0, .ref (Y.2.1 0)), (1, .int a1), (2, .int a2)]) hx hb dX12_findItems_1 rfl hl (by decide) rfl (fun ls hl => ?_)
  refine lv_iload_n hx hb dX12_findItems_2 rfl (lv_at hl 2 rfl) ?_
  refine lv_iconst (v := (1 : Int32)) hx hb dX12_findItems_3 (by decide) ?_
  refine lv_iadd hx hb dX12_findItems_4 ?_
  refine lv_istore (lv' := [(4, .int (a1 + (1 : Int32))), (3, .int (0 : Int32)), (0, .ref (Y.2.1 0)), (1, .int a1), (2, .int a2)]) hx hb dX12_findItems_5 hl (by decide) rfl (fun ls hl => ?_)
  obtain ⟨n73, hq⟩ := hq
  refine kX12_findItems_7 C (fun M7 x1_8 x2_9 x3_10 H locs ls hq hh hl => ?_) n73 M a1 a2 (0 : Int32) (a1 + (1 : Int32)) _ _ _ hq hh (lv_sub hl [2, 3, 4, 1, 0] rfl)
  · refine lv_aload_n hx hb dX12_findItems_47 rfl (lv_at hl 0 rfl) ?_
    refine sy_get C hh (fun w h => mc (uZ_fX12 w h)) 0 (by decide) (oZ_0 Y) rfl 29 (by decide) (index := 67) (mc uZ_26) (v := .ref (Y.2.1 15)) rfl dX12_findItems_48 ?_
    refine lv_iload_n hx hb dX12_findItems_51 rfl (lv_at hl 1 rfl) ?_
    obtain ⟨n11, hn11, en11, hq⟩ := hq
    refine sy_zald C hh 15 (by decide) (aZ_15 Y) tZ_15 hn11 en11 (by decide) dX12_findItems_52 ?_
    refine lv_if_ne (tgt := 65) hx hb dX12_findItems_53 (by decide) (fun c12 => ?_) (fun c12 => ?_)
    · have hq := hq.1 c12
      refine kX12_findItems_65 C  M7 x1_8 x2_9 x3_10 _ _ _ hq hh (lv_sub hl [0, 1, 2, 3] rfl)
    · have hq := hq.2 c12
      refine lv_iload_n hx hb dX12_findItems_56 rfl (lv_at hl 3 rfl) ?_
      refine lv_iconst (v := (nI 2)) hx hb dX12_findItems_57 (by decide) ?_
      refine lv_icmp_lt (tgt := 65) hx hb dX12_findItems_58 (by decide) (fun c72 => ?_) (fun c72 => ?_)
      · have hq := hq.1 c72
        refine kX12_findItems_65 C  M7 x1_8 x2_9 x3_10 _ _ _ hq hh (lv_sub hl [0, 1, 2, 3] rfl)
      · have hq := hq.2 c72
        refine lv_iconst (v := (1 : Int32)) hx hb dX12_findItems_61 (by decide) ?_
        refine lv_goto (tgt := 66) hx hb dX12_findItems_62 (by decide) ?_
        refine kX12_findItems_66 C  M7 x1_8 x2_9 x3_10 (1 : Int32) _ _ _ hq hh (lv_sub hl [0, 1, 2, 3] rfl)

